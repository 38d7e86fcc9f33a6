theorem dL_law_2509 : decode cL_law 2509 = .ok (.aload_n 1, 1) := by decide +kernel
theorem dL_law_2510 : decode cL_law 2510 = .ok (.aload_n 0, 1) := by decide +kernel
theorem dL_law_2511 : decode cL_law 2511 = .ok (.iload 4, 2) := by decide +kernel
theorem dL_law_2513 : decode cL_law 2513 = .ok (.iconst 1, 1) := by decide +kernel
theorem dL_law_2514 : decode cL_law 2514 = .ok (.iadd, 1) := by decide +kernel
theorem dL_law_2515 : decode cL_law 2515 = .ok (.iaload, 1) := by decide +kernel
theorem dL_law_2516 : decode cL_law 2516 = .ok (.aload_n 0, 1) := by decide +kernel
theorem dL_law_2517 : decode cL_law 2517 = .ok (.iload 4, 2) := by decide +kernel
theorem dL_law_2519 : decode cL_law 2519 = .ok (.iconst 2, 1) := by decide +kernel
theorem dL_law_2520 : decode cL_law 2520 = .ok (.iadd, 1) := by decide +kernel
theorem dL_law_2521 : decode cL_law 2521 = .ok (.iaload, 1) := by decide +kernel
theorem dL_law_2522 : decode cL_law 2522 = .ok (.aload_n 3, 1) := by decide +kernel
theorem dL_law_2523 : decode cL_law 2523 = .ok (.invokestatic 256, 3) := by decide +kernel
theorem dL_law_2526 : decode cL_law 2526 = .ok (.istore 5, 2) := by decide +kernel
theorem dL_law_2528 : decode cL_law 2528 = .ok (.aload_n 2, 1) := by decide +kernel
theorem dL_law_2529 : decode cL_law 2529 = .ok (.aload_n 0, 1) := by decide +kernel
theorem dL_law_2530 : decode cL_law 2530 = .ok (.iload 4, 2) := by decide +kernel
theorem dL_law_2532 : decode cL_law 2532 = .ok (.iconst 1, 1) := by decide +kernel
theorem dL_law_2533 : decode cL_law 2533 = .ok (.iadd, 1) := by decide +kernel
theorem dL_law_2534 : decode cL_law 2534 = .ok (.iaload, 1) := by decide +kernel
theorem dL_law_2535 : decode cL_law 2535 = .ok (.aload_n 0, 1) := by decide +kernel
theorem dL_law_2536 : decode cL_law 2536 = .ok (.iload 4, 2) := by decide +kernel
theorem dL_law_2538 : decode cL_law 2538 = .ok (.iconst 2, 1) := by decide +kernel
theorem dL_law_2539 : decode cL_law 2539 = .ok (.iadd, 1) := by decide +kernel
theorem dL_law_2540 : decode cL_law 2540 = .ok (.iaload, 1) := by decide +kernel
theorem dL_law_2541 : decode cL_law 2541 = .ok (.invokevirtual 258, 3) := by decide +kernel
theorem dL_law_2544 : decode cL_law 2544 = .ok (.istore 6, 2) := by decide +kernel
theorem dL_law_2546 : decode cL_law 2546 = .ok (.aload_n 2, 1) := by decide +kernel
theorem dL_law_2547 : decode cL_law 2547 = .ok (.invokevirtual 149, 3) := by decide +kernel
theorem dL_law_2550 : decode cL_law 2550 = .ok (.iload 5, 2) := by decide +kernel
theorem dL_law_2552 : decode cL_law 2552 = .ok (.if_icmp .eq 5, 3) := by decide +kernel
theorem dL_law_2557 : decode cL_law 2557 = .ok (.iload 5, 2) := by decide +kernel
theorem dL_law_2559 : decode cL_law 2559 = .ok (.ifCond .ne 15, 3) := by decide +kernel
theorem dL_law_2574 : decode cL_law 2574 = .ok (.goto 469, 3) := by decide +kernel
set_option maxRecDepth 20000 in
theorem ggL_law_L_dirty : GoodIn wsL_law wsL_dirty := goodIn_ca (goodIn_r _ [1571, 878, 1572, 1573, 1574, 2, 1575, 1549, 414, 411, 415, 883, 887, 888, 889, 890, 891, 892, 16, 893, 894, 895, 15, 896, 52, 1576, 906, 907, 602, 908, 643, 645, 909, 675, 676, 677, 636, 2093, 2094, 2095, 2096, 2097, 2098, 2099, 2100, 2101, 2102, 2103, 2104, 2105, 2106, 2107, 1866, 1867, 1868, 1869, 1870, 1871, 1872, 1873, 1874, 1875, 1876, 1986, 1987, 1988, 1989, 1990, 1991, 1992] (by decide +kernel) (by decide +kernel)) (goodIn_sub (fun _ h => List.mem_append_right _ h) (by decide +kernel))
set_option maxRecDepth 20000 in
theorem gL_law_L_dirty : GoodIn wsL_law (va_wsS RL 256 yL_dirty wsL_dirty) := goodIn_app (goodIn_of _ (by decide +kernel)) ggL_law_L_dirty
set_option maxRecDepth 20000 in
theorem ggL_law_X12_dirty : GoodIn wsL_law wsX12_dirty := goodIn_r _ [1580, 265, 184, 914, 915, 916, 5, 917, 733, 313, 314, 315, 316, 317, 318, 319, 918, 919, 920, 921, 183, 191, 844, 845, 846, 1877, 1878, 1879, 1880, 1881, 1882, 1883, 1884, 1885, 1886, 1887, 1888, 1889, 1890, 1891, 1892, 1893, 1894, 1895, 1896, 1897, 1898, 1899, 1900, 1901, 1902, 1903, 1904, 1905, 1906, 1907, 1908, 1909, 1910, 1911, 1912, 1913, 1914, 1915, 1916, 1917, 1918, 1919, 1920, 1921, 1922, 1923, 1924, 1925, 1926, 1927, 1928, 1929, 1930, 1931, 1932, 1933, 1934, 1935, 1936, 1937, 1938, 1939, 1940, 1941, 1942, 1943, 1944, 1945, 1946, 1947, 1948, 1949, 1950, 1951, 1952, 1953, 1954, 1955, 1956, 1957, 1958, 1959, 1960, 1961, 1962, 1963, 1964, 1965, 1966, 1967, 1968, 1969, 1970, 1971, 1972, 1973, 1974, 1975, 1976, 1977, 1978, 1979, 1980, 1981, 1982, 1983, 1984, 1985] (by decide +kernel) (by decide +kernel)
set_option maxRecDepth 20000 in
theorem gL_law_X12_dirty : GoodIn wsL_law (wsV RL 258 RX12 yX12_dirty wsX12_dirty) := goodIn_app (goodIn_of _ (by decide +kernel)) ggL_law_X12_dirty
set_option maxHeartbeats 8000000 in
set_option maxRecDepth 100000 in
/-- the law: dirty -/
theorem law_case_33 {p : Program} {l : Launch} {e : Env} {s : State} {m : MethodId} {below : List Frame} {meth : Method} {c : Code} {D : va_G} {cT : Nat → ClassId} {b : Nat} {xs : Nat → Int32} {A : Nat → Prop} (hst : l.stackTraces = false) (C0 : lw_At p s m meth c b 7 xs) (hA : ∀ q : Nat, s.heap.size ≤ q → A q) (hAl : ∀ q, A q → s.heap.size ≤ q) (hK : va_K D vwCl (TY cT) s) (hG : GW s) (hZ : GZ A s s.heap) {h0 : Nat} {m0 : Nat} {o9 : Nat} {x_studio : Nat} {x_script : Nat} {x_teller : Nat} {x_planner : Nat} {x_plan : Nat} {x_drifts : Nat} {x_floor : Nat} {x_trial : Nat} {x_tape : Nat} {s_puppets : Nat} {s_shots : Nat} {s_sounds : Nat} {s_rates : Nat} {s_dresses : Nat} {fs : List Value} (hfs : fs.length = 109) (hfs_0 : fs[0]? = some (.int 0)) (hfs_1 : fs[1]? = some (.int 0)) (hfs_38 : fs[38]? = some (.int 0)) {H : Heap} {locs : List Loc} (hP : va_P D vwCl [(h0, .inr (11, [.ref x_studio, .ref x_script, .ref x_teller, .ref x_planner, .ref x_plan, .ref x_drifts, .ref x_floor, .ref x_trial, .ref x_tape, .int 0, .int (-1)])), (x_studio, .inr (8, [.ref s_puppets, .int 0, .ref s_shots, .int 0, .ref s_sounds, .ref s_rates, .ref s_dresses])), (s_shots, .inl (cT 5, 12, .inr (.inr (.inr (.inr (fun _ => none)))))), (m0, .inr (12, fs))] H) (hD : va_D A [(h0, .inr (11, [.ref x_studio, .ref x_script, .ref x_teller, .ref x_planner, .ref x_plan, .ref x_drifts, .ref x_floor, .ref x_trial, .ref x_tape, .int 0, .int (-1)])), (x_studio, .inr (8, [.ref s_puppets, .int 0, .ref s_shots, .int 0, .ref s_sounds, .ref s_rates, .ref s_dresses])), (s_shots, .inl (cT 5, 12, .inr (.inr (.inr (.inr (fun _ => none)))))), (m0, .inr (12, fs))]) (hS : va_S A s.heap H locs) {ls : Array Slot} (hl : lv_has ls 7 [(4, .int 0), (3, .ref o9), (2, .ref m0), (1, .ref h0), (0, .ref b)]) : W p l e room_1 s m #[Value.ref b] below meth c H locs 215 539454 (lw_Z below #[Value.ref b] s) (F0 m 2509 ls []) := by
  obtain ⟨hx, hb, hr, hml, hown, hts0, hX, hbl, hlocks, hgv⟩ := id C0
  have hts : ∀ w ∈ wsL_law, w.before #[Value.ref b] s = true := fun w h => hts0 w (wsL_law_in w h)
  have hbA : ¬ A b := fun h => absurd (hAl b h) (Nat.not_le.mpr hbl)
  have hown : s.vm.findClass RL = some m.cls := hown
  have hb : c.code = cL_law := hb
  refine lv_aload_n hx hb dL_law_2509 rfl (lv_at hl 3 rfl) ?_
  refine lv_aload_n hx hb dL_law_2510 rfl (lv_at hl 4 rfl) ?_
  refine lv_iload hx hb dL_law_2511 (lv_at hl 0 rfl) ?_
  refine lv_iconst (v := 1) hx hb dL_law_2513 (by decide) ?_
  refine lv_iadd hx hb dL_law_2514 ?_
  refine lv_topi (fun z_1 ez_1 => ?_)
  obtain rfl : z_1 = 1 := ez_1.trans (by decide)
  refine va_sld hx hb hX hbl hbA hS (by unfold vp_in; decide) dL_law_2515 ?_
  refine lv_aload_n hx hb dL_law_2516 rfl (lv_at hl 4 rfl) ?_
  refine lv_iload hx hb dL_law_2517 (lv_at hl 0 rfl) ?_
  refine lv_iconst (v := 2) hx hb dL_law_2519 (by decide) ?_
  refine lv_iadd hx hb dL_law_2520 ?_
  refine lv_topi (fun z_2 ez_2 => ?_)
  obtain rfl : z_2 = 2 := ez_2.trans (by decide)
  refine va_sld hx hb hX hbl hbA hS (by unfold vp_in; decide) dL_law_2521 ?_
  refine lv_aload_n hx hb dL_law_2522 rfl (lv_at hl 1 rfl) ?_
  have hF := va_free (wc := [(h0, .inr (11, [.ref x_studio, .ref x_script, .ref x_teller, .ref x_planner, .ref x_plan, .ref x_drifts, .ref x_floor, .ref x_trial, .ref x_tape, .int 0, .int (-1)])), (x_studio, .inr (8, [.ref s_puppets, .int 0, .ref s_shots, .int 0, .ref s_sounds, .ref s_rates, .ref s_dresses])), (s_shots, .inl (cT 5, 12, .inr (.inr (.inr (.inr (fun _ => none))))))]) hD hS hA [0, 1, 2] rfl
  refine va_calli (vx_runSW (As := [.ref h0, .int (xs (Int32.toNatClampNeg 1)), .int (xs (Int32.toNatClampNeg 2)), .ref o9]) (rest := []) ⟨hx, hb, hml, hown, hts⟩ (c_L_dirty l hst D cT h0 (xs (Int32.toNatClampNeg 1)) (xs (Int32.toNatClampNeg 2)) o9 x_studio x_script x_teller x_planner x_plan x_drifts x_floor x_trial x_tape s_puppets s_shots s_sounds s_rates s_dresses _ ) (vx_cwSW 4 hts gL_law_L_dirty rfl rfl rfl (by decide +kernel) ⟨Nat.le_of_ble_eq_true rfl, Nat.le_of_ble_eq_true rfl⟩) (ps_z hP hD hK hG hZ hS hF [0, 1, 2] rfl rfl rfl) rfl rfl hl.1 rfl (lv_room (Nat.le_of_ble_eq_true rfl)) dL_law_2523 ⟨Nat.le_of_ble_eq_true rfl, Nat.le_of_ble_eq_true rfl⟩) hS (fun q _ h => hF q h) hF (fun r_3 uu9 tt9 H locs ht hvm wr_3 hB hz1 hk1 hS => ?_)
  obtain ⟨hP, hD⟩ := va_join (wr := [(m0, .inr (12, fs))]) (w1 := []) hP hD [0, 1, 2] [3] rfl rfl (by decide) (by decide) hk1 hF vp_nil vd_nil
  have hP : va_P D vwCl [(m0, .inr (12, fs))] _ := hP
  have hD : va_D A [(m0, .inr (12, fs))] := hD
  refine W.widen (k := 216) (n := 539460) (Nat.le_of_ble_eq_true rfl) (Nat.le_of_ble_eq_true rfl) ?_
  obtain rfl : r_3 = 1 := wr_3.trans (rfl)
  refine lv_istore (lv' := [(5, .int 1), (4, .int 0), (3, .ref o9), (2, .ref m0), (1, .ref h0), (0, .ref b)]) hx hb dL_law_2526 hl (by decide) rfl (fun ls hl => ?_)
  refine lv_aload_n hx hb dL_law_2528 rfl (lv_at hl 3 rfl) ?_
  refine lv_aload_n hx hb dL_law_2529 rfl (lv_at hl 5 rfl) ?_
  refine lv_iload hx hb dL_law_2530 (lv_at hl 1 rfl) ?_
  refine lv_iconst (v := 1) hx hb dL_law_2532 (by decide) ?_
  refine lv_iadd hx hb dL_law_2533 ?_
  refine lv_topi (fun z_4 ez_4 => ?_)
  obtain rfl : z_4 = 1 := ez_4.trans (by decide)
  refine va_sld hx hb hX hbl hbA hS (by unfold vp_in; decide) dL_law_2534 ?_
  refine lv_aload_n hx hb dL_law_2535 rfl (lv_at hl 5 rfl) ?_
  refine lv_iload hx hb dL_law_2536 (lv_at hl 1 rfl) ?_
  refine lv_iconst (v := 2) hx hb dL_law_2538 (by decide) ?_
  refine lv_iadd hx hb dL_law_2539 ?_
  refine lv_topi (fun z_5 ez_5 => ?_)
  obtain rfl : z_5 = 2 := ez_5.trans (by decide)
  refine va_sld hx hb hX hbl hbA hS (by unfold vp_in; decide) dL_law_2540 ?_
  have hF := va_free (wc := [(m0, .inr (12, fs))]) hD hS hA [0] rfl
  refine va_calli (va_runV (As := [.int (xs (Int32.toNatClampNeg 1)), .int (xs (Int32.toNatClampNeg 2))]) (rest := []) ⟨hx, hb, hml, hown, hts⟩ (c_X12_dirty l D cT m0 (xs (Int32.toNatClampNeg 1)) (xs (Int32.toNatClampNeg 2)) fs 0 _ (hfs) (hfs_0) (hfs_1) (hfs_38)) (cwV 2 hts gL_law_X12_dirty rfl rfl rfl (by decide +kernel) ⟨Nat.le_of_ble_eq_true rfl, Nat.le_of_ble_eq_true rfl⟩) (pv_w hP hD hK hG [0] rfl rfl rfl 0 rfl rfl) rfl rfl hl.1 rfl (lv_room (Nat.le_of_ble_eq_true rfl)) dL_law_2541 ⟨Nat.le_of_ble_eq_true rfl, Nat.le_of_ble_eq_true rfl⟩) hS (fun q _ h => hF q h) hF (fun r_6 uu9 tt9 H locs ht hvm wr_6 hB hz1 hk1 hS => ?_)
  obtain ⟨gs_7, hgs_7, hgs_7_0, hP1, hD1⟩ := hB
  rw [ht] at hP1
  obtain ⟨hP, hD⟩ := va_join (wr := []) (w1 := [(m0, .inr (12, gs_7))]) hP hD [0] [] rfl rfl (by decide) (by decide) hk1 hF hP1 hD1
  have hP : va_P D vwCl [(m0, .inr (12, gs_7))] _ := hP
  have hD : va_D A [(m0, .inr (12, gs_7))] := hD
  refine lv_istore (lv' := [(6, .int r_6), (5, .int 1), (4, .int 0), (3, .ref o9), (2, .ref m0), (1, .ref h0), (0, .ref b)]) hx hb dL_law_2544 hl (by decide) rfl (fun ls hl => ?_)
  refine lv_aload_n hx hb dL_law_2546 rfl (lv_at hl 4 rfl) ?_
  have hF := va_free (wc := [(m0, .inr (12, gs_7))]) hD hS hA [0] rfl
  refine va_calli (va_runV (As := []) (rest := []) ⟨hx, hb, hml, hown, hts⟩ (c_X12_thrown l D cT m0 gs_7 1 _ (hgs_7) (hgs_7_0)) (cwV 0 hts gL_law_X12_thrown rfl rfl rfl (by decide +kernel) ⟨Nat.le_of_ble_eq_true rfl, Nat.le_of_ble_eq_true rfl⟩) (pv_w hP hD hK hG [0] rfl rfl rfl 0 rfl rfl) rfl rfl hl.1 rfl (lv_room (Nat.le_of_ble_eq_true rfl)) dL_law_2547 ⟨Nat.le_of_ble_eq_true rfl, Nat.le_of_ble_eq_true rfl⟩) hS (fun q _ h => hF q h) hF (fun r_10 uu9 tt9 H locs ht hvm wr_10 hB hz1 hk1 hS => ?_)
  obtain ⟨hP1, hD1⟩ := hB
  rw [ht] at hP1
  obtain ⟨hP, hD⟩ := va_join (wr := []) (w1 := [(m0, .inr (12, gs_7))]) hP hD [0] [] rfl rfl (by decide) (by decide) hk1 hF hP1 hD1
  have hP : va_P D vwCl [(m0, .inr (12, gs_7))] _ := hP
  have hD : va_D A [(m0, .inr (12, gs_7))] := hD
  obtain rfl : r_10 = 1 := wr_10.trans (rfl)
  refine lv_iload hx hb dL_law_2550 (lv_at hl 1 rfl) ?_
  refine lv_icmp_eq (tgt := 2557) hx hb dL_law_2552 (by decide) (fun _ => ?_) (fun c9 => absurd c9 (by decide))
  refine lv_iload hx hb dL_law_2557 (lv_at hl 1 rfl) ?_
  refine lv_if_ne (tgt := 2574) hx hb dL_law_2559 (by decide) (fun _ => ?_) (fun c9 => absurd c9 (by decide))
  refine lv_goto (tgt := 3043) hx hb dL_law_2574 (by decide) ?_
  exact law_end C0 hA hAl hS (lv_sub hl [2, 6] rfl) (Nat.le_of_ble_eq_true rfl) (Nat.le_of_ble_eq_true rfl)
theorem dL_law_2577 : decode cL_law 2577 = .ok (.aload_n 1, 1) := by decide +kernel
theorem dL_law_2578 : decode cL_law 2578 = .ok (.aload_n 0, 1) := by decide +kernel
theorem dL_law_2579 : decode cL_law 2579 = .ok (.iload 4, 2) := by decide +kernel
theorem dL_law_2581 : decode cL_law 2581 = .ok (.iconst 1, 1) := by decide +kernel
theorem dL_law_2582 : decode cL_law 2582 = .ok (.iadd, 1) := by decide +kernel
theorem dL_law_2583 : decode cL_law 2583 = .ok (.iaload, 1) := by decide +kernel
theorem dL_law_2584 : decode cL_law 2584 = .ok (.aload_n 3, 1) := by decide +kernel
theorem dL_law_2585 : decode cL_law 2585 = .ok (.invokestatic 259, 3) := by decide +kernel
theorem dL_law_2588 : decode cL_law 2588 = .ok (.istore 5, 2) := by decide +kernel
theorem dL_law_2590 : decode cL_law 2590 = .ok (.aload_n 2, 1) := by decide +kernel
theorem dL_law_2591 : decode cL_law 2591 = .ok (.aload_n 0, 1) := by decide +kernel
theorem dL_law_2592 : decode cL_law 2592 = .ok (.iload 4, 2) := by decide +kernel
theorem dL_law_2594 : decode cL_law 2594 = .ok (.iconst 1, 1) := by decide +kernel
theorem dL_law_2595 : decode cL_law 2595 = .ok (.iadd, 1) := by decide +kernel
theorem dL_law_2596 : decode cL_law 2596 = .ok (.iaload, 1) := by decide +kernel
theorem dL_law_2597 : decode cL_law 2597 = .ok (.invokevirtual 261, 3) := by decide +kernel
theorem dL_law_2600 : decode cL_law 2600 = .ok (.istore 6, 2) := by decide +kernel
theorem dL_law_2602 : decode cL_law 2602 = .ok (.aload_n 2, 1) := by decide +kernel
theorem dL_law_2603 : decode cL_law 2603 = .ok (.invokevirtual 149, 3) := by decide +kernel
theorem dL_law_2606 : decode cL_law 2606 = .ok (.iload 5, 2) := by decide +kernel
theorem dL_law_2608 : decode cL_law 2608 = .ok (.if_icmp .eq 5, 3) := by decide +kernel
theorem dL_law_2613 : decode cL_law 2613 = .ok (.iload 5, 2) := by decide +kernel
theorem dL_law_2615 : decode cL_law 2615 = .ok (.ifCond .ne 15, 3) := by decide +kernel
theorem dL_law_2618 : decode cL_law 2618 = .ok (.aload_n 3, 1) := by decide +kernel
theorem dL_law_2619 : decode cL_law 2619 = .ok (.iconst 0, 1) := by decide +kernel
theorem dL_law_2620 : decode cL_law 2620 = .ok (.laload, 1) := by decide +kernel
theorem dL_law_2621 : decode cL_law 2621 = .ok (.iload 6, 2) := by decide +kernel
theorem dL_law_2623 : decode cL_law 2623 = .ok (.i2l, 1) := by decide +kernel
theorem dL_law_2624 : decode cL_law 2624 = .ok (.lcmp, 1) := by decide +kernel
theorem dL_law_2625 : decode cL_law 2625 = .ok (.ifCond .eq 5, 3) := by decide +kernel
theorem dL_law_2630 : decode cL_law 2630 = .ok (.goto 413, 3) := by decide +kernel
set_option maxRecDepth 20000 in
theorem ggL_law_L_animator : GoodIn wsL_law wsL_animator := goodIn_ca (goodIn_r _ [1583, 272, 1584, 1585, 1586, 2, 1587, 40, 298, 299, 300, 293, 294, 295, 296, 297, 1588, 1589, 1590, 39, 1591, 1592, 144, 1866, 1867, 1868, 1869, 1870, 1871, 1872, 1873, 1874, 1875, 1876, 2049, 2050, 2051, 2052, 2053, 2054, 2055, 2056, 2057, 2058, 2059, 2060, 2061, 2062, 2063, 2064, 2065, 2066] (by decide +kernel) (by decide +kernel)) (goodIn_sub (fun _ h => List.mem_append_left _ (List.mem_append_left _ (List.mem_append_right _ h))) (by decide +kernel))
set_option maxRecDepth 20000 in
theorem gL_law_L_animator : GoodIn wsL_law (va_wsS RL 259 yL_animator wsL_animator) := goodIn_app (goodIn_of _ (by decide +kernel)) ggL_law_L_animator
set_option maxRecDepth 20000 in
theorem ggL_law_X12_animator : GoodIn wsL_law wsX12_animator := goodIn_r _ [1596, 265, 1597, 219, 313, 314, 5, 315, 316, 317, 318, 319, 1877, 1878, 1879, 1880, 1881, 1882, 1883, 1884, 1885, 1886, 1887, 1888, 1889, 1890, 1891, 1892, 1893, 1894, 1895, 1896, 1897, 1898, 1899, 1900, 1901, 1902, 1903, 1904, 1905, 1906, 1907, 1908, 1909, 1910, 1911, 1912, 1913, 1914, 1915, 1916, 1917, 1918, 1919, 1920, 1921, 1922, 1923, 1924, 1925, 1926, 1927, 1928, 1929, 1930, 1931, 1932, 1933, 1934, 1935, 1936, 1937, 1938, 1939, 1940, 1941, 1942, 1943, 1944, 1945, 1946, 1947, 1948, 1949, 1950, 1951, 1952, 1953, 1954, 1955, 1956, 1957, 1958, 1959, 1960, 1961, 1962, 1963, 1964, 1965, 1966, 1967, 1968, 1969, 1970, 1971, 1972, 1973, 1974, 1975, 1976, 1977, 1978, 1979, 1980, 1981, 1982, 1983, 1984, 1985] (by decide +kernel) (by decide +kernel)
set_option maxRecDepth 20000 in
theorem gL_law_X12_animator : GoodIn wsL_law (wsV RL 261 RX12 yX12_animator wsX12_animator) := goodIn_app (goodIn_of _ (by decide +kernel)) ggL_law_X12_animator
set_option maxHeartbeats 8000000 in
set_option maxRecDepth 100000 in
/-- the law: animator -/
theorem law_case_34 {p : Program} {l : Launch} {e : Env} {s : State} {m : MethodId} {below : List Frame} {meth : Method} {c : Code} {D : va_G} {cT : Nat → ClassId} {b : Nat} {xs : Nat → Int32} {A : Nat → Prop} (hst : l.stackTraces = false) (C0 : lw_At p s m meth c b 7 xs) (hA : ∀ q : Nat, s.heap.size ≤ q → A q) (hAl : ∀ q, A q → s.heap.size ≤ q) (hK : va_K D vwCl (TY cT) s) (hG : GW s) (hZ : GZ A s s.heap) {h0 : Nat} {m0 : Nat} {o9 : Nat} {x_studio : Nat} {x_script : Nat} {x_teller : Nat} {x_planner : Nat} {x_plan : Nat} {x_drifts : Nat} {x_floor : Nat} {x_trial : Nat} {x_tape : Nat} {f_studio : Nat} {f_taken : Nat} {f_on : Nat} {f_queues : Nat} {f_queued : Nat} {f_engaged : Nat} {f_dressing : Nat} {f_dressed : Nat} {f_standing : Nat} {f_stations : Nat} {f_limits : Nat} {f_worked : Nat} {fs : List Value} {m_most : Nat} {fo : Nat → Int64} (hfs : fs.length = 109) (hfs_0 : fs[0]? = some (.int 0)) (hfs_88 : fs[88]? = some (.int 0)) (hfs_89 : fs[89]? = some (.ref m_most)) {H : Heap} {locs : List Loc} (hP : va_P D vwCl [(h0, .inr (11, [.ref x_studio, .ref x_script, .ref x_teller, .ref x_planner, .ref x_plan, .ref x_drifts, .ref x_floor, .ref x_trial, .ref x_tape, .int 0, .int (-1)])), (x_floor, .inr (1, [.ref f_studio, .int 1, .int 0, .ref f_taken, .ref f_on, .ref f_queues, .ref f_queued, .ref f_engaged, .ref f_dressing, .ref f_dressed, .ref f_standing, .ref f_stations, .int 0, .ref f_limits, .ref f_worked, .int 0, .int 0, .int 0])), (f_limits, .inl (cT 0, 6, .inl (fun _ => 0))), (m0, .inr (12, fs)), (m_most, .inl (cT 0, 6, .inl (fun _ => 0))), (o9, .inl (cT 2, 1, .inr (.inl fo)))] H) (hD : va_D A [(h0, .inr (11, [.ref x_studio, .ref x_script, .ref x_teller, .ref x_planner, .ref x_plan, .ref x_drifts, .ref x_floor, .ref x_trial, .ref x_tape, .int 0, .int (-1)])), (x_floor, .inr (1, [.ref f_studio, .int 1, .int 0, .ref f_taken, .ref f_on, .ref f_queues, .ref f_queued, .ref f_engaged, .ref f_dressing, .ref f_dressed, .ref f_standing, .ref f_stations, .int 0, .ref f_limits, .ref f_worked, .int 0, .int 0, .int 0])), (f_limits, .inl (cT 0, 6, .inl (fun _ => 0))), (m0, .inr (12, fs)), (m_most, .inl (cT 0, 6, .inl (fun _ => 0))), (o9, .inl (cT 2, 1, .inr (.inl fo)))]) (hS : va_S A s.heap H locs) {ls : Array Slot} (hl : lv_has ls 7 [(4, .int 0), (3, .ref o9), (2, .ref m0), (1, .ref h0), (0, .ref b)]) : W p l e room_1 s m #[Value.ref b] below meth c H locs 215 539454 (lw_Z below #[Value.ref b] s) (F0 m 2577 ls []) := by
  obtain ⟨hx, hb, hr, hml, hown, hts0, hX, hbl, hlocks, hgv⟩ := id C0
  have hts : ∀ w ∈ wsL_law, w.before #[Value.ref b] s = true := fun w h => hts0 w (wsL_law_in w h)
  have hbA : ¬ A b := fun h => absurd (hAl b h) (Nat.not_le.mpr hbl)
  have hown : s.vm.findClass RL = some m.cls := hown
  have hb : c.code = cL_law := hb
  refine lv_aload_n hx hb dL_law_2577 rfl (lv_at hl 3 rfl) ?_
  refine lv_aload_n hx hb dL_law_2578 rfl (lv_at hl 4 rfl) ?_
  refine lv_iload hx hb dL_law_2579 (lv_at hl 0 rfl) ?_
  refine lv_iconst (v := 1) hx hb dL_law_2581 (by decide) ?_
  refine lv_iadd hx hb dL_law_2582 ?_
  refine lv_topi (fun z_1 ez_1 => ?_)
  obtain rfl : z_1 = 1 := ez_1.trans (by decide)
  refine va_sld hx hb hX hbl hbA hS (by unfold vp_in; decide) dL_law_2583 ?_
  refine lv_aload_n hx hb dL_law_2584 rfl (lv_at hl 1 rfl) ?_
  have hF := va_free (wc := [(h0, .inr (11, [.ref x_studio, .ref x_script, .ref x_teller, .ref x_planner, .ref x_plan, .ref x_drifts, .ref x_floor, .ref x_trial, .ref x_tape, .int 0, .int (-1)])), (x_floor, .inr (1, [.ref f_studio, .int 1, .int 0, .ref f_taken, .ref f_on, .ref f_queues, .ref f_queued, .ref f_engaged, .ref f_dressing, .ref f_dressed, .ref f_standing, .ref f_stations, .int 0, .ref f_limits, .ref f_worked, .int 0, .int 0, .int 0])), (f_limits, .inl (cT 0, 6, .inl (fun _ => 0))), (o9, .inl (cT 2, 1, .inr (.inl fo)))]) hD hS hA [0, 1, 2, 5] rfl
  refine va_calli (vx_runSW (As := [.ref h0, .int (xs (Int32.toNatClampNeg 1)), .ref o9]) (rest := []) ⟨hx, hb, hml, hown, hts⟩ (c_L_animator l hst D cT h0 (xs (Int32.toNatClampNeg 1)) o9 x_studio x_script x_teller x_planner x_plan x_drifts x_floor x_trial x_tape f_studio f_taken f_on f_queues f_queued f_engaged f_dressing f_dressed f_standing f_stations f_limits f_worked fo _ ) (vx_cwSW 3 hts gL_law_L_animator rfl rfl rfl (by decide +kernel) ⟨Nat.le_of_ble_eq_true rfl, Nat.le_of_ble_eq_true rfl⟩) (ps_z hP hD hK hG hZ hS hF [0, 1, 2, 5] rfl rfl rfl) rfl rfl hl.1 rfl (lv_room (Nat.le_of_ble_eq_true rfl)) dL_law_2585 ⟨Nat.le_of_ble_eq_true rfl, Nat.le_of_ble_eq_true rfl⟩) hS (fun q _ h => hF q h) hF (fun r_2 uu9 tt9 H locs ht hvm wr_2 hB hz1 hk1 hS => ?_)
  obtain ⟨go_3, k_4, hP1, hD1⟩ := hB
  rw [ht] at hP1
  obtain ⟨hP, hD⟩ := va_join (wr := [(m0, .inr (12, fs)), (m_most, .inl (cT 0, 6, .inl (fun _ => 0)))]) (w1 := [(o9, .inl (cT 2, 1, .inr (.inl go_3)))]) hP hD [0, 1, 2, 5] [3, 4] rfl rfl (by decide) (by decide) hk1 hF hP1 hD1
  have hP : va_P D vwCl [(m0, .inr (12, fs)), (m_most, .inl (cT 0, 6, .inl (fun _ => 0))), (o9, .inl (cT 2, 1, .inr (.inl go_3)))] _ := hP
  have hD : va_D A [(m0, .inr (12, fs)), (m_most, .inl (cT 0, 6, .inl (fun _ => 0))), (o9, .inl (cT 2, 1, .inr (.inl go_3)))] := hD
  refine W.widen (k := 216) (n := 539460) (Nat.le_of_ble_eq_true rfl) (Nat.le_of_ble_eq_true rfl) ?_
  refine lv_istore (lv' := [(5, .int r_2), (4, .int 0), (3, .ref o9), (2, .ref m0), (1, .ref h0), (0, .ref b)]) hx hb dL_law_2588 hl (by decide) rfl (fun ls hl => ?_)
  refine lv_aload_n hx hb dL_law_2590 rfl (lv_at hl 3 rfl) ?_
  refine lv_aload_n hx hb dL_law_2591 rfl (lv_at hl 5 rfl) ?_
  refine lv_iload hx hb dL_law_2592 (lv_at hl 1 rfl) ?_
  refine lv_iconst (v := 1) hx hb dL_law_2594 (by decide) ?_
  refine lv_iadd hx hb dL_law_2595 ?_
  refine lv_topi (fun z_5 ez_5 => ?_)
  obtain rfl : z_5 = 1 := ez_5.trans (by decide)
  refine va_sld hx hb hX hbl hbA hS (by unfold vp_in; decide) dL_law_2596 ?_
  have hF := va_free (wc := [(m0, .inr (12, fs)), (m_most, .inl (cT 0, 6, .inl (fun _ => 0)))]) hD hS hA [0, 1] rfl
  refine va_calli (va_runV (As := [.int (xs (Int32.toNatClampNeg 1))]) (rest := []) ⟨hx, hb, hml, hown, hts⟩ (c_X12_animator l D cT m0 (xs (Int32.toNatClampNeg 1)) fs 0 m_most _ (hfs) (hfs_0) (hfs_88) (hfs_89)) (cwV 1 hts gL_law_X12_animator rfl rfl rfl (by decide +kernel) ⟨Nat.le_of_ble_eq_true rfl, Nat.le_of_ble_eq_true rfl⟩) (pv_w hP hD hK hG [0, 1] rfl rfl rfl 0 rfl rfl) rfl rfl hl.1 rfl (lv_room (Nat.le_of_ble_eq_true rfl)) dL_law_2597 ⟨Nat.le_of_ble_eq_true rfl, Nat.le_of_ble_eq_true rfl⟩) hS (fun q _ h => hF q h) hF (fun r_6 uu9 tt9 H locs ht hvm wr_6 hB hz1 hk1 hS => ?_)
  obtain ⟨gs_7, tt_8, hgs_7, hgs_7_0, k_11, hP1, hD1⟩ := hB
  rw [ht] at hP1
  obtain ⟨hP, hD⟩ := va_join (wr := [(o9, .inl (cT 2, 1, .inr (.inl go_3)))]) (w1 := [(m0, .inr (12, gs_7))]) hP hD [0, 1] [2] rfl rfl (by decide) (by decide) hk1 hF hP1 hD1
  have hP : va_P D vwCl [(o9, .inl (cT 2, 1, .inr (.inl go_3))), (m0, .inr (12, gs_7))] _ := hP
  have hD : va_D A [(o9, .inl (cT 2, 1, .inr (.inl go_3))), (m0, .inr (12, gs_7))] := hD
  refine lv_istore (lv' := [(6, .int r_6), (5, .int r_2), (4, .int 0), (3, .ref o9), (2, .ref m0), (1, .ref h0), (0, .ref b)]) hx hb dL_law_2600 hl (by decide) rfl (fun ls hl => ?_)
  refine lv_aload_n hx hb dL_law_2602 rfl (lv_at hl 4 rfl) ?_
  have hF := va_free (wc := [(m0, .inr (12, gs_7))]) hD hS hA [1] rfl
  refine va_calli (va_runV (As := []) (rest := []) ⟨hx, hb, hml, hown, hts⟩ (c_X12_thrown l D cT m0 gs_7 tt_8 _ (hgs_7) (hgs_7_0)) (cwV 0 hts gL_law_X12_thrown rfl rfl rfl (by decide +kernel) ⟨Nat.le_of_ble_eq_true rfl, Nat.le_of_ble_eq_true rfl⟩) (pv_w hP hD hK hG [1] rfl rfl rfl 1 rfl rfl) rfl rfl hl.1 rfl (lv_room (Nat.le_of_ble_eq_true rfl)) dL_law_2603 ⟨Nat.le_of_ble_eq_true rfl, Nat.le_of_ble_eq_true rfl⟩) hS (fun q _ h => hF q h) hF (fun r_12 uu9 tt9 H locs ht hvm wr_12 hB hz1 hk1 hS => ?_)
  obtain ⟨hP1, hD1⟩ := hB
  rw [ht] at hP1
  obtain ⟨hP, hD⟩ := va_join (wr := [(o9, .inl (cT 2, 1, .inr (.inl go_3)))]) (w1 := [(m0, .inr (12, gs_7))]) hP hD [1] [0] rfl rfl (by decide) (by decide) hk1 hF hP1 hD1
  have hP : va_P D vwCl [(o9, .inl (cT 2, 1, .inr (.inl go_3))), (m0, .inr (12, gs_7))] _ := hP
  have hD : va_D A [(o9, .inl (cT 2, 1, .inr (.inl go_3))), (m0, .inr (12, gs_7))] := hD
  refine lv_iload hx hb dL_law_2606 (lv_at hl 1 rfl) ?_
  refine lv_icmp_eq (tgt := 2613) hx hb dL_law_2608 (by decide) (fun c_13 => ?_) (fun c_13 => ((c_13 (Eq.trans (wr_12.trans k_11) (Eq.symm wr_2)) : False)).elim)
  refine lv_iload hx hb dL_law_2613 (lv_at hl 1 rfl) ?_
  refine lv_if_ne (tgt := 2630) hx hb dL_law_2615 (by decide) (fun c_14 => ?_) (fun c_14 => ?_)
  · refine lv_goto (tgt := 3043) hx hb dL_law_2630 (by decide) ?_
    exact law_end C0 hA hAl hS (lv_sub hl [2, 6] rfl) (Nat.le_of_ble_eq_true rfl) (Nat.le_of_ble_eq_true rfl)
  · refine lv_aload_n hx hb dL_law_2618 rfl (lv_at hl 3 rfl) ?_
    refine lv_iconst (v := 0) hx hb dL_law_2619 (by decide) ?_
    refine va_lald hx hb hK hP 0 2 rfl rfl (by unfold vp_in; decide) dL_law_2620 ?_
    refine lv_topl (fun j_15 ej_15 => ?_)
    refine lv_iload hx hb dL_law_2621 (lv_at hl 0 rfl) ?_
    obtain ⟨j_16, ej_16⟩ : ∃ y : Int64, y = (r_6).toInt64 := ⟨_, rfl⟩
    refine lv_i2l (v := j_16) hx hb dL_law_2623 ej_16.symm ?_
    refine W.lcmp hx hb dL_law_2624 ?_
    refine lv_topi (fun x_17 ex_17 => ?_)
    refine lv_if_eq (tgt := 2630) hx hb dL_law_2625 (by decide) (fun c_18 => ?_) (fun c_18 => ((c_18 (ex_17.trans ((congr (congrArg lg_cmp (ej_15.trans (k_4 (Eq.trans (Eq.symm wr_2) c_14)))) (ej_16.trans (congrArg Int32.toInt64 (wr_6 (Eq.trans (Eq.symm wr_2) c_14))))).trans (lcmp_self _))) : False)).elim)
    refine lv_goto (tgt := 3043) hx hb dL_law_2630 (by decide) ?_
    exact law_end C0 hA hAl hS (lv_sub hl [2, 6] rfl) (Nat.le_of_ble_eq_true rfl) (Nat.le_of_ble_eq_true rfl)
theorem dL_law_2633 : decode cL_law 2633 = .ok (.aload_n 1, 1) := by decide +kernel
theorem dL_law_2634 : decode cL_law 2634 = .ok (.aload_n 0, 1) := by decide +kernel
theorem dL_law_2635 : decode cL_law 2635 = .ok (.iload 4, 2) := by decide +kernel
theorem dL_law_2637 : decode cL_law 2637 = .ok (.iconst 1, 1) := by decide +kernel
theorem dL_law_2638 : decode cL_law 2638 = .ok (.iadd, 1) := by decide +kernel
theorem dL_law_2639 : decode cL_law 2639 = .ok (.iaload, 1) := by decide +kernel
theorem dL_law_2640 : decode cL_law 2640 = .ok (.aload_n 0, 1) := by decide +kernel
theorem dL_law_2641 : decode cL_law 2641 = .ok (.iload 4, 2) := by decide +kernel
theorem dL_law_2643 : decode cL_law 2643 = .ok (.iconst 2, 1) := by decide +kernel
theorem dL_law_2644 : decode cL_law 2644 = .ok (.iadd, 1) := by decide +kernel
theorem dL_law_2645 : decode cL_law 2645 = .ok (.iaload, 1) := by decide +kernel
theorem dL_law_2646 : decode cL_law 2646 = .ok (.aload_n 3, 1) := by decide +kernel
theorem dL_law_2647 : decode cL_law 2647 = .ok (.invokestatic 262, 3) := by decide +kernel
theorem dL_law_2650 : decode cL_law 2650 = .ok (.istore 5, 2) := by decide +kernel
theorem dL_law_2652 : decode cL_law 2652 = .ok (.aload_n 2, 1) := by decide +kernel
theorem dL_law_2653 : decode cL_law 2653 = .ok (.aload_n 0, 1) := by decide +kernel
theorem dL_law_2654 : decode cL_law 2654 = .ok (.iload 4, 2) := by decide +kernel
theorem dL_law_2656 : decode cL_law 2656 = .ok (.iconst 1, 1) := by decide +kernel
theorem dL_law_2657 : decode cL_law 2657 = .ok (.iadd, 1) := by decide +kernel
theorem dL_law_2658 : decode cL_law 2658 = .ok (.iaload, 1) := by decide +kernel
theorem dL_law_2659 : decode cL_law 2659 = .ok (.aload_n 0, 1) := by decide +kernel
theorem dL_law_2660 : decode cL_law 2660 = .ok (.iload 4, 2) := by decide +kernel
theorem dL_law_2662 : decode cL_law 2662 = .ok (.iconst 2, 1) := by decide +kernel
theorem dL_law_2663 : decode cL_law 2663 = .ok (.iadd, 1) := by decide +kernel
theorem dL_law_2664 : decode cL_law 2664 = .ok (.iaload, 1) := by decide +kernel
theorem dL_law_2665 : decode cL_law 2665 = .ok (.invokevirtual 264, 3) := by decide +kernel
theorem dL_law_2668 : decode cL_law 2668 = .ok (.istore 6, 2) := by decide +kernel
theorem dL_law_2670 : decode cL_law 2670 = .ok (.aload_n 2, 1) := by decide +kernel
theorem dL_law_2671 : decode cL_law 2671 = .ok (.invokevirtual 149, 3) := by decide +kernel
theorem dL_law_2674 : decode cL_law 2674 = .ok (.iload 5, 2) := by decide +kernel
theorem dL_law_2676 : decode cL_law 2676 = .ok (.if_icmp .eq 5, 3) := by decide +kernel
theorem dL_law_2681 : decode cL_law 2681 = .ok (.iload 5, 2) := by decide +kernel
theorem dL_law_2683 : decode cL_law 2683 = .ok (.ifCond .ne 15, 3) := by decide +kernel
theorem dL_law_2686 : decode cL_law 2686 = .ok (.aload_n 3, 1) := by decide +kernel
theorem dL_law_2687 : decode cL_law 2687 = .ok (.iconst 0, 1) := by decide +kernel
theorem dL_law_2688 : decode cL_law 2688 = .ok (.laload, 1) := by decide +kernel
theorem dL_law_2689 : decode cL_law 2689 = .ok (.iload 6, 2) := by decide +kernel
theorem dL_law_2691 : decode cL_law 2691 = .ok (.i2l, 1) := by decide +kernel
theorem dL_law_2692 : decode cL_law 2692 = .ok (.lcmp, 1) := by decide +kernel
theorem dL_law_2693 : decode cL_law 2693 = .ok (.ifCond .eq 5, 3) := by decide +kernel
theorem dL_law_2698 : decode cL_law 2698 = .ok (.goto 345, 3) := by decide +kernel
set_option maxRecDepth 20000 in
theorem ggL_law_L_station : GoodIn wsL_law wsL_station := goodIn_ca (goodIn_ca (goodIn_r _ [1600, 271, 272, 1601, 1602, 1603, 2, 1604, 40, 1605, 1606, 1607, 1608, 1609, 282, 283, 298, 299, 300, 293, 294, 295, 296, 297, 357, 358, 359, 1866, 1867, 1868, 1869, 1870, 1871, 1872, 1873, 1874, 1875, 1876, 2049, 2050, 2051, 2052, 2053, 2054, 2055, 2056, 2057, 2058, 2059, 2060, 2061, 2062, 2063, 2064, 2065, 2066] (by decide +kernel) (by decide +kernel)) (goodIn_sub (fun _ h => List.mem_append_left _ (List.mem_append_left _ (List.mem_append_left _ (List.mem_append_right _ h)))) (by decide +kernel))) (goodIn_sub (fun _ h => List.mem_append_left _ (List.mem_append_left _ (List.mem_append_right _ h))) (by decide +kernel))
set_option maxRecDepth 20000 in
theorem gL_law_L_station : GoodIn wsL_law (va_wsS RL 262 yL_station wsL_station) := goodIn_app (goodIn_of _ (by decide +kernel)) ggL_law_L_station
set_option maxRecDepth 20000 in
theorem ggL_law_X12_station : GoodIn wsL_law wsX12_station := goodIn_r _ [1613, 265, 1597, 222, 313, 314, 5, 315, 316, 317, 318, 319, 1877, 1878, 1879, 1880, 1881, 1882, 1883, 1884, 1885, 1886, 1887, 1888, 1889, 1890, 1891, 1892, 1893, 1894, 1895, 1896, 1897, 1898, 1899, 1900, 1901, 1902, 1903, 1904, 1905, 1906, 1907, 1908, 1909, 1910, 1911, 1912, 1913, 1914, 1915, 1916, 1917, 1918, 1919, 1920, 1921, 1922, 1923, 1924, 1925, 1926, 1927, 1928, 1929, 1930, 1931, 1932, 1933, 1934, 1935, 1936, 1937, 1938, 1939, 1940, 1941, 1942, 1943, 1944, 1945, 1946, 1947, 1948, 1949, 1950, 1951, 1952, 1953, 1954, 1955, 1956, 1957, 1958, 1959, 1960, 1961, 1962, 1963, 1964, 1965, 1966, 1967, 1968, 1969, 1970, 1971, 1972, 1973, 1974, 1975, 1976, 1977, 1978, 1979, 1980, 1981, 1982, 1983, 1984, 1985] (by decide +kernel) (by decide +kernel)
set_option maxRecDepth 20000 in
theorem gL_law_X12_station : GoodIn wsL_law (wsV RL 264 RX12 yX12_station wsX12_station) := goodIn_app (goodIn_of _ (by decide +kernel)) ggL_law_X12_station
set_option maxHeartbeats 8000000 in
set_option maxRecDepth 100000 in
/-- the law: station -/
theorem law_case_35 {p : Program} {l : Launch} {e : Env} {s : State} {m : MethodId} {below : List Frame} {meth : Method} {c : Code} {D : va_G} {cT : Nat → ClassId} {b : Nat} {xs : Nat → Int32} {A : Nat → Prop} (hst : l.stackTraces = false) (C0 : lw_At p s m meth c b 7 xs) (hA : ∀ q : Nat, s.heap.size ≤ q → A q) (hAl : ∀ q, A q → s.heap.size ≤ q) (hK : va_K D vwCl (TY cT) s) (hG : GW s) (hZ : GZ A s s.heap) {h0 : Nat} {m0 : Nat} {o9 : Nat} {x_studio : Nat} {x_script : Nat} {x_teller : Nat} {x_planner : Nat} {x_plan : Nat} {x_drifts : Nat} {x_floor : Nat} {x_trial : Nat} {x_tape : Nat} {f_studio : Nat} {f_taken : Nat} {f_on : Nat} {f_queues : Nat} {f_queued : Nat} {f_engaged : Nat} {f_dressing : Nat} {f_dressed : Nat} {f_standing : Nat} {f_stations : Nat} {f_limits : Nat} {f_worked : Nat} {fst : Nat → Int32} {fs : List Value} {m_station : Nat} {mst : Nat → Int32} {fo : Nat → Int64} (q0 : ∀ k, k < 3 → fst k = -1) (q1 : ∀ k, k < 3 → mst k = -1) (hfs : fs.length = 109) (hfs_0 : fs[0]? = some (.int 0)) (hfs_88 : fs[88]? = some (.int 0)) (hfs_92 : fs[92]? = some (.ref m_station)) {H : Heap} {locs : List Loc} (hP : va_P D vwCl [(h0, .inr (11, [.ref x_studio, .ref x_script, .ref x_teller, .ref x_planner, .ref x_plan, .ref x_drifts, .ref x_floor, .ref x_trial, .ref x_tape, .int 0, .int (-1)])), (x_floor, .inr (1, [.ref f_studio, .int 1, .int 0, .ref f_taken, .ref f_on, .ref f_queues, .ref f_queued, .ref f_engaged, .ref f_dressing, .ref f_dressed, .ref f_standing, .ref f_stations, .int 0, .ref f_limits, .ref f_worked, .int 0, .int 0, .int 0])), (f_stations, .inl (cT 0, 3, .inl fst)), (m0, .inr (12, fs)), (m_station, .inl (cT 0, 3, .inl mst)), (o9, .inl (cT 2, 1, .inr (.inl fo)))] H) (hD : va_D A [(h0, .inr (11, [.ref x_studio, .ref x_script, .ref x_teller, .ref x_planner, .ref x_plan, .ref x_drifts, .ref x_floor, .ref x_trial, .ref x_tape, .int 0, .int (-1)])), (x_floor, .inr (1, [.ref f_studio, .int 1, .int 0, .ref f_taken, .ref f_on, .ref f_queues, .ref f_queued, .ref f_engaged, .ref f_dressing, .ref f_dressed, .ref f_standing, .ref f_stations, .int 0, .ref f_limits, .ref f_worked, .int 0, .int 0, .int 0])), (f_stations, .inl (cT 0, 3, .inl fst)), (m0, .inr (12, fs)), (m_station, .inl (cT 0, 3, .inl mst)), (o9, .inl (cT 2, 1, .inr (.inl fo)))]) (hS : va_S A s.heap H locs) {ls : Array Slot} (hl : lv_has ls 7 [(4, .int 0), (3, .ref o9), (2, .ref m0), (1, .ref h0), (0, .ref b)]) : W p l e room_1 s m #[Value.ref b] below meth c H locs 215 539454 (lw_Z below #[Value.ref b] s) (F0 m 2633 ls []) := by
  obtain ⟨hx, hb, hr, hml, hown, hts0, hX, hbl, hlocks, hgv⟩ := id C0
  have hts : ∀ w ∈ wsL_law, w.before #[Value.ref b] s = true := fun w h => hts0 w (wsL_law_in w h)
  have hbA : ¬ A b := fun h => absurd (hAl b h) (Nat.not_le.mpr hbl)
  have hown : s.vm.findClass RL = some m.cls := hown
  have hb : c.code = cL_law := hb
  refine lv_aload_n hx hb dL_law_2633 rfl (lv_at hl 3 rfl) ?_
  refine lv_aload_n hx hb dL_law_2634 rfl (lv_at hl 4 rfl) ?_
  refine lv_iload hx hb dL_law_2635 (lv_at hl 0 rfl) ?_
  refine lv_iconst (v := 1) hx hb dL_law_2637 (by decide) ?_
  refine lv_iadd hx hb dL_law_2638 ?_
  refine lv_topi (fun z_1 ez_1 => ?_)
  obtain rfl : z_1 = 1 := ez_1.trans (by decide)
  refine va_sld hx hb hX hbl hbA hS (by unfold vp_in; decide) dL_law_2639 ?_
  refine lv_aload_n hx hb dL_law_2640 rfl (lv_at hl 4 rfl) ?_
  refine lv_iload hx hb dL_law_2641 (lv_at hl 0 rfl) ?_
  refine lv_iconst (v := 2) hx hb dL_law_2643 (by decide) ?_
  refine lv_iadd hx hb dL_law_2644 ?_
  refine lv_topi (fun z_2 ez_2 => ?_)
  obtain rfl : z_2 = 2 := ez_2.trans (by decide)
  refine va_sld hx hb hX hbl hbA hS (by unfold vp_in; decide) dL_law_2645 ?_
  refine lv_aload_n hx hb dL_law_2646 rfl (lv_at hl 1 rfl) ?_
  have hF := va_free (wc := [(h0, .inr (11, [.ref x_studio, .ref x_script, .ref x_teller, .ref x_planner, .ref x_plan, .ref x_drifts, .ref x_floor, .ref x_trial, .ref x_tape, .int 0, .int (-1)])), (x_floor, .inr (1, [.ref f_studio, .int 1, .int 0, .ref f_taken, .ref f_on, .ref f_queues, .ref f_queued, .ref f_engaged, .ref f_dressing, .ref f_dressed, .ref f_standing, .ref f_stations, .int 0, .ref f_limits, .ref f_worked, .int 0, .int 0, .int 0])), (f_stations, .inl (cT 0, 3, .inl fst)), (o9, .inl (cT 2, 1, .inr (.inl fo)))]) hD hS hA [0, 1, 2, 5] rfl
  refine va_calli (vx_runSW (As := [.ref h0, .int (xs (Int32.toNatClampNeg 1)), .int (xs (Int32.toNatClampNeg 2)), .ref o9]) (rest := []) ⟨hx, hb, hml, hown, hts⟩ (c_L_station l hst D cT h0 (xs (Int32.toNatClampNeg 1)) (xs (Int32.toNatClampNeg 2)) o9 x_studio x_script x_teller x_planner x_plan x_drifts x_floor x_trial x_tape f_studio f_taken f_on f_queues f_queued f_engaged f_dressing f_dressed f_standing f_stations f_limits f_worked fst fo _ (by assumption)) (vx_cwSW 4 hts gL_law_L_station rfl rfl rfl (by decide +kernel) ⟨Nat.le_of_ble_eq_true rfl, Nat.le_of_ble_eq_true rfl⟩) (ps_z hP hD hK hG hZ hS hF [0, 1, 2, 5] rfl rfl rfl) rfl rfl hl.1 rfl (lv_room (Nat.le_of_ble_eq_true rfl)) dL_law_2647 ⟨Nat.le_of_ble_eq_true rfl, Nat.le_of_ble_eq_true rfl⟩) hS (fun q _ h => hF q h) hF (fun r_3 uu9 tt9 H locs ht hvm wr_3 hB hz1 hk1 hS => ?_)
  obtain ⟨go_4, k_5, hP1, hD1⟩ := hB
  rw [ht] at hP1
  obtain ⟨hP, hD⟩ := va_join (wr := [(m0, .inr (12, fs)), (m_station, .inl (cT 0, 3, .inl mst))]) (w1 := [(o9, .inl (cT 2, 1, .inr (.inl go_4)))]) hP hD [0, 1, 2, 5] [3, 4] rfl rfl (by decide) (by decide) hk1 hF hP1 hD1
  have hP : va_P D vwCl [(m0, .inr (12, fs)), (m_station, .inl (cT 0, 3, .inl mst)), (o9, .inl (cT 2, 1, .inr (.inl go_4)))] _ := hP
  have hD : va_D A [(m0, .inr (12, fs)), (m_station, .inl (cT 0, 3, .inl mst)), (o9, .inl (cT 2, 1, .inr (.inl go_4)))] := hD
  refine W.widen (k := 217) (n := 539466) (Nat.le_of_ble_eq_true rfl) (Nat.le_of_ble_eq_true rfl) ?_
  refine lv_istore (lv' := [(5, .int r_3), (4, .int 0), (3, .ref o9), (2, .ref m0), (1, .ref h0), (0, .ref b)]) hx hb dL_law_2650 hl (by decide) rfl (fun ls hl => ?_)
  refine lv_aload_n hx hb dL_law_2652 rfl (lv_at hl 3 rfl) ?_
  refine lv_aload_n hx hb dL_law_2653 rfl (lv_at hl 5 rfl) ?_
  refine lv_iload hx hb dL_law_2654 (lv_at hl 1 rfl) ?_
  refine lv_iconst (v := 1) hx hb dL_law_2656 (by decide) ?_
  refine lv_iadd hx hb dL_law_2657 ?_
  refine lv_topi (fun z_6 ez_6 => ?_)
  obtain rfl : z_6 = 1 := ez_6.trans (by decide)
  refine va_sld hx hb hX hbl hbA hS (by unfold vp_in; decide) dL_law_2658 ?_
  refine lv_aload_n hx hb dL_law_2659 rfl (lv_at hl 5 rfl) ?_
  refine lv_iload hx hb dL_law_2660 (lv_at hl 1 rfl) ?_
  refine lv_iconst (v := 2) hx hb dL_law_2662 (by decide) ?_
  refine lv_iadd hx hb dL_law_2663 ?_
  refine lv_topi (fun z_7 ez_7 => ?_)
  obtain rfl : z_7 = 2 := ez_7.trans (by decide)
  refine va_sld hx hb hX hbl hbA hS (by unfold vp_in; decide) dL_law_2664 ?_
  have hF := va_free (wc := [(m0, .inr (12, fs)), (m_station, .inl (cT 0, 3, .inl mst))]) hD hS hA [0, 1] rfl
  refine va_calli (va_runV (As := [.int (xs (Int32.toNatClampNeg 1)), .int (xs (Int32.toNatClampNeg 2))]) (rest := []) ⟨hx, hb, hml, hown, hts⟩ (c_X12_station l D cT m0 (xs (Int32.toNatClampNeg 1)) (xs (Int32.toNatClampNeg 2)) fs 0 m_station mst _ (by assumption) (hfs) (hfs_0) (hfs_88) (hfs_92)) (cwV 2 hts gL_law_X12_station rfl rfl rfl (by decide +kernel) ⟨Nat.le_of_ble_eq_true rfl, Nat.le_of_ble_eq_true rfl⟩) (pv_w hP hD hK hG [0, 1] rfl rfl rfl 0 rfl rfl) rfl rfl hl.1 rfl (lv_room (Nat.le_of_ble_eq_true rfl)) dL_law_2665 ⟨Nat.le_of_ble_eq_true rfl, Nat.le_of_ble_eq_true rfl⟩) hS (fun q _ h => hF q h) hF (fun r_8 uu9 tt9 H locs ht hvm wr_8 hB hz1 hk1 hS => ?_)
  obtain ⟨gs_9, tt_10, hgs_9, hgs_9_0, k_13, hP1, hD1⟩ := hB
  rw [ht] at hP1
  obtain ⟨hP, hD⟩ := va_join (wr := [(o9, .inl (cT 2, 1, .inr (.inl go_4)))]) (w1 := [(m0, .inr (12, gs_9))]) hP hD [0, 1] [2] rfl rfl (by decide) (by decide) hk1 hF hP1 hD1
  have hP : va_P D vwCl [(o9, .inl (cT 2, 1, .inr (.inl go_4))), (m0, .inr (12, gs_9))] _ := hP
  have hD : va_D A [(o9, .inl (cT 2, 1, .inr (.inl go_4))), (m0, .inr (12, gs_9))] := hD
  refine lv_istore (lv' := [(6, .int r_8), (5, .int r_3), (4, .int 0), (3, .ref o9), (2, .ref m0), (1, .ref h0), (0, .ref b)]) hx hb dL_law_2668 hl (by decide) rfl (fun ls hl => ?_)
  refine lv_aload_n hx hb dL_law_2670 rfl (lv_at hl 4 rfl) ?_
  have hF := va_free (wc := [(m0, .inr (12, gs_9))]) hD hS hA [1] rfl
  refine va_calli (va_runV (As := []) (rest := []) ⟨hx, hb, hml, hown, hts⟩ (c_X12_thrown l D cT m0 gs_9 tt_10 _ (hgs_9) (hgs_9_0)) (cwV 0 hts gL_law_X12_thrown rfl rfl rfl (by decide +kernel) ⟨Nat.le_of_ble_eq_true rfl, Nat.le_of_ble_eq_true rfl⟩) (pv_w hP hD hK hG [1] rfl rfl rfl 1 rfl rfl) rfl rfl hl.1 rfl (lv_room (Nat.le_of_ble_eq_true rfl)) dL_law_2671 ⟨Nat.le_of_ble_eq_true rfl, Nat.le_of_ble_eq_true rfl⟩) hS (fun q _ h => hF q h) hF (fun r_14 uu9 tt9 H locs ht hvm wr_14 hB hz1 hk1 hS => ?_)
  obtain ⟨hP1, hD1⟩ := hB
  rw [ht] at hP1
  obtain ⟨hP, hD⟩ := va_join (wr := [(o9, .inl (cT 2, 1, .inr (.inl go_4)))]) (w1 := [(m0, .inr (12, gs_9))]) hP hD [1] [0] rfl rfl (by decide) (by decide) hk1 hF hP1 hD1
  have hP : va_P D vwCl [(o9, .inl (cT 2, 1, .inr (.inl go_4))), (m0, .inr (12, gs_9))] _ := hP
  have hD : va_D A [(o9, .inl (cT 2, 1, .inr (.inl go_4))), (m0, .inr (12, gs_9))] := hD
  refine lv_iload hx hb dL_law_2674 (lv_at hl 1 rfl) ?_
  refine lv_icmp_eq (tgt := 2681) hx hb dL_law_2676 (by decide) (fun c_15 => ?_) (fun c_15 => ((c_15 (Eq.trans (wr_14.trans k_13) (Eq.symm wr_3)) : False)).elim)
  refine lv_iload hx hb dL_law_2681 (lv_at hl 1 rfl) ?_
  refine lv_if_ne (tgt := 2698) hx hb dL_law_2683 (by decide) (fun c_16 => ?_) (fun c_16 => ?_)
  · refine lv_goto (tgt := 3043) hx hb dL_law_2698 (by decide) ?_
    exact law_end C0 hA hAl hS (lv_sub hl [2, 6] rfl) (Nat.le_of_ble_eq_true rfl) (Nat.le_of_ble_eq_true rfl)
  · refine lv_aload_n hx hb dL_law_2686 rfl (lv_at hl 3 rfl) ?_
    refine lv_iconst (v := 0) hx hb dL_law_2687 (by decide) ?_
    refine va_lald hx hb hK hP 0 2 rfl rfl (by unfold vp_in; decide) dL_law_2688 ?_
    refine lv_topl (fun j_17 ej_17 => ?_)
    refine lv_iload hx hb dL_law_2689 (lv_at hl 0 rfl) ?_
    obtain ⟨j_18, ej_18⟩ : ∃ y : Int64, y = (r_8).toInt64 := ⟨_, rfl⟩
    refine lv_i2l (v := j_18) hx hb dL_law_2691 ej_18.symm ?_
    refine W.lcmp hx hb dL_law_2692 ?_
    refine lv_topi (fun x_19 ex_19 => ?_)
    refine lv_if_eq (tgt := 2698) hx hb dL_law_2693 (by decide) (fun c_20 => ?_) (fun c_20 => ((c_20 (ex_19.trans ((congr (congrArg lg_cmp (ej_17.trans (k_5 (Eq.trans (Eq.symm wr_3) c_16)))) (ej_18.trans (congrArg Int32.toInt64 (wr_8 (Eq.trans (Eq.symm wr_3) c_16))))).trans (lcmp_self _))) : False)).elim)
    refine lv_goto (tgt := 3043) hx hb dL_law_2698 (by decide) ?_
    exact law_end C0 hA hAl hS (lv_sub hl [2, 6] rfl) (Nat.le_of_ble_eq_true rfl) (Nat.le_of_ble_eq_true rfl)
theorem dL_law_2701 : decode cL_law 2701 = .ok (.aload_n 1, 1) := by decide +kernel
theorem dL_law_2702 : decode cL_law 2702 = .ok (.aload_n 0, 1) := by decide +kernel
theorem dL_law_2703 : decode cL_law 2703 = .ok (.iload 4, 2) := by decide +kernel
theorem dL_law_2705 : decode cL_law 2705 = .ok (.iconst 1, 1) := by decide +kernel
theorem dL_law_2706 : decode cL_law 2706 = .ok (.iadd, 1) := by decide +kernel
theorem dL_law_2707 : decode cL_law 2707 = .ok (.iaload, 1) := by decide +kernel
theorem dL_law_2708 : decode cL_law 2708 = .ok (.aload_n 0, 1) := by decide +kernel
theorem dL_law_2709 : decode cL_law 2709 = .ok (.iload 4, 2) := by decide +kernel
theorem dL_law_2711 : decode cL_law 2711 = .ok (.iconst 2, 1) := by decide +kernel
theorem dL_law_2712 : decode cL_law 2712 = .ok (.iadd, 1) := by decide +kernel
theorem dL_law_2713 : decode cL_law 2713 = .ok (.iaload, 1) := by decide +kernel
theorem dL_law_2714 : decode cL_law 2714 = .ok (.aload_n 3, 1) := by decide +kernel
theorem dL_law_2715 : decode cL_law 2715 = .ok (.invokestatic 265, 3) := by decide +kernel
theorem dL_law_2718 : decode cL_law 2718 = .ok (.istore 5, 2) := by decide +kernel
theorem dL_law_2720 : decode cL_law 2720 = .ok (.aload_n 2, 1) := by decide +kernel
theorem dL_law_2721 : decode cL_law 2721 = .ok (.aload_n 0, 1) := by decide +kernel
theorem dL_law_2722 : decode cL_law 2722 = .ok (.iload 4, 2) := by decide +kernel
theorem dL_law_2724 : decode cL_law 2724 = .ok (.iconst 1, 1) := by decide +kernel
theorem dL_law_2725 : decode cL_law 2725 = .ok (.iadd, 1) := by decide +kernel
theorem dL_law_2726 : decode cL_law 2726 = .ok (.iaload, 1) := by decide +kernel
theorem dL_law_2727 : decode cL_law 2727 = .ok (.aload_n 0, 1) := by decide +kernel
theorem dL_law_2728 : decode cL_law 2728 = .ok (.iload 4, 2) := by decide +kernel
theorem dL_law_2730 : decode cL_law 2730 = .ok (.iconst 2, 1) := by decide +kernel
theorem dL_law_2731 : decode cL_law 2731 = .ok (.iadd, 1) := by decide +kernel
theorem dL_law_2732 : decode cL_law 2732 = .ok (.iaload, 1) := by decide +kernel
theorem dL_law_2733 : decode cL_law 2733 = .ok (.invokevirtual 267, 3) := by decide +kernel
theorem dL_law_2736 : decode cL_law 2736 = .ok (.istore 6, 2) := by decide +kernel
theorem dL_law_2738 : decode cL_law 2738 = .ok (.aload_n 2, 1) := by decide +kernel
theorem dL_law_2739 : decode cL_law 2739 = .ok (.invokevirtual 149, 3) := by decide +kernel
theorem dL_law_2742 : decode cL_law 2742 = .ok (.iload 5, 2) := by decide +kernel
theorem dL_law_2744 : decode cL_law 2744 = .ok (.if_icmp .eq 5, 3) := by decide +kernel
theorem dL_law_2749 : decode cL_law 2749 = .ok (.iload 5, 2) := by decide +kernel
theorem dL_law_2751 : decode cL_law 2751 = .ok (.ifCond .ne 15, 3) := by decide +kernel
theorem dL_law_2766 : decode cL_law 2766 = .ok (.goto 277, 3) := by decide +kernel
set_option maxRecDepth 20000 in
theorem ggL_law_L_queue : GoodIn wsL_law wsL_queue := goodIn_ca (goodIn_ca (goodIn_r _ [1616, 878, 271, 1617, 1618, 1619, 2, 1620, 40, 883, 887, 888, 889, 890, 891, 892, 16, 893, 894, 895, 15, 896, 52, 1607, 1608, 1609, 282, 283, 298, 299, 300, 1621, 1622, 1623, 39, 1624, 138, 678, 679, 1625, 1626, 1627, 1628, 139, 897, 898, 899, 900, 135, 1629, 1630, 1631, 1632, 1633, 1634, 1635, 1636, 1637, 137, 358, 359, 1866, 1867, 1868, 1869, 1870, 1871, 1872, 1873, 1874, 1875, 1876, 2093, 2094, 2095, 2096, 2097, 2098, 2099, 2100, 2101, 2102, 2103, 2104, 2105, 2106, 2107, 1986, 1987, 1988, 1989, 1990, 1991, 1992, 2049, 2050, 2051, 2052, 2053, 2054, 2055, 2056, 2057, 2058, 2059, 2060, 2061, 2062, 2063, 2064, 2065, 2066] (by decide +kernel) (by decide +kernel)) (goodIn_sub (fun _ h => List.mem_append_right _ h) (by decide +kernel))) (goodIn_sub (fun _ h => List.mem_append_left _ (List.mem_append_left _ (List.mem_append_left _ (List.mem_append_right _ h)))) (by decide +kernel))
set_option maxRecDepth 20000 in
theorem gL_law_L_queue : GoodIn wsL_law (va_wsS RL 265 yL_queue wsL_queue) := goodIn_app (goodIn_of _ (by decide +kernel)) ggL_law_L_queue
set_option maxRecDepth 20000 in
theorem ggL_law_X12_queue : GoodIn wsL_law wsX12_queue := goodIn_r _ [1641, 265, 223, 224, 914, 915, 916, 5, 917, 733, 313, 314, 315, 316, 317, 318, 319, 1642, 1643, 1644, 1645, 225, 1646, 1647, 1648, 1649, 188, 184, 1877, 1878, 1879, 1880, 1881, 1882, 1883, 1884, 1885, 1886, 1887, 1888, 1889, 1890, 1891, 1892, 1893, 1894, 1895, 1896, 1897, 1898, 1899, 1900, 1901, 1902, 1903, 1904, 1905, 1906, 1907, 1908, 1909, 1910, 1911, 1912, 1913, 1914, 1915, 1916, 1917, 1918, 1919, 1920, 1921, 1922, 1923, 1924, 1925, 1926, 1927, 1928, 1929, 1930, 1931, 1932, 1933, 1934, 1935, 1936, 1937, 1938, 1939, 1940, 1941, 1942, 1943, 1944, 1945, 1946, 1947, 1948, 1949, 1950, 1951, 1952, 1953, 1954, 1955, 1956, 1957, 1958, 1959, 1960, 1961, 1962, 1963, 1964, 1965, 1966, 1967, 1968, 1969, 1970, 1971, 1972, 1973, 1974, 1975, 1976, 1977, 1978, 1979, 1980, 1981, 1982, 1983, 1984, 1985] (by decide +kernel) (by decide +kernel)
set_option maxRecDepth 20000 in
theorem gL_law_X12_queue : GoodIn wsL_law (wsV RL 267 RX12 yX12_queue wsX12_queue) := goodIn_app (goodIn_of _ (by decide +kernel)) ggL_law_X12_queue
set_option maxHeartbeats 8000000 in
set_option maxRecDepth 100000 in
/-- the law: queue -/
theorem law_case_36 {p : Program} {l : Launch} {e : Env} {s : State} {m : MethodId} {below : List Frame} {meth : Method} {c : Code} {D : va_G} {cT : Nat → ClassId} {b : Nat} {xs : Nat → Int32} {A : Nat → Prop} (hst : l.stackTraces = false) (C0 : lw_At p s m meth c b 7 xs) (hA : ∀ q : Nat, s.heap.size ≤ q → A q) (hAl : ∀ q, A q → s.heap.size ≤ q) (hK : va_K D vwCl (TY cT) s) (hG : GW s) (hZ : GZ A s s.heap) {h0 : Nat} {m0 : Nat} {o9 : Nat} {x_studio : Nat} {x_script : Nat} {x_teller : Nat} {x_planner : Nat} {x_plan : Nat} {x_drifts : Nat} {x_floor : Nat} {x_trial : Nat} {x_tape : Nat} {s_puppets : Nat} {s_shots : Nat} {s_sounds : Nat} {s_rates : Nat} {s_dresses : Nat} {fs : List Value} (hfs : fs.length = 109) (hfs_0 : fs[0]? = some (.int 0)) (hfs_1 : fs[1]? = some (.int 0)) (hfs_38 : fs[38]? = some (.int 0)) {H : Heap} {locs : List Loc} (hP : va_P D vwCl [(h0, .inr (11, [.ref x_studio, .ref x_script, .ref x_teller, .ref x_planner, .ref x_plan, .ref x_drifts, .ref x_floor, .ref x_trial, .ref x_tape, .int 0, .int (-1)])), (x_studio, .inr (8, [.ref s_puppets, .int 0, .ref s_shots, .int 0, .ref s_sounds, .ref s_rates, .ref s_dresses])), (s_shots, .inl (cT 5, 12, .inr (.inr (.inr (.inr (fun _ => none)))))), (m0, .inr (12, fs))] H) (hD : va_D A [(h0, .inr (11, [.ref x_studio, .ref x_script, .ref x_teller, .ref x_planner, .ref x_plan, .ref x_drifts, .ref x_floor, .ref x_trial, .ref x_tape, .int 0, .int (-1)])), (x_studio, .inr (8, [.ref s_puppets, .int 0, .ref s_shots, .int 0, .ref s_sounds, .ref s_rates, .ref s_dresses])), (s_shots, .inl (cT 5, 12, .inr (.inr (.inr (.inr (fun _ => none)))))), (m0, .inr (12, fs))]) (hS : va_S A s.heap H locs) {ls : Array Slot} (hl : lv_has ls 7 [(4, .int 0), (3, .ref o9), (2, .ref m0), (1, .ref h0), (0, .ref b)]) : W p l e room_1 s m #[Value.ref b] below meth c H locs 215 539454 (lw_Z below #[Value.ref b] s) (F0 m 2701 ls []) := by
  obtain ⟨hx, hb, hr, hml, hown, hts0, hX, hbl, hlocks, hgv⟩ := id C0
  have hts : ∀ w ∈ wsL_law, w.before #[Value.ref b] s = true := fun w h => hts0 w (wsL_law_in w h)
  have hbA : ¬ A b := fun h => absurd (hAl b h) (Nat.not_le.mpr hbl)
  have hown : s.vm.findClass RL = some m.cls := hown
  have hb : c.code = cL_law := hb
  refine lv_aload_n hx hb dL_law_2701 rfl (lv_at hl 3 rfl) ?_
  refine lv_aload_n hx hb dL_law_2702 rfl (lv_at hl 4 rfl) ?_
  refine lv_iload hx hb dL_law_2703 (lv_at hl 0 rfl) ?_
  refine lv_iconst (v := 1) hx hb dL_law_2705 (by decide) ?_
  refine lv_iadd hx hb dL_law_2706 ?_
  refine lv_topi (fun z_1 ez_1 => ?_)
  obtain rfl : z_1 = 1 := ez_1.trans (by decide)
  refine va_sld hx hb hX hbl hbA hS (by unfold vp_in; decide) dL_law_2707 ?_
  refine lv_aload_n hx hb dL_law_2708 rfl (lv_at hl 4 rfl) ?_
  refine lv_iload hx hb dL_law_2709 (lv_at hl 0 rfl) ?_
  refine lv_iconst (v := 2) hx hb dL_law_2711 (by decide) ?_
  refine lv_iadd hx hb dL_law_2712 ?_
  refine lv_topi (fun z_2 ez_2 => ?_)
  obtain rfl : z_2 = 2 := ez_2.trans (by decide)
  refine va_sld hx hb hX hbl hbA hS (by unfold vp_in; decide) dL_law_2713 ?_
  refine lv_aload_n hx hb dL_law_2714 rfl (lv_at hl 1 rfl) ?_
  have hF := va_free (wc := [(h0, .inr (11, [.ref x_studio, .ref x_script, .ref x_teller, .ref x_planner, .ref x_plan, .ref x_drifts, .ref x_floor, .ref x_trial, .ref x_tape, .int 0, .int (-1)])), (x_studio, .inr (8, [.ref s_puppets, .int 0, .ref s_shots, .int 0, .ref s_sounds, .ref s_rates, .ref s_dresses])), (s_shots, .inl (cT 5, 12, .inr (.inr (.inr (.inr (fun _ => none))))))]) hD hS hA [0, 1, 2] rfl
  refine va_calli (vx_runSW (As := [.ref h0, .int (xs (Int32.toNatClampNeg 1)), .int (xs (Int32.toNatClampNeg 2)), .ref o9]) (rest := []) ⟨hx, hb, hml, hown, hts⟩ (c_L_queue l hst D cT h0 (xs (Int32.toNatClampNeg 1)) (xs (Int32.toNatClampNeg 2)) o9 x_studio x_script x_teller x_planner x_plan x_drifts x_floor x_trial x_tape s_puppets s_shots s_sounds s_rates s_dresses _ ) (vx_cwSW 4 hts gL_law_L_queue rfl rfl rfl (by decide +kernel) ⟨Nat.le_of_ble_eq_true rfl, Nat.le_of_ble_eq_true rfl⟩) (ps_z hP hD hK hG hZ hS hF [0, 1, 2] rfl rfl rfl) rfl rfl hl.1 rfl (lv_room (Nat.le_of_ble_eq_true rfl)) dL_law_2715 ⟨Nat.le_of_ble_eq_true rfl, Nat.le_of_ble_eq_true rfl⟩) hS (fun q _ h => hF q h) hF (fun r_3 uu9 tt9 H locs ht hvm wr_3 hB hz1 hk1 hS => ?_)
  obtain ⟨hP, hD⟩ := va_join (wr := [(m0, .inr (12, fs))]) (w1 := []) hP hD [0, 1, 2] [3] rfl rfl (by decide) (by decide) hk1 hF vp_nil vd_nil
  have hP : va_P D vwCl [(m0, .inr (12, fs))] _ := hP
  have hD : va_D A [(m0, .inr (12, fs))] := hD
  refine W.widen (k := 216) (n := 539460) (Nat.le_of_ble_eq_true rfl) (Nat.le_of_ble_eq_true rfl) ?_
  obtain rfl : r_3 = 1 := wr_3.trans (rfl)
  refine lv_istore (lv' := [(5, .int 1), (4, .int 0), (3, .ref o9), (2, .ref m0), (1, .ref h0), (0, .ref b)]) hx hb dL_law_2718 hl (by decide) rfl (fun ls hl => ?_)
  refine lv_aload_n hx hb dL_law_2720 rfl (lv_at hl 3 rfl) ?_
  refine lv_aload_n hx hb dL_law_2721 rfl (lv_at hl 5 rfl) ?_
  refine lv_iload hx hb dL_law_2722 (lv_at hl 1 rfl) ?_
  refine lv_iconst (v := 1) hx hb dL_law_2724 (by decide) ?_
  refine lv_iadd hx hb dL_law_2725 ?_
  refine lv_topi (fun z_4 ez_4 => ?_)
  obtain rfl : z_4 = 1 := ez_4.trans (by decide)
  refine va_sld hx hb hX hbl hbA hS (by unfold vp_in; decide) dL_law_2726 ?_
  refine lv_aload_n hx hb dL_law_2727 rfl (lv_at hl 5 rfl) ?_
  refine lv_iload hx hb dL_law_2728 (lv_at hl 1 rfl) ?_
  refine lv_iconst (v := 2) hx hb dL_law_2730 (by decide) ?_
  refine lv_iadd hx hb dL_law_2731 ?_
  refine lv_topi (fun z_5 ez_5 => ?_)
  obtain rfl : z_5 = 2 := ez_5.trans (by decide)
  refine va_sld hx hb hX hbl hbA hS (by unfold vp_in; decide) dL_law_2732 ?_
  have hF := va_free (wc := [(m0, .inr (12, fs))]) hD hS hA [0] rfl
  refine va_calli (va_runV (As := [.int (xs (Int32.toNatClampNeg 1)), .int (xs (Int32.toNatClampNeg 2))]) (rest := []) ⟨hx, hb, hml, hown, hts⟩ (c_X12_queue l D cT m0 (xs (Int32.toNatClampNeg 1)) (xs (Int32.toNatClampNeg 2)) fs 0 _ (hfs) (hfs_0) (hfs_1) (hfs_38)) (cwV 2 hts gL_law_X12_queue rfl rfl rfl (by decide +kernel) ⟨Nat.le_of_ble_eq_true rfl, Nat.le_of_ble_eq_true rfl⟩) (pv_w hP hD hK hG [0] rfl rfl rfl 0 rfl rfl) rfl rfl hl.1 rfl (lv_room (Nat.le_of_ble_eq_true rfl)) dL_law_2733 ⟨Nat.le_of_ble_eq_true rfl, Nat.le_of_ble_eq_true rfl⟩) hS (fun q _ h => hF q h) hF (fun r_6 uu9 tt9 H locs ht hvm wr_6 hB hz1 hk1 hS => ?_)
  obtain ⟨gs_7, hgs_7, hgs_7_0, hP1, hD1⟩ := hB
  rw [ht] at hP1
  obtain ⟨hP, hD⟩ := va_join (wr := []) (w1 := [(m0, .inr (12, gs_7))]) hP hD [0] [] rfl rfl (by decide) (by decide) hk1 hF hP1 hD1
  have hP : va_P D vwCl [(m0, .inr (12, gs_7))] _ := hP
  have hD : va_D A [(m0, .inr (12, gs_7))] := hD
  refine lv_istore (lv' := [(6, .int r_6), (5, .int 1), (4, .int 0), (3, .ref o9), (2, .ref m0), (1, .ref h0), (0, .ref b)]) hx hb dL_law_2736 hl (by decide) rfl (fun ls hl => ?_)
  refine lv_aload_n hx hb dL_law_2738 rfl (lv_at hl 4 rfl) ?_
  have hF := va_free (wc := [(m0, .inr (12, gs_7))]) hD hS hA [0] rfl
  refine va_calli (va_runV (As := []) (rest := []) ⟨hx, hb, hml, hown, hts⟩ (c_X12_thrown l D cT m0 gs_7 1 _ (hgs_7) (hgs_7_0)) (cwV 0 hts gL_law_X12_thrown rfl rfl rfl (by decide +kernel) ⟨Nat.le_of_ble_eq_true rfl, Nat.le_of_ble_eq_true rfl⟩) (pv_w hP hD hK hG [0] rfl rfl rfl 0 rfl rfl) rfl rfl hl.1 rfl (lv_room (Nat.le_of_ble_eq_true rfl)) dL_law_2739 ⟨Nat.le_of_ble_eq_true rfl, Nat.le_of_ble_eq_true rfl⟩) hS (fun q _ h => hF q h) hF (fun r_10 uu9 tt9 H locs ht hvm wr_10 hB hz1 hk1 hS => ?_)
  obtain ⟨hP1, hD1⟩ := hB
  rw [ht] at hP1
  obtain ⟨hP, hD⟩ := va_join (wr := []) (w1 := [(m0, .inr (12, gs_7))]) hP hD [0] [] rfl rfl (by decide) (by decide) hk1 hF hP1 hD1
  have hP : va_P D vwCl [(m0, .inr (12, gs_7))] _ := hP
  have hD : va_D A [(m0, .inr (12, gs_7))] := hD
  obtain rfl : r_10 = 1 := wr_10.trans (rfl)
  refine lv_iload hx hb dL_law_2742 (lv_at hl 1 rfl) ?_
  refine lv_icmp_eq (tgt := 2749) hx hb dL_law_2744 (by decide) (fun _ => ?_) (fun c9 => absurd c9 (by decide))
  refine lv_iload hx hb dL_law_2749 (lv_at hl 1 rfl) ?_
  refine lv_if_ne (tgt := 2766) hx hb dL_law_2751 (by decide) (fun _ => ?_) (fun c9 => absurd c9 (by decide))
  refine lv_goto (tgt := 3043) hx hb dL_law_2766 (by decide) ?_
  exact law_end C0 hA hAl hS (lv_sub hl [2, 6] rfl) (Nat.le_of_ble_eq_true rfl) (Nat.le_of_ble_eq_true rfl)
theorem dL_law_2769 : decode cL_law 2769 = .ok (.aload_n 1, 1) := by decide +kernel
theorem dL_law_2770 : decode cL_law 2770 = .ok (.aload_n 0, 1) := by decide +kernel
theorem dL_law_2771 : decode cL_law 2771 = .ok (.iload 4, 2) := by decide +kernel
theorem dL_law_2773 : decode cL_law 2773 = .ok (.iconst 1, 1) := by decide +kernel
theorem dL_law_2774 : decode cL_law 2774 = .ok (.iadd, 1) := by decide +kernel
theorem dL_law_2775 : decode cL_law 2775 = .ok (.iaload, 1) := by decide +kernel
theorem dL_law_2776 : decode cL_law 2776 = .ok (.aload_n 3, 1) := by decide +kernel
theorem dL_law_2777 : decode cL_law 2777 = .ok (.invokestatic 268, 3) := by decide +kernel
theorem dL_law_2780 : decode cL_law 2780 = .ok (.istore 5, 2) := by decide +kernel
theorem dL_law_2782 : decode cL_law 2782 = .ok (.aload_n 2, 1) := by decide +kernel
theorem dL_law_2783 : decode cL_law 2783 = .ok (.aload_n 0, 1) := by decide +kernel
theorem dL_law_2784 : decode cL_law 2784 = .ok (.iload 4, 2) := by decide +kernel
theorem dL_law_2786 : decode cL_law 2786 = .ok (.iconst 1, 1) := by decide +kernel
theorem dL_law_2787 : decode cL_law 2787 = .ok (.iadd, 1) := by decide +kernel
theorem dL_law_2788 : decode cL_law 2788 = .ok (.iaload, 1) := by decide +kernel
theorem dL_law_2789 : decode cL_law 2789 = .ok (.invokevirtual 270, 3) := by decide +kernel
theorem dL_law_2792 : decode cL_law 2792 = .ok (.istore 6, 2) := by decide +kernel
theorem dL_law_2794 : decode cL_law 2794 = .ok (.aload_n 2, 1) := by decide +kernel
theorem dL_law_2795 : decode cL_law 2795 = .ok (.invokevirtual 149, 3) := by decide +kernel
theorem dL_law_2798 : decode cL_law 2798 = .ok (.iload 5, 2) := by decide +kernel
theorem dL_law_2800 : decode cL_law 2800 = .ok (.if_icmp .eq 5, 3) := by decide +kernel
theorem dL_law_2805 : decode cL_law 2805 = .ok (.iload 5, 2) := by decide +kernel
theorem dL_law_2807 : decode cL_law 2807 = .ok (.ifCond .ne 15, 3) := by decide +kernel
theorem dL_law_2810 : decode cL_law 2810 = .ok (.aload_n 3, 1) := by decide +kernel
theorem dL_law_2811 : decode cL_law 2811 = .ok (.iconst 0, 1) := by decide +kernel
theorem dL_law_2812 : decode cL_law 2812 = .ok (.laload, 1) := by decide +kernel
theorem dL_law_2813 : decode cL_law 2813 = .ok (.iload 6, 2) := by decide +kernel
theorem dL_law_2815 : decode cL_law 2815 = .ok (.i2l, 1) := by decide +kernel
theorem dL_law_2816 : decode cL_law 2816 = .ok (.lcmp, 1) := by decide +kernel
theorem dL_law_2817 : decode cL_law 2817 = .ok (.ifCond .eq 5, 3) := by decide +kernel
theorem dL_law_2822 : decode cL_law 2822 = .ok (.goto 221, 3) := by decide +kernel
set_option maxRecDepth 20000 in
theorem ggL_law_L_floor : GoodIn wsL_law wsL_floor := goodIn_ca (goodIn_r _ [1652, 272, 1653, 1654, 1655, 2, 1656, 40, 1451, 298, 299, 300, 293, 294, 295, 296, 297, 1657, 1658, 1659, 39, 1660, 1661, 1469, 1662, 1663, 1664, 1665, 1666, 1667, 145, 148, 58, 59, 60, 1668, 1669, 1670, 1671, 136, 146, 140, 1672, 1673, 1674, 1675, 1676, 138, 139, 1677, 1678, 1679, 1680, 137, 678, 679, 1681, 1682, 1683, 1684, 1685, 1471, 894, 895, 15, 896, 52, 1470, 898, 899, 900, 135, 358, 359, 1634, 1635, 1636, 1637, 1686, 1687, 1688, 1689, 1690, 1691, 1692, 1693, 1694, 1695, 1696, 1697, 142, 1698, 1225, 1226, 1227, 1228, 1204, 1229, 1230, 1231, 1232, 50, 1233, 1234, 1699, 1700, 1701, 1702, 1703, 1704, 1705, 1706, 1707, 1708, 1709, 1710, 141, 1711, 1712, 1713, 1714, 1715, 1716, 1717, 1718, 1719, 1285, 1286, 1287, 56, 1720, 1721, 1722, 1723, 143, 144, 1724, 414, 411, 415, 1725, 410, 412, 1726, 1727, 1728, 1729, 1730, 1731, 1732, 1733, 1734, 1626, 1627, 1628, 1735, 1196, 1197, 1198, 55, 1199, 1736, 1201, 1202, 1203, 1205, 623, 624, 625, 626, 627, 628, 1737, 1465, 1466, 1467, 147, 1468, 1866, 1867, 1868, 1869, 1870, 1871, 1872, 1873, 1874, 1875, 1876, 2049, 2050, 2051, 2052, 2053, 2054, 2055, 2056, 2057, 2058, 2059, 2060, 2061, 2062, 2063, 2064, 2065, 2066, 2093, 2094, 2095, 2096, 2097, 2098, 2099, 2100, 2101, 2102, 2103, 2104, 2105, 2106, 2107, 1986, 1987, 1988, 1989, 1990, 1991, 1992, 2082, 2083, 2084, 2085, 2086, 2087, 2088, 2089, 2090, 2091, 2092] (by decide +kernel) (by decide +kernel)) (goodIn_sub (fun _ h => List.mem_append_left _ (List.mem_append_left _ (List.mem_append_right _ h))) (by decide +kernel))
set_option maxRecDepth 20000 in
theorem gL_law_L_floor : GoodIn wsL_law (va_wsS RL 268 yL_floor wsL_floor) := goodIn_app (goodIn_of _ (by decide +kernel)) ggL_law_L_floor
set_option maxRecDepth 20000 in
theorem ggL_law_X12_floor : GoodIn wsL_law wsX12_floor := goodIn_r _ [1741, 265, 1456, 313, 314, 5, 315, 316, 317, 318, 319, 1742, 1743, 1744, 1745, 1746, 1747, 1748, 1749, 225, 187, 226, 228, 227, 203, 1750, 1751, 1752, 1753, 223, 224, 1646, 1647, 1648, 1649, 188, 184, 1754, 1755, 1756, 1757, 1758, 1759, 1760, 1761, 1239, 1240, 1241, 1242, 185, 186, 1243, 1244, 1245, 1246, 161, 1762, 1763, 1764, 1765, 1766, 1767, 1768, 1769, 222, 219, 221, 220, 202, 189, 1770, 1771, 1772, 1773, 733, 1642, 1643, 1644, 1645, 1774, 1775, 1776, 1777, 1214, 1215, 1216, 844, 845, 846, 1877, 1878, 1879, 1880, 1881, 1882, 1883, 1884, 1885, 1886, 1887, 1888, 1889, 1890, 1891, 1892, 1893, 1894, 1895, 1896, 1897, 1898, 1899, 1900, 1901, 1902, 1903, 1904, 1905, 1906, 1907, 1908, 1909, 1910, 1911, 1912, 1913, 1914, 1915, 1916, 1917, 1918, 1919, 1920, 1921, 1922, 1923, 1924, 1925, 1926, 1927, 1928, 1929, 1930, 1931, 1932, 1933, 1934, 1935, 1936, 1937, 1938, 1939, 1940, 1941, 1942, 1943, 1944, 1945, 1946, 1947, 1948, 1949, 1950, 1951, 1952, 1953, 1954, 1955, 1956, 1957, 1958, 1959, 1960, 1961, 1962, 1963, 1964, 1965, 1966, 1967, 1968, 1969, 1970, 1971, 1972, 1973, 1974, 1975, 1976, 1977, 1978, 1979, 1980, 1981, 1982, 1983, 1984, 1985] (by decide +kernel) (by decide +kernel)
set_option maxRecDepth 20000 in
theorem gL_law_X12_floor : GoodIn wsL_law (wsV RL 270 RX12 yX12_floor wsX12_floor) := goodIn_app (goodIn_of _ (by decide +kernel)) ggL_law_X12_floor
set_option maxHeartbeats 8000000 in
set_option maxRecDepth 100000 in
/-- the law: floor -/
theorem law_case_37 {p : Program} {l : Launch} {e : Env} {s : State} {m : MethodId} {below : List Frame} {meth : Method} {c : Code} {D : va_G} {cT : Nat → ClassId} {b : Nat} {xs : Nat → Int32} {A : Nat → Prop} (hst : l.stackTraces = false) (C0 : lw_At p s m meth c b 7 xs) (hA : ∀ q : Nat, s.heap.size ≤ q → A q) (hAl : ∀ q, A q → s.heap.size ≤ q) (hK : va_K D vwCl (TY cT) s) (hG : GW s) (hZ : GZ A s s.heap) {h0 : Nat} {m0 : Nat} {o9 : Nat} {x_studio : Nat} {x_script : Nat} {x_teller : Nat} {x_planner : Nat} {x_plan : Nat} {x_drifts : Nat} {x_floor : Nat} {x_trial : Nat} {x_tape : Nat} {f_taken : Nat} {f_on : Nat} {f_queues : Nat} {f_queued : Nat} {f_engaged : Nat} {f_dressing : Nat} {f_dressed : Nat} {f_standing : Nat} {f_stations : Nat} {f_limits : Nat} {f_worked : Nat} {fon : Nat → Int32} {fwo : Nat → Int32} {s_puppets : Nat} {s_shots : Nat} {s_sounds : Nat} {s_rates : Nat} {s_dresses : Nat} {fs : List Value} {m_queued : Nat} {m_onNow : Nat} {mon : Nat → Int32} {fo : Nat → Int64} (q0 : ∀ k, k < 3 → fon k = -1) (q1 : ∀ k, k < 3 → mon k = -1) (hfs : fs.length = 109) (hfs_0 : fs[0]? = some (.int 0)) (hfs_82 : fs[82]? = some (.int 0)) (hfs_93 : fs[93]? = some (.ref m_queued)) (hfs_95 : fs[95]? = some (.ref m_onNow)) {H : Heap} {locs : List Loc} (hP : va_P D vwCl [(h0, .inr (11, [.ref x_studio, .ref x_script, .ref x_teller, .ref x_planner, .ref x_plan, .ref x_drifts, .ref x_floor, .ref x_trial, .ref x_tape, .int 0, .int (-1)])), (x_floor, .inr (1, [.ref x_studio, .int 1, .int 0, .ref f_taken, .ref f_on, .ref f_queues, .ref f_queued, .ref f_engaged, .ref f_dressing, .ref f_dressed, .ref f_standing, .ref f_stations, .int 0, .ref f_limits, .ref f_worked, .int 0, .int 0, .int 0])), (f_on, .inl (cT 0, 3, .inl fon)), (f_queued, .inl (cT 0, 3, .inl (fun _ => 0))), (f_worked, .inl (cT 0, 6, .inl fwo)), (x_studio, .inr (8, [.ref s_puppets, .int 0, .ref s_shots, .int 0, .ref s_sounds, .ref s_rates, .ref s_dresses])), (s_shots, .inl (cT 5, 12, .inr (.inr (.inr (.inr (fun _ => none)))))), (m0, .inr (12, fs)), (m_queued, .inl (cT 0, 3, .inl (fun _ => 0))), (m_onNow, .inl (cT 0, 3, .inl mon)), (o9, .inl (cT 2, 1, .inr (.inl fo)))] H) (hD : va_D A [(h0, .inr (11, [.ref x_studio, .ref x_script, .ref x_teller, .ref x_planner, .ref x_plan, .ref x_drifts, .ref x_floor, .ref x_trial, .ref x_tape, .int 0, .int (-1)])), (x_floor, .inr (1, [.ref x_studio, .int 1, .int 0, .ref f_taken, .ref f_on, .ref f_queues, .ref f_queued, .ref f_engaged, .ref f_dressing, .ref f_dressed, .ref f_standing, .ref f_stations, .int 0, .ref f_limits, .ref f_worked, .int 0, .int 0, .int 0])), (f_on, .inl (cT 0, 3, .inl fon)), (f_queued, .inl (cT 0, 3, .inl (fun _ => 0))), (f_worked, .inl (cT 0, 6, .inl fwo)), (x_studio, .inr (8, [.ref s_puppets, .int 0, .ref s_shots, .int 0, .ref s_sounds, .ref s_rates, .ref s_dresses])), (s_shots, .inl (cT 5, 12, .inr (.inr (.inr (.inr (fun _ => none)))))), (m0, .inr (12, fs)), (m_queued, .inl (cT 0, 3, .inl (fun _ => 0))), (m_onNow, .inl (cT 0, 3, .inl mon)), (o9, .inl (cT 2, 1, .inr (.inl fo)))]) (hS : va_S A s.heap H locs) {ls : Array Slot} (hl : lv_has ls 7 [(4, .int 0), (3, .ref o9), (2, .ref m0), (1, .ref h0), (0, .ref b)]) : W p l e room_1 s m #[Value.ref b] below meth c H locs 215 539454 (lw_Z below #[Value.ref b] s) (F0 m 2769 ls []) := by
  obtain ⟨hx, hb, hr, hml, hown, hts0, hX, hbl, hlocks, hgv⟩ := id C0
  have hts : ∀ w ∈ wsL_law, w.before #[Value.ref b] s = true := fun w h => hts0 w (wsL_law_in w h)
  have hbA : ¬ A b := fun h => absurd (hAl b h) (Nat.not_le.mpr hbl)
  have hown : s.vm.findClass RL = some m.cls := hown
  have hb : c.code = cL_law := hb
  refine lv_aload_n hx hb dL_law_2769 rfl (lv_at hl 3 rfl) ?_
  refine lv_aload_n hx hb dL_law_2770 rfl (lv_at hl 4 rfl) ?_
  refine lv_iload hx hb dL_law_2771 (lv_at hl 0 rfl) ?_
  refine lv_iconst (v := 1) hx hb dL_law_2773 (by decide) ?_
  refine lv_iadd hx hb dL_law_2774 ?_
  refine lv_topi (fun z_1 ez_1 => ?_)
  obtain rfl : z_1 = 1 := ez_1.trans (by decide)
  refine va_sld hx hb hX hbl hbA hS (by unfold vp_in; decide) dL_law_2775 ?_
  refine lv_aload_n hx hb dL_law_2776 rfl (lv_at hl 1 rfl) ?_
  have hF := va_free (wc := [(h0, .inr (11, [.ref x_studio, .ref x_script, .ref x_teller, .ref x_planner, .ref x_plan, .ref x_drifts, .ref x_floor, .ref x_trial, .ref x_tape, .int 0, .int (-1)])), (x_floor, .inr (1, [.ref x_studio, .int 1, .int 0, .ref f_taken, .ref f_on, .ref f_queues, .ref f_queued, .ref f_engaged, .ref f_dressing, .ref f_dressed, .ref f_standing, .ref f_stations, .int 0, .ref f_limits, .ref f_worked, .int 0, .int 0, .int 0])), (f_on, .inl (cT 0, 3, .inl fon)), (f_queued, .inl (cT 0, 3, .inl (fun _ => 0))), (f_worked, .inl (cT 0, 6, .inl fwo)), (x_studio, .inr (8, [.ref s_puppets, .int 0, .ref s_shots, .int 0, .ref s_sounds, .ref s_rates, .ref s_dresses])), (s_shots, .inl (cT 5, 12, .inr (.inr (.inr (.inr (fun _ => none)))))), (o9, .inl (cT 2, 1, .inr (.inl fo)))]) hD hS hA [0, 1, 2, 3, 4, 5, 6, 10] rfl
  refine va_calli (vx_runSW (As := [.ref h0, .int (xs (Int32.toNatClampNeg 1)), .ref o9]) (rest := []) ⟨hx, hb, hml, hown, hts⟩ (c_L_floor l hst D cT h0 (xs (Int32.toNatClampNeg 1)) o9 x_studio x_script x_teller x_planner x_plan x_drifts x_floor x_trial x_tape f_taken f_on f_queues f_queued f_engaged f_dressing f_dressed f_standing f_stations f_limits f_worked fon fwo s_puppets s_shots s_sounds s_rates s_dresses fo _ (by assumption)) (vx_cwSW 3 hts gL_law_L_floor rfl rfl rfl (by decide +kernel) ⟨Nat.le_of_ble_eq_true rfl, Nat.le_of_ble_eq_true rfl⟩) (ps_z hP hD hK hG hZ hS hF [0, 1, 2, 3, 4, 5, 6, 10] rfl rfl rfl) rfl rfl hl.1 rfl (lv_room (Nat.le_of_ble_eq_true rfl)) dL_law_2777 ⟨Nat.le_of_ble_eq_true rfl, Nat.le_of_ble_eq_true rfl⟩) hS (fun q _ h => hF q h) hF (fun r_2 uu9 tt9 H locs ht hvm wr_2 hB hz1 hk1 hS => ?_)
  obtain ⟨go_3, k_4, hP1, hD1⟩ := hB
  rw [ht] at hP1
  obtain ⟨hP, hD⟩ := va_join (wr := [(m0, .inr (12, fs)), (m_queued, .inl (cT 0, 3, .inl (fun _ => 0))), (m_onNow, .inl (cT 0, 3, .inl mon))]) (w1 := [(o9, .inl (cT 2, 1, .inr (.inl go_3)))]) hP hD [0, 1, 2, 3, 4, 5, 6, 10] [7, 8, 9] rfl rfl (by decide) (by decide) hk1 hF hP1 hD1
  have hP : va_P D vwCl [(m0, .inr (12, fs)), (m_queued, .inl (cT 0, 3, .inl (fun _ => 0))), (m_onNow, .inl (cT 0, 3, .inl mon)), (o9, .inl (cT 2, 1, .inr (.inl go_3)))] _ := hP
  have hD : va_D A [(m0, .inr (12, fs)), (m_queued, .inl (cT 0, 3, .inl (fun _ => 0))), (m_onNow, .inl (cT 0, 3, .inl mon)), (o9, .inl (cT 2, 1, .inr (.inl go_3)))] := hD
  refine W.widen (k := 216) (n := 539460) (Nat.le_of_ble_eq_true rfl) (Nat.le_of_ble_eq_true rfl) ?_
  refine lv_istore (lv' := [(5, .int r_2), (4, .int 0), (3, .ref o9), (2, .ref m0), (1, .ref h0), (0, .ref b)]) hx hb dL_law_2780 hl (by decide) rfl (fun ls hl => ?_)
  refine lv_aload_n hx hb dL_law_2782 rfl (lv_at hl 3 rfl) ?_
  refine lv_aload_n hx hb dL_law_2783 rfl (lv_at hl 5 rfl) ?_
  refine lv_iload hx hb dL_law_2784 (lv_at hl 1 rfl) ?_
  refine lv_iconst (v := 1) hx hb dL_law_2786 (by decide) ?_
  refine lv_iadd hx hb dL_law_2787 ?_
  refine lv_topi (fun z_5 ez_5 => ?_)
  obtain rfl : z_5 = 1 := ez_5.trans (by decide)
  refine va_sld hx hb hX hbl hbA hS (by unfold vp_in; decide) dL_law_2788 ?_
  have hF := va_free (wc := [(m0, .inr (12, fs)), (m_queued, .inl (cT 0, 3, .inl (fun _ => 0))), (m_onNow, .inl (cT 0, 3, .inl mon))]) hD hS hA [0, 1, 2] rfl
  refine va_calli (va_runV (As := [.int (xs (Int32.toNatClampNeg 1))]) (rest := []) ⟨hx, hb, hml, hown, hts⟩ (c_X12_floor l D cT m0 (xs (Int32.toNatClampNeg 1)) fs 0 m_queued m_onNow mon _ (by assumption) (hfs) (hfs_0) (hfs_82) (hfs_93) (hfs_95)) (cwV 1 hts gL_law_X12_floor rfl rfl rfl (by decide +kernel) ⟨Nat.le_of_ble_eq_true rfl, Nat.le_of_ble_eq_true rfl⟩) (pv_w hP hD hK hG [0, 1, 2] rfl rfl rfl 0 rfl rfl) rfl rfl hl.1 rfl (lv_room (Nat.le_of_ble_eq_true rfl)) dL_law_2789 ⟨Nat.le_of_ble_eq_true rfl, Nat.le_of_ble_eq_true rfl⟩) hS (fun q _ h => hF q h) hF (fun r_6 uu9 tt9 H locs ht hvm wr_6 hB hz1 hk1 hS => ?_)
  obtain ⟨gs_7, tt_8, hgs_7, hgs_7_0, k_11, hP1, hD1⟩ := hB
  rw [ht] at hP1
  obtain ⟨hP, hD⟩ := va_join (wr := [(o9, .inl (cT 2, 1, .inr (.inl go_3)))]) (w1 := [(m0, .inr (12, gs_7))]) hP hD [0, 1, 2] [3] rfl rfl (by decide) (by decide) hk1 hF hP1 hD1
  have hP : va_P D vwCl [(o9, .inl (cT 2, 1, .inr (.inl go_3))), (m0, .inr (12, gs_7))] _ := hP
  have hD : va_D A [(o9, .inl (cT 2, 1, .inr (.inl go_3))), (m0, .inr (12, gs_7))] := hD
  refine lv_istore (lv' := [(6, .int r_6), (5, .int r_2), (4, .int 0), (3, .ref o9), (2, .ref m0), (1, .ref h0), (0, .ref b)]) hx hb dL_law_2792 hl (by decide) rfl (fun ls hl => ?_)
  refine lv_aload_n hx hb dL_law_2794 rfl (lv_at hl 4 rfl) ?_
  have hF := va_free (wc := [(m0, .inr (12, gs_7))]) hD hS hA [1] rfl
  refine va_calli (va_runV (As := []) (rest := []) ⟨hx, hb, hml, hown, hts⟩ (c_X12_thrown l D cT m0 gs_7 tt_8 _ (hgs_7) (hgs_7_0)) (cwV 0 hts gL_law_X12_thrown rfl rfl rfl (by decide +kernel) ⟨Nat.le_of_ble_eq_true rfl, Nat.le_of_ble_eq_true rfl⟩) (pv_w hP hD hK hG [1] rfl rfl rfl 1 rfl rfl) rfl rfl hl.1 rfl (lv_room (Nat.le_of_ble_eq_true rfl)) dL_law_2795 ⟨Nat.le_of_ble_eq_true rfl, Nat.le_of_ble_eq_true rfl⟩) hS (fun q _ h => hF q h) hF (fun r_12 uu9 tt9 H locs ht hvm wr_12 hB hz1 hk1 hS => ?_)
  obtain ⟨hP1, hD1⟩ := hB
  rw [ht] at hP1
  obtain ⟨hP, hD⟩ := va_join (wr := [(o9, .inl (cT 2, 1, .inr (.inl go_3)))]) (w1 := [(m0, .inr (12, gs_7))]) hP hD [1] [0] rfl rfl (by decide) (by decide) hk1 hF hP1 hD1
  have hP : va_P D vwCl [(o9, .inl (cT 2, 1, .inr (.inl go_3))), (m0, .inr (12, gs_7))] _ := hP
  have hD : va_D A [(o9, .inl (cT 2, 1, .inr (.inl go_3))), (m0, .inr (12, gs_7))] := hD
  refine lv_iload hx hb dL_law_2798 (lv_at hl 1 rfl) ?_
  refine lv_icmp_eq (tgt := 2805) hx hb dL_law_2800 (by decide) (fun c_13 => ?_) (fun c_13 => ((c_13 (Eq.trans (wr_12.trans k_11) (Eq.symm wr_2)) : False)).elim)
  refine lv_iload hx hb dL_law_2805 (lv_at hl 1 rfl) ?_
  refine lv_if_ne (tgt := 2822) hx hb dL_law_2807 (by decide) (fun c_14 => ?_) (fun c_14 => ?_)
  · refine lv_goto (tgt := 3043) hx hb dL_law_2822 (by decide) ?_
    exact law_end C0 hA hAl hS (lv_sub hl [2, 6] rfl) (Nat.le_of_ble_eq_true rfl) (Nat.le_of_ble_eq_true rfl)
  · refine lv_aload_n hx hb dL_law_2810 rfl (lv_at hl 3 rfl) ?_
    refine lv_iconst (v := 0) hx hb dL_law_2811 (by decide) ?_
    refine va_lald hx hb hK hP 0 2 rfl rfl (by unfold vp_in; decide) dL_law_2812 ?_
    refine lv_topl (fun j_15 ej_15 => ?_)
    refine lv_iload hx hb dL_law_2813 (lv_at hl 0 rfl) ?_
    obtain ⟨j_16, ej_16⟩ : ∃ y : Int64, y = (r_6).toInt64 := ⟨_, rfl⟩
    refine lv_i2l (v := j_16) hx hb dL_law_2815 ej_16.symm ?_
    refine W.lcmp hx hb dL_law_2816 ?_
    refine lv_topi (fun x_17 ex_17 => ?_)
    refine lv_if_eq (tgt := 2822) hx hb dL_law_2817 (by decide) (fun c_18 => ?_) (fun c_18 => ((c_18 (ex_17.trans ((congr (congrArg lg_cmp (ej_15.trans (k_4 (Eq.trans (Eq.symm wr_2) c_14)))) (ej_16.trans (congrArg Int32.toInt64 (wr_6 (Eq.trans (Eq.symm wr_2) c_14))))).trans (lcmp_self _))) : False)).elim)
    refine lv_goto (tgt := 3043) hx hb dL_law_2822 (by decide) ?_
    exact law_end C0 hA hAl hS (lv_sub hl [2, 6] rfl) (Nat.le_of_ble_eq_true rfl) (Nat.le_of_ble_eq_true rfl)
theorem dL_law_2825 : decode cL_law 2825 = .ok (.aload_n 1, 1) := by decide +kernel
theorem dL_law_2826 : decode cL_law 2826 = .ok (.aload_n 0, 1) := by decide +kernel
theorem dL_law_2827 : decode cL_law 2827 = .ok (.iload 4, 2) := by decide +kernel
theorem dL_law_2829 : decode cL_law 2829 = .ok (.iconst 1, 1) := by decide +kernel
theorem dL_law_2830 : decode cL_law 2830 = .ok (.iadd, 1) := by decide +kernel
theorem dL_law_2831 : decode cL_law 2831 = .ok (.iaload, 1) := by decide +kernel
theorem dL_law_2832 : decode cL_law 2832 = .ok (.aload_n 0, 1) := by decide +kernel
theorem dL_law_2833 : decode cL_law 2833 = .ok (.iload 4, 2) := by decide +kernel
theorem dL_law_2835 : decode cL_law 2835 = .ok (.iconst 2, 1) := by decide +kernel
theorem dL_law_2836 : decode cL_law 2836 = .ok (.iadd, 1) := by decide +kernel
theorem dL_law_2837 : decode cL_law 2837 = .ok (.iaload, 1) := by decide +kernel
theorem dL_law_2838 : decode cL_law 2838 = .ok (.aload_n 3, 1) := by decide +kernel
theorem dL_law_2839 : decode cL_law 2839 = .ok (.invokestatic 271, 3) := by decide +kernel
theorem dL_law_2842 : decode cL_law 2842 = .ok (.istore 5, 2) := by decide +kernel
theorem dL_law_2844 : decode cL_law 2844 = .ok (.aload_n 2, 1) := by decide +kernel
theorem dL_law_2845 : decode cL_law 2845 = .ok (.aload_n 0, 1) := by decide +kernel
theorem dL_law_2846 : decode cL_law 2846 = .ok (.iload 4, 2) := by decide +kernel
theorem dL_law_2848 : decode cL_law 2848 = .ok (.iconst 1, 1) := by decide +kernel
theorem dL_law_2849 : decode cL_law 2849 = .ok (.iadd, 1) := by decide +kernel
theorem dL_law_2850 : decode cL_law 2850 = .ok (.iaload, 1) := by decide +kernel
theorem dL_law_2851 : decode cL_law 2851 = .ok (.aload_n 0, 1) := by decide +kernel
theorem dL_law_2852 : decode cL_law 2852 = .ok (.iload 4, 2) := by decide +kernel
theorem dL_law_2854 : decode cL_law 2854 = .ok (.iconst 2, 1) := by decide +kernel
theorem dL_law_2855 : decode cL_law 2855 = .ok (.iadd, 1) := by decide +kernel
theorem dL_law_2856 : decode cL_law 2856 = .ok (.iaload, 1) := by decide +kernel
theorem dL_law_2857 : decode cL_law 2857 = .ok (.invokevirtual 273, 3) := by decide +kernel
theorem dL_law_2860 : decode cL_law 2860 = .ok (.istore 6, 2) := by decide +kernel
theorem dL_law_2862 : decode cL_law 2862 = .ok (.aload_n 2, 1) := by decide +kernel
theorem dL_law_2863 : decode cL_law 2863 = .ok (.invokevirtual 149, 3) := by decide +kernel
theorem dL_law_2866 : decode cL_law 2866 = .ok (.iload 5, 2) := by decide +kernel
theorem dL_law_2868 : decode cL_law 2868 = .ok (.if_icmp .eq 5, 3) := by decide +kernel
theorem dL_law_2873 : decode cL_law 2873 = .ok (.iload 5, 2) := by decide +kernel
theorem dL_law_2875 : decode cL_law 2875 = .ok (.ifCond .ne 15, 3) := by decide +kernel
theorem dL_law_2878 : decode cL_law 2878 = .ok (.aload_n 3, 1) := by decide +kernel
theorem dL_law_2879 : decode cL_law 2879 = .ok (.iconst 0, 1) := by decide +kernel
theorem dL_law_2880 : decode cL_law 2880 = .ok (.laload, 1) := by decide +kernel
theorem dL_law_2881 : decode cL_law 2881 = .ok (.iload 6, 2) := by decide +kernel
theorem dL_law_2883 : decode cL_law 2883 = .ok (.i2l, 1) := by decide +kernel
theorem dL_law_2884 : decode cL_law 2884 = .ok (.lcmp, 1) := by decide +kernel
theorem dL_law_2885 : decode cL_law 2885 = .ok (.ifCond .eq 5, 3) := by decide +kernel
theorem dL_law_2890 : decode cL_law 2890 = .ok (.goto 153, 3) := by decide +kernel
set_option maxRecDepth 20000 in
theorem ggL_law_L_on : GoodIn wsL_law wsL_on := goodIn_ca (goodIn_ca (goodIn_r _ [1780, 271, 272, 1781, 1782, 1783, 2, 1784, 296, 297, 40, 1607, 1608, 1609, 282, 283, 298, 299, 300, 1785, 1786, 1787, 39, 1788, 136, 678, 679, 1789, 1790, 1791, 1792, 146, 140, 1672, 141, 1793, 1471, 894, 895, 15, 896, 52, 1621, 1622, 1623, 1624, 138, 1794, 1795, 1796, 1797, 1633, 1677, 1678, 1679, 1680, 137, 1866, 1867, 1868, 1869, 1870, 1871, 1872, 1873, 1874, 1875, 1876, 2049, 2050, 2051, 2052, 2053, 2054, 2055, 2056, 2057, 2058, 2059, 2060, 2061, 2062, 2063, 2064, 2065, 2066, 2093, 2094, 2095, 2096, 2097, 2098, 2099, 2100, 2101, 2102, 2103, 2104, 2105, 2106, 2107, 1986, 1987, 1988, 1989, 1990, 1991, 1992] (by decide +kernel) (by decide +kernel)) (goodIn_sub (fun _ h => List.mem_append_left _ (List.mem_append_left _ (List.mem_append_right _ h))) (by decide +kernel))) (goodIn_sub (fun _ h => List.mem_append_left _ (List.mem_append_left _ (List.mem_append_left _ (List.mem_append_right _ h)))) (by decide +kernel))
set_option maxRecDepth 20000 in
theorem gL_law_L_on : GoodIn wsL_law (va_wsS RL 271 yL_on wsL_on) := goodIn_app (goodIn_of _ (by decide +kernel)) ggL_law_L_on
set_option maxRecDepth 20000 in
theorem ggL_law_X12_on : GoodIn wsL_law wsX12_on := goodIn_r _ [1801, 265, 225, 226, 227, 223, 224, 313, 314, 5, 315, 316, 317, 318, 319, 1877, 1878, 1879, 1880, 1881, 1882, 1883, 1884, 1885, 1886, 1887, 1888, 1889, 1890, 1891, 1892, 1893, 1894, 1895, 1896, 1897, 1898, 1899, 1900, 1901, 1902, 1903, 1904, 1905, 1906, 1907, 1908, 1909, 1910, 1911, 1912, 1913, 1914, 1915, 1916, 1917, 1918, 1919, 1920, 1921, 1922, 1923, 1924, 1925, 1926, 1927, 1928, 1929, 1930, 1931, 1932, 1933, 1934, 1935, 1936, 1937, 1938, 1939, 1940, 1941, 1942, 1943, 1944, 1945, 1946, 1947, 1948, 1949, 1950, 1951, 1952, 1953, 1954, 1955, 1956, 1957, 1958, 1959, 1960, 1961, 1962, 1963, 1964, 1965, 1966, 1967, 1968, 1969, 1970, 1971, 1972, 1973, 1974, 1975, 1976, 1977, 1978, 1979, 1980, 1981, 1982, 1983, 1984, 1985] (by decide +kernel) (by decide +kernel)
set_option maxRecDepth 20000 in
theorem gL_law_X12_on : GoodIn wsL_law (wsV RL 273 RX12 yX12_on wsX12_on) := goodIn_app (goodIn_of _ (by decide +kernel)) ggL_law_X12_on
set_option maxHeartbeats 8000000 in
set_option maxRecDepth 100000 in
/-- the law: on -/
theorem law_case_38 {p : Program} {l : Launch} {e : Env} {s : State} {m : MethodId} {below : List Frame} {meth : Method} {c : Code} {D : va_G} {cT : Nat → ClassId} {b : Nat} {xs : Nat → Int32} {A : Nat → Prop} (hst : l.stackTraces = false) (C0 : lw_At p s m meth c b 7 xs) (hA : ∀ q : Nat, s.heap.size ≤ q → A q) (hAl : ∀ q, A q → s.heap.size ≤ q) (hK : va_K D vwCl (TY cT) s) (hG : GW s) (hZ : GZ A s s.heap) {h0 : Nat} {m0 : Nat} {o9 : Nat} {x_studio : Nat} {x_script : Nat} {x_teller : Nat} {x_planner : Nat} {x_plan : Nat} {x_drifts : Nat} {x_floor : Nat} {x_trial : Nat} {x_tape : Nat} {f_taken : Nat} {f_on : Nat} {f_queues : Nat} {f_queued : Nat} {f_engaged : Nat} {f_dressing : Nat} {f_dressed : Nat} {f_standing : Nat} {f_stations : Nat} {f_limits : Nat} {f_worked : Nat} {fon : Nat → Int32} {s_puppets : Nat} {s_shots : Nat} {s_sounds : Nat} {s_rates : Nat} {s_dresses : Nat} {fs : List Value} {m_queued : Nat} {m_onNow : Nat} {m_dressing : Nat} {mon : Nat → Int32} {mdi : Nat → Int32} {fo : Nat → Int64} (q0 : ∀ k, k < 3 → fon k = -1) (q1 : ∀ k, k < 3 → mon k = -1) (q2 : ∀ k, k < 3 → mdi k = -1) (hfs : fs.length = 109) (hfs_0 : fs[0]? = some (.int 0)) (hfs_93 : fs[93]? = some (.ref m_queued)) (hfs_95 : fs[95]? = some (.ref m_onNow)) (hfs_96 : fs[96]? = some (.ref m_dressing)) {H : Heap} {locs : List Loc} (hP : va_P D vwCl [(h0, .inr (11, [.ref x_studio, .ref x_script, .ref x_teller, .ref x_planner, .ref x_plan, .ref x_drifts, .ref x_floor, .ref x_trial, .ref x_tape, .int 0, .int (-1)])), (x_floor, .inr (1, [.ref x_studio, .int 1, .int 0, .ref f_taken, .ref f_on, .ref f_queues, .ref f_queued, .ref f_engaged, .ref f_dressing, .ref f_dressed, .ref f_standing, .ref f_stations, .int 0, .ref f_limits, .ref f_worked, .int 0, .int 0, .int 0])), (f_on, .inl (cT 0, 3, .inl fon)), (f_queued, .inl (cT 0, 3, .inl (fun _ => 0))), (x_studio, .inr (8, [.ref s_puppets, .int 0, .ref s_shots, .int 0, .ref s_sounds, .ref s_rates, .ref s_dresses])), (s_shots, .inl (cT 5, 12, .inr (.inr (.inr (.inr (fun _ => none)))))), (m0, .inr (12, fs)), (m_onNow, .inl (cT 0, 3, .inl mon)), (m_dressing, .inl (cT 0, 3, .inl mdi)), (m_queued, .inl (cT 0, 3, .inl (fun _ => 0))), (o9, .inl (cT 2, 1, .inr (.inl fo)))] H) (hD : va_D A [(h0, .inr (11, [.ref x_studio, .ref x_script, .ref x_teller, .ref x_planner, .ref x_plan, .ref x_drifts, .ref x_floor, .ref x_trial, .ref x_tape, .int 0, .int (-1)])), (x_floor, .inr (1, [.ref x_studio, .int 1, .int 0, .ref f_taken, .ref f_on, .ref f_queues, .ref f_queued, .ref f_engaged, .ref f_dressing, .ref f_dressed, .ref f_standing, .ref f_stations, .int 0, .ref f_limits, .ref f_worked, .int 0, .int 0, .int 0])), (f_on, .inl (cT 0, 3, .inl fon)), (f_queued, .inl (cT 0, 3, .inl (fun _ => 0))), (x_studio, .inr (8, [.ref s_puppets, .int 0, .ref s_shots, .int 0, .ref s_sounds, .ref s_rates, .ref s_dresses])), (s_shots, .inl (cT 5, 12, .inr (.inr (.inr (.inr (fun _ => none)))))), (m0, .inr (12, fs)), (m_onNow, .inl (cT 0, 3, .inl mon)), (m_dressing, .inl (cT 0, 3, .inl mdi)), (m_queued, .inl (cT 0, 3, .inl (fun _ => 0))), (o9, .inl (cT 2, 1, .inr (.inl fo)))]) (hS : va_S A s.heap H locs) {ls : Array Slot} (hl : lv_has ls 7 [(4, .int 0), (3, .ref o9), (2, .ref m0), (1, .ref h0), (0, .ref b)]) : W p l e room_1 s m #[Value.ref b] below meth c H locs 215 539454 (lw_Z below #[Value.ref b] s) (F0 m 2825 ls []) := by
  obtain ⟨hx, hb, hr, hml, hown, hts0, hX, hbl, hlocks, hgv⟩ := id C0
  have hts : ∀ w ∈ wsL_law, w.before #[Value.ref b] s = true := fun w h => hts0 w (wsL_law_in w h)
  have hbA : ¬ A b := fun h => absurd (hAl b h) (Nat.not_le.mpr hbl)
  have hown : s.vm.findClass RL = some m.cls := hown
  have hb : c.code = cL_law := hb
  refine lv_aload_n hx hb dL_law_2825 rfl (lv_at hl 3 rfl) ?_
  refine lv_aload_n hx hb dL_law_2826 rfl (lv_at hl 4 rfl) ?_
  refine lv_iload hx hb dL_law_2827 (lv_at hl 0 rfl) ?_
  refine lv_iconst (v := 1) hx hb dL_law_2829 (by decide) ?_
  refine lv_iadd hx hb dL_law_2830 ?_
  refine lv_topi (fun z_1 ez_1 => ?_)
  obtain rfl : z_1 = 1 := ez_1.trans (by decide)
  refine va_sld hx hb hX hbl hbA hS (by unfold vp_in; decide) dL_law_2831 ?_
  refine lv_aload_n hx hb dL_law_2832 rfl (lv_at hl 4 rfl) ?_
  refine lv_iload hx hb dL_law_2833 (lv_at hl 0 rfl) ?_
  refine lv_iconst (v := 2) hx hb dL_law_2835 (by decide) ?_
  refine lv_iadd hx hb dL_law_2836 ?_
  refine lv_topi (fun z_2 ez_2 => ?_)
  obtain rfl : z_2 = 2 := ez_2.trans (by decide)
  refine va_sld hx hb hX hbl hbA hS (by unfold vp_in; decide) dL_law_2837 ?_
  refine lv_aload_n hx hb dL_law_2838 rfl (lv_at hl 1 rfl) ?_
  have hF := va_free (wc := [(h0, .inr (11, [.ref x_studio, .ref x_script, .ref x_teller, .ref x_planner, .ref x_plan, .ref x_drifts, .ref x_floor, .ref x_trial, .ref x_tape, .int 0, .int (-1)])), (x_floor, .inr (1, [.ref x_studio, .int 1, .int 0, .ref f_taken, .ref f_on, .ref f_queues, .ref f_queued, .ref f_engaged, .ref f_dressing, .ref f_dressed, .ref f_standing, .ref f_stations, .int 0, .ref f_limits, .ref f_worked, .int 0, .int 0, .int 0])), (f_on, .inl (cT 0, 3, .inl fon)), (f_queued, .inl (cT 0, 3, .inl (fun _ => 0))), (x_studio, .inr (8, [.ref s_puppets, .int 0, .ref s_shots, .int 0, .ref s_sounds, .ref s_rates, .ref s_dresses])), (s_shots, .inl (cT 5, 12, .inr (.inr (.inr (.inr (fun _ => none)))))), (o9, .inl (cT 2, 1, .inr (.inl fo)))]) hD hS hA [0, 1, 2, 3, 4, 5, 10] rfl
  refine va_calli (vx_runSW (As := [.ref h0, .int (xs (Int32.toNatClampNeg 1)), .int (xs (Int32.toNatClampNeg 2)), .ref o9]) (rest := []) ⟨hx, hb, hml, hown, hts⟩ (c_L_on l hst D cT h0 (xs (Int32.toNatClampNeg 1)) (xs (Int32.toNatClampNeg 2)) o9 x_studio x_script x_teller x_planner x_plan x_drifts x_floor x_trial x_tape f_taken f_on f_queues f_queued f_engaged f_dressing f_dressed f_standing f_stations f_limits f_worked fon s_puppets s_shots s_sounds s_rates s_dresses fo _ (by assumption)) (vx_cwSW 4 hts gL_law_L_on rfl rfl rfl (by decide +kernel) ⟨Nat.le_of_ble_eq_true rfl, Nat.le_of_ble_eq_true rfl⟩) (ps_z hP hD hK hG hZ hS hF [0, 1, 2, 3, 4, 5, 10] rfl rfl rfl) rfl rfl hl.1 rfl (lv_room (Nat.le_of_ble_eq_true rfl)) dL_law_2839 ⟨Nat.le_of_ble_eq_true rfl, Nat.le_of_ble_eq_true rfl⟩) hS (fun q _ h => hF q h) hF (fun r_3 uu9 tt9 H locs ht hvm wr_3 hB hz1 hk1 hS => ?_)
  obtain ⟨go_4, k_5, hP1, hD1⟩ := hB
  rw [ht] at hP1
  obtain ⟨hP, hD⟩ := va_join (wr := [(m0, .inr (12, fs)), (m_onNow, .inl (cT 0, 3, .inl mon)), (m_dressing, .inl (cT 0, 3, .inl mdi)), (m_queued, .inl (cT 0, 3, .inl (fun _ => 0)))]) (w1 := [(o9, .inl (cT 2, 1, .inr (.inl go_4)))]) hP hD [0, 1, 2, 3, 4, 5, 10] [6, 7, 8, 9] rfl rfl (by decide) (by decide) hk1 hF hP1 hD1
  have hP : va_P D vwCl [(m0, .inr (12, fs)), (m_onNow, .inl (cT 0, 3, .inl mon)), (m_dressing, .inl (cT 0, 3, .inl mdi)), (m_queued, .inl (cT 0, 3, .inl (fun _ => 0))), (o9, .inl (cT 2, 1, .inr (.inl go_4)))] _ := hP
  have hD : va_D A [(m0, .inr (12, fs)), (m_onNow, .inl (cT 0, 3, .inl mon)), (m_dressing, .inl (cT 0, 3, .inl mdi)), (m_queued, .inl (cT 0, 3, .inl (fun _ => 0))), (o9, .inl (cT 2, 1, .inr (.inl go_4)))] := hD
  refine W.widen (k := 217) (n := 539466) (Nat.le_of_ble_eq_true rfl) (Nat.le_of_ble_eq_true rfl) ?_
  refine lv_istore (lv' := [(5, .int r_3), (4, .int 0), (3, .ref o9), (2, .ref m0), (1, .ref h0), (0, .ref b)]) hx hb dL_law_2842 hl (by decide) rfl (fun ls hl => ?_)
  refine lv_aload_n hx hb dL_law_2844 rfl (lv_at hl 3 rfl) ?_
  refine lv_aload_n hx hb dL_law_2845 rfl (lv_at hl 5 rfl) ?_
  refine lv_iload hx hb dL_law_2846 (lv_at hl 1 rfl) ?_
  refine lv_iconst (v := 1) hx hb dL_law_2848 (by decide) ?_
  refine lv_iadd hx hb dL_law_2849 ?_
  refine lv_topi (fun z_6 ez_6 => ?_)
  obtain rfl : z_6 = 1 := ez_6.trans (by decide)
  refine va_sld hx hb hX hbl hbA hS (by unfold vp_in; decide) dL_law_2850 ?_
  refine lv_aload_n hx hb dL_law_2851 rfl (lv_at hl 5 rfl) ?_
  refine lv_iload hx hb dL_law_2852 (lv_at hl 1 rfl) ?_
  refine lv_iconst (v := 2) hx hb dL_law_2854 (by decide) ?_
  refine lv_iadd hx hb dL_law_2855 ?_
  refine lv_topi (fun z_7 ez_7 => ?_)
  obtain rfl : z_7 = 2 := ez_7.trans (by decide)
  refine va_sld hx hb hX hbl hbA hS (by unfold vp_in; decide) dL_law_2856 ?_
  have hF := va_free (wc := [(m0, .inr (12, fs)), (m_onNow, .inl (cT 0, 3, .inl mon)), (m_dressing, .inl (cT 0, 3, .inl mdi)), (m_queued, .inl (cT 0, 3, .inl (fun _ => 0)))]) hD hS hA [0, 1, 2, 3] rfl
  refine va_calli (va_runV (As := [.int (xs (Int32.toNatClampNeg 1)), .int (xs (Int32.toNatClampNeg 2))]) (rest := []) ⟨hx, hb, hml, hown, hts⟩ (c_X12_on l D cT m0 (xs (Int32.toNatClampNeg 1)) (xs (Int32.toNatClampNeg 2)) fs 0 m_queued m_onNow m_dressing mon mdi _ (by assumption) (by assumption) (hfs) (hfs_0) (hfs_93) (hfs_95) (hfs_96)) (cwV 2 hts gL_law_X12_on rfl rfl rfl (by decide +kernel) ⟨Nat.le_of_ble_eq_true rfl, Nat.le_of_ble_eq_true rfl⟩) (pv_w hP hD hK hG [0, 1, 2, 3] rfl rfl rfl 0 rfl rfl) rfl rfl hl.1 rfl (lv_room (Nat.le_of_ble_eq_true rfl)) dL_law_2857 ⟨Nat.le_of_ble_eq_true rfl, Nat.le_of_ble_eq_true rfl⟩) hS (fun q _ h => hF q h) hF (fun r_8 uu9 tt9 H locs ht hvm wr_8 hB hz1 hk1 hS => ?_)
  obtain ⟨gs_9, tt_10, hgs_9, hgs_9_0, k_13, hP1, hD1⟩ := hB
  rw [ht] at hP1
  obtain ⟨hP, hD⟩ := va_join (wr := [(o9, .inl (cT 2, 1, .inr (.inl go_4)))]) (w1 := [(m0, .inr (12, gs_9))]) hP hD [0, 1, 2, 3] [4] rfl rfl (by decide) (by decide) hk1 hF hP1 hD1
  have hP : va_P D vwCl [(o9, .inl (cT 2, 1, .inr (.inl go_4))), (m0, .inr (12, gs_9))] _ := hP
  have hD : va_D A [(o9, .inl (cT 2, 1, .inr (.inl go_4))), (m0, .inr (12, gs_9))] := hD
  refine lv_istore (lv' := [(6, .int r_8), (5, .int r_3), (4, .int 0), (3, .ref o9), (2, .ref m0), (1, .ref h0), (0, .ref b)]) hx hb dL_law_2860 hl (by decide) rfl (fun ls hl => ?_)
  refine lv_aload_n hx hb dL_law_2862 rfl (lv_at hl 4 rfl) ?_
  have hF := va_free (wc := [(m0, .inr (12, gs_9))]) hD hS hA [1] rfl
  refine va_calli (va_runV (As := []) (rest := []) ⟨hx, hb, hml, hown, hts⟩ (c_X12_thrown l D cT m0 gs_9 tt_10 _ (hgs_9) (hgs_9_0)) (cwV 0 hts gL_law_X12_thrown rfl rfl rfl (by decide +kernel) ⟨Nat.le_of_ble_eq_true rfl, Nat.le_of_ble_eq_true rfl⟩) (pv_w hP hD hK hG [1] rfl rfl rfl 1 rfl rfl) rfl rfl hl.1 rfl (lv_room (Nat.le_of_ble_eq_true rfl)) dL_law_2863 ⟨Nat.le_of_ble_eq_true rfl, Nat.le_of_ble_eq_true rfl⟩) hS (fun q _ h => hF q h) hF (fun r_14 uu9 tt9 H locs ht hvm wr_14 hB hz1 hk1 hS => ?_)
  obtain ⟨hP1, hD1⟩ := hB
  rw [ht] at hP1
  obtain ⟨hP, hD⟩ := va_join (wr := [(o9, .inl (cT 2, 1, .inr (.inl go_4)))]) (w1 := [(m0, .inr (12, gs_9))]) hP hD [1] [0] rfl rfl (by decide) (by decide) hk1 hF hP1 hD1
  have hP : va_P D vwCl [(o9, .inl (cT 2, 1, .inr (.inl go_4))), (m0, .inr (12, gs_9))] _ := hP
  have hD : va_D A [(o9, .inl (cT 2, 1, .inr (.inl go_4))), (m0, .inr (12, gs_9))] := hD
  refine lv_iload hx hb dL_law_2866 (lv_at hl 1 rfl) ?_
  refine lv_icmp_eq (tgt := 2873) hx hb dL_law_2868 (by decide) (fun c_15 => ?_) (fun c_15 => ((c_15 (Eq.trans (wr_14.trans k_13) (Eq.symm wr_3)) : False)).elim)
  refine lv_iload hx hb dL_law_2873 (lv_at hl 1 rfl) ?_
  refine lv_if_ne (tgt := 2890) hx hb dL_law_2875 (by decide) (fun c_16 => ?_) (fun c_16 => ?_)
  · refine lv_goto (tgt := 3043) hx hb dL_law_2890 (by decide) ?_
    exact law_end C0 hA hAl hS (lv_sub hl [2, 6] rfl) (Nat.le_of_ble_eq_true rfl) (Nat.le_of_ble_eq_true rfl)
  · refine lv_aload_n hx hb dL_law_2878 rfl (lv_at hl 3 rfl) ?_
    refine lv_iconst (v := 0) hx hb dL_law_2879 (by decide) ?_
    refine va_lald hx hb hK hP 0 2 rfl rfl (by unfold vp_in; decide) dL_law_2880 ?_
    refine lv_topl (fun j_17 ej_17 => ?_)
    refine lv_iload hx hb dL_law_2881 (lv_at hl 0 rfl) ?_
    obtain ⟨j_18, ej_18⟩ : ∃ y : Int64, y = (r_8).toInt64 := ⟨_, rfl⟩
    refine lv_i2l (v := j_18) hx hb dL_law_2883 ej_18.symm ?_
    refine W.lcmp hx hb dL_law_2884 ?_
    refine lv_topi (fun x_19 ex_19 => ?_)
    refine lv_if_eq (tgt := 2890) hx hb dL_law_2885 (by decide) (fun c_20 => ?_) (fun c_20 => ((c_20 (ex_19.trans ((congr (congrArg lg_cmp (ej_17.trans (k_5 (Eq.trans (Eq.symm wr_3) c_16)))) (ej_18.trans (congrArg Int32.toInt64 (wr_8 (Eq.trans (Eq.symm wr_3) c_16))))).trans (lcmp_self _))) : False)).elim)
    refine lv_goto (tgt := 3043) hx hb dL_law_2890 (by decide) ?_
    exact law_end C0 hA hAl hS (lv_sub hl [2, 6] rfl) (Nat.le_of_ble_eq_true rfl) (Nat.le_of_ble_eq_true rfl)
theorem dL_law_2893 : decode cL_law 2893 = .ok (.aload_n 1, 1) := by decide +kernel
theorem dL_law_2894 : decode cL_law 2894 = .ok (.aload_n 0, 1) := by decide +kernel
theorem dL_law_2895 : decode cL_law 2895 = .ok (.iload 4, 2) := by decide +kernel
theorem dL_law_2897 : decode cL_law 2897 = .ok (.iconst 1, 1) := by decide +kernel
theorem dL_law_2898 : decode cL_law 2898 = .ok (.iadd, 1) := by decide +kernel
theorem dL_law_2899 : decode cL_law 2899 = .ok (.iaload, 1) := by decide +kernel
theorem dL_law_2900 : decode cL_law 2900 = .ok (.aload_n 3, 1) := by decide +kernel
theorem dL_law_2901 : decode cL_law 2901 = .ok (.invokestatic 274, 3) := by decide +kernel
theorem dL_law_2904 : decode cL_law 2904 = .ok (.istore 5, 2) := by decide +kernel
theorem dL_law_2906 : decode cL_law 2906 = .ok (.aload_n 2, 1) := by decide +kernel
theorem dL_law_2907 : decode cL_law 2907 = .ok (.aload_n 0, 1) := by decide +kernel
theorem dL_law_2908 : decode cL_law 2908 = .ok (.iload 4, 2) := by decide +kernel
theorem dL_law_2910 : decode cL_law 2910 = .ok (.iconst 1, 1) := by decide +kernel
theorem dL_law_2911 : decode cL_law 2911 = .ok (.iadd, 1) := by decide +kernel
theorem dL_law_2912 : decode cL_law 2912 = .ok (.iaload, 1) := by decide +kernel
theorem dL_law_2913 : decode cL_law 2913 = .ok (.invokevirtual 276, 3) := by decide +kernel
theorem dL_law_2916 : decode cL_law 2916 = .ok (.istore 6, 2) := by decide +kernel
theorem dL_law_2918 : decode cL_law 2918 = .ok (.aload_n 2, 1) := by decide +kernel
theorem dL_law_2919 : decode cL_law 2919 = .ok (.invokevirtual 149, 3) := by decide +kernel
theorem dL_law_2922 : decode cL_law 2922 = .ok (.iload 5, 2) := by decide +kernel
theorem dL_law_2924 : decode cL_law 2924 = .ok (.if_icmp .eq 5, 3) := by decide +kernel
theorem dL_law_2929 : decode cL_law 2929 = .ok (.iload 5, 2) := by decide +kernel
theorem dL_law_2931 : decode cL_law 2931 = .ok (.ifCond .ne 15, 3) := by decide +kernel
theorem dL_law_2934 : decode cL_law 2934 = .ok (.aload_n 3, 1) := by decide +kernel
theorem dL_law_2935 : decode cL_law 2935 = .ok (.iconst 0, 1) := by decide +kernel
theorem dL_law_2936 : decode cL_law 2936 = .ok (.laload, 1) := by decide +kernel
theorem dL_law_2937 : decode cL_law 2937 = .ok (.iload 6, 2) := by decide +kernel
theorem dL_law_2939 : decode cL_law 2939 = .ok (.i2l, 1) := by decide +kernel
theorem dL_law_2940 : decode cL_law 2940 = .ok (.lcmp, 1) := by decide +kernel
theorem dL_law_2941 : decode cL_law 2941 = .ok (.ifCond .eq 5, 3) := by decide +kernel
theorem dL_law_2946 : decode cL_law 2946 = .ok (.goto 97, 3) := by decide +kernel
set_option maxRecDepth 20000 in
theorem ggL_law_L_stands : GoodIn wsL_law wsL_stands := goodIn_ca (goodIn_r _ [1804, 272, 1805, 1806, 1807, 2, 1808, 40, 298, 299, 300, 293, 294, 295, 296, 297, 1809, 1695, 1696, 39, 1697, 142, 678, 679, 1866, 1867, 1868, 1869, 1870, 1871, 1872, 1873, 1874, 1875, 1876, 2049, 2050, 2051, 2052, 2053, 2054, 2055, 2056, 2057, 2058, 2059, 2060, 2061, 2062, 2063, 2064, 2065, 2066] (by decide +kernel) (by decide +kernel)) (goodIn_sub (fun _ h => List.mem_append_left _ (List.mem_append_left _ (List.mem_append_right _ h))) (by decide +kernel))
set_option maxRecDepth 20000 in
theorem gL_law_L_stands : GoodIn wsL_law (va_wsS RL 274 yL_stands wsL_stands) := goodIn_app (goodIn_of _ (by decide +kernel)) ggL_law_L_stands
set_option maxRecDepth 20000 in
theorem ggL_law_X12_stands : GoodIn wsL_law wsX12_stands := goodIn_r _ [1813, 265, 228, 313, 314, 5, 315, 316, 317, 318, 319, 1877, 1878, 1879, 1880, 1881, 1882, 1883, 1884, 1885, 1886, 1887, 1888, 1889, 1890, 1891, 1892, 1893, 1894, 1895, 1896, 1897, 1898, 1899, 1900, 1901, 1902, 1903, 1904, 1905, 1906, 1907, 1908, 1909, 1910, 1911, 1912, 1913, 1914, 1915, 1916, 1917, 1918, 1919, 1920, 1921, 1922, 1923, 1924, 1925, 1926, 1927, 1928, 1929, 1930, 1931, 1932, 1933, 1934, 1935, 1936, 1937, 1938, 1939, 1940, 1941, 1942, 1943, 1944, 1945, 1946, 1947, 1948, 1949, 1950, 1951, 1952, 1953, 1954, 1955, 1956, 1957, 1958, 1959, 1960, 1961, 1962, 1963, 1964, 1965, 1966, 1967, 1968, 1969, 1970, 1971, 1972, 1973, 1974, 1975, 1976, 1977, 1978, 1979, 1980, 1981, 1982, 1983, 1984, 1985] (by decide +kernel) (by decide +kernel)
set_option maxRecDepth 20000 in
theorem gL_law_X12_stands : GoodIn wsL_law (wsV RL 276 RX12 yX12_stands wsX12_stands) := goodIn_app (goodIn_of _ (by decide +kernel)) ggL_law_X12_stands
set_option maxHeartbeats 8000000 in
set_option maxRecDepth 100000 in
/-- the law: stands -/
theorem law_case_39 {p : Program} {l : Launch} {e : Env} {s : State} {m : MethodId} {below : List Frame} {meth : Method} {c : Code} {D : va_G} {cT : Nat → ClassId} {b : Nat} {xs : Nat → Int32} {A : Nat → Prop} (hst : l.stackTraces = false) (C0 : lw_At p s m meth c b 7 xs) (hA : ∀ q : Nat, s.heap.size ≤ q → A q) (hAl : ∀ q, A q → s.heap.size ≤ q) (hK : va_K D vwCl (TY cT) s) (hG : GW s) (hZ : GZ A s s.heap) {h0 : Nat} {m0 : Nat} {o9 : Nat} {x_studio : Nat} {x_script : Nat} {x_teller : Nat} {x_planner : Nat} {x_plan : Nat} {x_drifts : Nat} {x_floor : Nat} {x_trial : Nat} {x_tape : Nat} {f_studio : Nat} {f_taken : Nat} {f_on : Nat} {f_queues : Nat} {f_queued : Nat} {f_engaged : Nat} {f_dressing : Nat} {f_dressed : Nat} {f_standing : Nat} {f_stations : Nat} {f_limits : Nat} {f_worked : Nat} {fsg : Nat → Int32} {fs : List Value} {m_standsIn : Nat} {msi : Nat → Int32} {fo : Nat → Int64} (q0 : ∀ k, k < 8 → fsg k = -1) (q1 : ∀ k, k < 8 → msi k = -1) (hfs : fs.length = 109) (hfs_0 : fs[0]? = some (.int 0)) (hfs_98 : fs[98]? = some (.ref m_standsIn)) {H : Heap} {locs : List Loc} (hP : va_P D vwCl [(h0, .inr (11, [.ref x_studio, .ref x_script, .ref x_teller, .ref x_planner, .ref x_plan, .ref x_drifts, .ref x_floor, .ref x_trial, .ref x_tape, .int 0, .int (-1)])), (x_floor, .inr (1, [.ref f_studio, .int 1, .int 0, .ref f_taken, .ref f_on, .ref f_queues, .ref f_queued, .ref f_engaged, .ref f_dressing, .ref f_dressed, .ref f_standing, .ref f_stations, .int 0, .ref f_limits, .ref f_worked, .int 0, .int 0, .int 0])), (f_standing, .inl (cT 0, 8, .inl fsg)), (m0, .inr (12, fs)), (m_standsIn, .inl (cT 0, 8, .inl msi)), (o9, .inl (cT 2, 1, .inr (.inl fo)))] H) (hD : va_D A [(h0, .inr (11, [.ref x_studio, .ref x_script, .ref x_teller, .ref x_planner, .ref x_plan, .ref x_drifts, .ref x_floor, .ref x_trial, .ref x_tape, .int 0, .int (-1)])), (x_floor, .inr (1, [.ref f_studio, .int 1, .int 0, .ref f_taken, .ref f_on, .ref f_queues, .ref f_queued, .ref f_engaged, .ref f_dressing, .ref f_dressed, .ref f_standing, .ref f_stations, .int 0, .ref f_limits, .ref f_worked, .int 0, .int 0, .int 0])), (f_standing, .inl (cT 0, 8, .inl fsg)), (m0, .inr (12, fs)), (m_standsIn, .inl (cT 0, 8, .inl msi)), (o9, .inl (cT 2, 1, .inr (.inl fo)))]) (hS : va_S A s.heap H locs) {ls : Array Slot} (hl : lv_has ls 7 [(4, .int 0), (3, .ref o9), (2, .ref m0), (1, .ref h0), (0, .ref b)]) : W p l e room_1 s m #[Value.ref b] below meth c H locs 215 539454 (lw_Z below #[Value.ref b] s) (F0 m 2893 ls []) := by
  obtain ⟨hx, hb, hr, hml, hown, hts0, hX, hbl, hlocks, hgv⟩ := id C0
  have hts : ∀ w ∈ wsL_law, w.before #[Value.ref b] s = true := fun w h => hts0 w (wsL_law_in w h)
  have hbA : ¬ A b := fun h => absurd (hAl b h) (Nat.not_le.mpr hbl)
  have hown : s.vm.findClass RL = some m.cls := hown
  have hb : c.code = cL_law := hb
  refine lv_aload_n hx hb dL_law_2893 rfl (lv_at hl 3 rfl) ?_
  refine lv_aload_n hx hb dL_law_2894 rfl (lv_at hl 4 rfl) ?_
  refine lv_iload hx hb dL_law_2895 (lv_at hl 0 rfl) ?_
  refine lv_iconst (v := 1) hx hb dL_law_2897 (by decide) ?_
  refine lv_iadd hx hb dL_law_2898 ?_
  refine lv_topi (fun z_1 ez_1 => ?_)
  obtain rfl : z_1 = 1 := ez_1.trans (by decide)
  refine va_sld hx hb hX hbl hbA hS (by unfold vp_in; decide) dL_law_2899 ?_
  refine lv_aload_n hx hb dL_law_2900 rfl (lv_at hl 1 rfl) ?_
  have hF := va_free (wc := [(h0, .inr (11, [.ref x_studio, .ref x_script, .ref x_teller, .ref x_planner, .ref x_plan, .ref x_drifts, .ref x_floor, .ref x_trial, .ref x_tape, .int 0, .int (-1)])), (x_floor, .inr (1, [.ref f_studio, .int 1, .int 0, .ref f_taken, .ref f_on, .ref f_queues, .ref f_queued, .ref f_engaged, .ref f_dressing, .ref f_dressed, .ref f_standing, .ref f_stations, .int 0, .ref f_limits, .ref f_worked, .int 0, .int 0, .int 0])), (f_standing, .inl (cT 0, 8, .inl fsg)), (o9, .inl (cT 2, 1, .inr (.inl fo)))]) hD hS hA [0, 1, 2, 5] rfl
  refine va_calli (vx_runSW (As := [.ref h0, .int (xs (Int32.toNatClampNeg 1)), .ref o9]) (rest := []) ⟨hx, hb, hml, hown, hts⟩ (c_L_stands l hst D cT h0 (xs (Int32.toNatClampNeg 1)) o9 x_studio x_script x_teller x_planner x_plan x_drifts x_floor x_trial x_tape f_studio f_taken f_on f_queues f_queued f_engaged f_dressing f_dressed f_standing f_stations f_limits f_worked fsg fo _ (by assumption)) (vx_cwSW 3 hts gL_law_L_stands rfl rfl rfl (by decide +kernel) ⟨Nat.le_of_ble_eq_true rfl, Nat.le_of_ble_eq_true rfl⟩) (ps_z hP hD hK hG hZ hS hF [0, 1, 2, 5] rfl rfl rfl) rfl rfl hl.1 rfl (lv_room (Nat.le_of_ble_eq_true rfl)) dL_law_2901 ⟨Nat.le_of_ble_eq_true rfl, Nat.le_of_ble_eq_true rfl⟩) hS (fun q _ h => hF q h) hF (fun r_2 uu9 tt9 H locs ht hvm wr_2 hB hz1 hk1 hS => ?_)
  obtain ⟨go_3, k_4, hP1, hD1⟩ := hB
  rw [ht] at hP1
  obtain ⟨hP, hD⟩ := va_join (wr := [(m0, .inr (12, fs)), (m_standsIn, .inl (cT 0, 8, .inl msi))]) (w1 := [(o9, .inl (cT 2, 1, .inr (.inl go_3)))]) hP hD [0, 1, 2, 5] [3, 4] rfl rfl (by decide) (by decide) hk1 hF hP1 hD1
  have hP : va_P D vwCl [(m0, .inr (12, fs)), (m_standsIn, .inl (cT 0, 8, .inl msi)), (o9, .inl (cT 2, 1, .inr (.inl go_3)))] _ := hP
  have hD : va_D A [(m0, .inr (12, fs)), (m_standsIn, .inl (cT 0, 8, .inl msi)), (o9, .inl (cT 2, 1, .inr (.inl go_3)))] := hD
  refine W.widen (k := 216) (n := 539460) (Nat.le_of_ble_eq_true rfl) (Nat.le_of_ble_eq_true rfl) ?_
  refine lv_istore (lv' := [(5, .int r_2), (4, .int 0), (3, .ref o9), (2, .ref m0), (1, .ref h0), (0, .ref b)]) hx hb dL_law_2904 hl (by decide) rfl (fun ls hl => ?_)
  refine lv_aload_n hx hb dL_law_2906 rfl (lv_at hl 3 rfl) ?_
  refine lv_aload_n hx hb dL_law_2907 rfl (lv_at hl 5 rfl) ?_
  refine lv_iload hx hb dL_law_2908 (lv_at hl 1 rfl) ?_
  refine lv_iconst (v := 1) hx hb dL_law_2910 (by decide) ?_
  refine lv_iadd hx hb dL_law_2911 ?_
  refine lv_topi (fun z_5 ez_5 => ?_)
  obtain rfl : z_5 = 1 := ez_5.trans (by decide)
  refine va_sld hx hb hX hbl hbA hS (by unfold vp_in; decide) dL_law_2912 ?_
  have hF := va_free (wc := [(m0, .inr (12, fs)), (m_standsIn, .inl (cT 0, 8, .inl msi))]) hD hS hA [0, 1] rfl
  refine va_calli (va_runV (As := [.int (xs (Int32.toNatClampNeg 1))]) (rest := []) ⟨hx, hb, hml, hown, hts⟩ (c_X12_stands l D cT m0 (xs (Int32.toNatClampNeg 1)) fs 0 m_standsIn msi _ (by assumption) (hfs) (hfs_0) (hfs_98)) (cwV 1 hts gL_law_X12_stands rfl rfl rfl (by decide +kernel) ⟨Nat.le_of_ble_eq_true rfl, Nat.le_of_ble_eq_true rfl⟩) (pv_w hP hD hK hG [0, 1] rfl rfl rfl 0 rfl rfl) rfl rfl hl.1 rfl (lv_room (Nat.le_of_ble_eq_true rfl)) dL_law_2913 ⟨Nat.le_of_ble_eq_true rfl, Nat.le_of_ble_eq_true rfl⟩) hS (fun q _ h => hF q h) hF (fun r_6 uu9 tt9 H locs ht hvm wr_6 hB hz1 hk1 hS => ?_)
  obtain ⟨gs_7, tt_8, hgs_7, hgs_7_0, k_11, hP1, hD1⟩ := hB
  rw [ht] at hP1
  obtain ⟨hP, hD⟩ := va_join (wr := [(o9, .inl (cT 2, 1, .inr (.inl go_3)))]) (w1 := [(m0, .inr (12, gs_7))]) hP hD [0, 1] [2] rfl rfl (by decide) (by decide) hk1 hF hP1 hD1
  have hP : va_P D vwCl [(o9, .inl (cT 2, 1, .inr (.inl go_3))), (m0, .inr (12, gs_7))] _ := hP
  have hD : va_D A [(o9, .inl (cT 2, 1, .inr (.inl go_3))), (m0, .inr (12, gs_7))] := hD
  refine lv_istore (lv' := [(6, .int r_6), (5, .int r_2), (4, .int 0), (3, .ref o9), (2, .ref m0), (1, .ref h0), (0, .ref b)]) hx hb dL_law_2916 hl (by decide) rfl (fun ls hl => ?_)
  refine lv_aload_n hx hb dL_law_2918 rfl (lv_at hl 4 rfl) ?_
  have hF := va_free (wc := [(m0, .inr (12, gs_7))]) hD hS hA [1] rfl
  refine va_calli (va_runV (As := []) (rest := []) ⟨hx, hb, hml, hown, hts⟩ (c_X12_thrown l D cT m0 gs_7 tt_8 _ (hgs_7) (hgs_7_0)) (cwV 0 hts gL_law_X12_thrown rfl rfl rfl (by decide +kernel) ⟨Nat.le_of_ble_eq_true rfl, Nat.le_of_ble_eq_true rfl⟩) (pv_w hP hD hK hG [1] rfl rfl rfl 1 rfl rfl) rfl rfl hl.1 rfl (lv_room (Nat.le_of_ble_eq_true rfl)) dL_law_2919 ⟨Nat.le_of_ble_eq_true rfl, Nat.le_of_ble_eq_true rfl⟩) hS (fun q _ h => hF q h) hF (fun r_12 uu9 tt9 H locs ht hvm wr_12 hB hz1 hk1 hS => ?_)
  obtain ⟨hP1, hD1⟩ := hB
  rw [ht] at hP1
  obtain ⟨hP, hD⟩ := va_join (wr := [(o9, .inl (cT 2, 1, .inr (.inl go_3)))]) (w1 := [(m0, .inr (12, gs_7))]) hP hD [1] [0] rfl rfl (by decide) (by decide) hk1 hF hP1 hD1
  have hP : va_P D vwCl [(o9, .inl (cT 2, 1, .inr (.inl go_3))), (m0, .inr (12, gs_7))] _ := hP
  have hD : va_D A [(o9, .inl (cT 2, 1, .inr (.inl go_3))), (m0, .inr (12, gs_7))] := hD
  refine lv_iload hx hb dL_law_2922 (lv_at hl 1 rfl) ?_
  refine lv_icmp_eq (tgt := 2929) hx hb dL_law_2924 (by decide) (fun c_13 => ?_) (fun c_13 => ((c_13 (Eq.trans (wr_12.trans k_11) (Eq.symm wr_2)) : False)).elim)
  refine lv_iload hx hb dL_law_2929 (lv_at hl 1 rfl) ?_
  refine lv_if_ne (tgt := 2946) hx hb dL_law_2931 (by decide) (fun c_14 => ?_) (fun c_14 => ?_)
  · refine lv_goto (tgt := 3043) hx hb dL_law_2946 (by decide) ?_
    exact law_end C0 hA hAl hS (lv_sub hl [2, 6] rfl) (Nat.le_of_ble_eq_true rfl) (Nat.le_of_ble_eq_true rfl)
  · refine lv_aload_n hx hb dL_law_2934 rfl (lv_at hl 3 rfl) ?_
    refine lv_iconst (v := 0) hx hb dL_law_2935 (by decide) ?_
    refine va_lald hx hb hK hP 0 2 rfl rfl (by unfold vp_in; decide) dL_law_2936 ?_
    refine lv_topl (fun j_15 ej_15 => ?_)
    refine lv_iload hx hb dL_law_2937 (lv_at hl 0 rfl) ?_
    obtain ⟨j_16, ej_16⟩ : ∃ y : Int64, y = (r_6).toInt64 := ⟨_, rfl⟩
    refine lv_i2l (v := j_16) hx hb dL_law_2939 ej_16.symm ?_
    refine W.lcmp hx hb dL_law_2940 ?_
    refine lv_topi (fun x_17 ex_17 => ?_)
    refine lv_if_eq (tgt := 2946) hx hb dL_law_2941 (by decide) (fun c_18 => ?_) (fun c_18 => ((c_18 (ex_17.trans ((congr (congrArg lg_cmp (ej_15.trans (k_4 (Eq.trans (Eq.symm wr_2) c_14)))) (ej_16.trans (congrArg Int32.toInt64 (wr_6 (Eq.trans (Eq.symm wr_2) c_14))))).trans (lcmp_self _))) : False)).elim)
    refine lv_goto (tgt := 3043) hx hb dL_law_2946 (by decide) ?_
    exact law_end C0 hA hAl hS (lv_sub hl [2, 6] rfl) (Nat.le_of_ble_eq_true rfl) (Nat.le_of_ble_eq_true rfl)
theorem dL_law_2949 : decode cL_law 2949 = .ok (.aload_n 1, 1) := by decide +kernel
theorem dL_law_2950 : decode cL_law 2950 = .ok (.aload_n 0, 1) := by decide +kernel
theorem dL_law_2951 : decode cL_law 2951 = .ok (.iload 4, 2) := by decide +kernel
theorem dL_law_2953 : decode cL_law 2953 = .ok (.iconst 1, 1) := by decide +kernel
theorem dL_law_2954 : decode cL_law 2954 = .ok (.iadd, 1) := by decide +kernel
theorem dL_law_2955 : decode cL_law 2955 = .ok (.iaload, 1) := by decide +kernel
theorem dL_law_2956 : decode cL_law 2956 = .ok (.aload_n 3, 1) := by decide +kernel
theorem dL_law_2957 : decode cL_law 2957 = .ok (.invokestatic 277, 3) := by decide +kernel
theorem dL_law_2960 : decode cL_law 2960 = .ok (.istore 5, 2) := by decide +kernel
theorem dL_law_2962 : decode cL_law 2962 = .ok (.aload_n 2, 1) := by decide +kernel
theorem dL_law_2963 : decode cL_law 2963 = .ok (.aload_n 0, 1) := by decide +kernel
theorem dL_law_2964 : decode cL_law 2964 = .ok (.iload 4, 2) := by decide +kernel
theorem dL_law_2966 : decode cL_law 2966 = .ok (.iconst 1, 1) := by decide +kernel
theorem dL_law_2967 : decode cL_law 2967 = .ok (.iadd, 1) := by decide +kernel
theorem dL_law_2968 : decode cL_law 2968 = .ok (.iaload, 1) := by decide +kernel
theorem dL_law_2969 : decode cL_law 2969 = .ok (.invokevirtual 279, 3) := by decide +kernel
theorem dL_law_2972 : decode cL_law 2972 = .ok (.istore 6, 2) := by decide +kernel
theorem dL_law_2974 : decode cL_law 2974 = .ok (.aload_n 2, 1) := by decide +kernel
theorem dL_law_2975 : decode cL_law 2975 = .ok (.invokevirtual 149, 3) := by decide +kernel
theorem dL_law_2978 : decode cL_law 2978 = .ok (.iload 5, 2) := by decide +kernel
theorem dL_law_2980 : decode cL_law 2980 = .ok (.if_icmp .eq 5, 3) := by decide +kernel
theorem dL_law_2985 : decode cL_law 2985 = .ok (.iload 5, 2) := by decide +kernel
theorem dL_law_2987 : decode cL_law 2987 = .ok (.ifCond .ne 15, 3) := by decide +kernel
theorem dL_law_3002 : decode cL_law 3002 = .ok (.goto 41, 3) := by decide +kernel
set_option maxRecDepth 20000 in
theorem ggL_law_L_worked : GoodIn wsL_law wsL_worked := goodIn_ca (goodIn_r _ [1816, 272, 1817, 1818, 1819, 2, 1820, 40, 1605, 298, 299, 300, 293, 294, 295, 296, 297, 1821, 1822, 1823, 39, 1824, 145, 1663, 1664, 1665, 1666, 1469, 1667, 148, 58, 59, 60, 678, 679, 1866, 1867, 1868, 1869, 1870, 1871, 1872, 1873, 1874, 1875, 1876, 2049, 2050, 2051, 2052, 2053, 2054, 2055, 2056, 2057, 2058, 2059, 2060, 2061, 2062, 2063, 2064, 2065, 2066] (by decide +kernel) (by decide +kernel)) (goodIn_sub (fun _ h => List.mem_append_left _ (List.mem_append_left _ (List.mem_append_right _ h))) (by decide +kernel))
set_option maxRecDepth 20000 in
theorem gL_law_L_worked : GoodIn wsL_law (va_wsS RL 277 yL_worked wsL_worked) := goodIn_app (goodIn_of _ (by decide +kernel)) ggL_law_L_worked
set_option maxRecDepth 20000 in
theorem ggL_law_X12_worked : GoodIn wsL_law wsX12_worked := goodIn_r _ [1828, 265, 1597, 313, 314, 5, 315, 316, 317, 318, 319, 1774, 1775, 1776, 1777, 220, 1456, 221, 1877, 1878, 1879, 1880, 1881, 1882, 1883, 1884, 1885, 1886, 1887, 1888, 1889, 1890, 1891, 1892, 1893, 1894, 1895, 1896, 1897, 1898, 1899, 1900, 1901, 1902, 1903, 1904, 1905, 1906, 1907, 1908, 1909, 1910, 1911, 1912, 1913, 1914, 1915, 1916, 1917, 1918, 1919, 1920, 1921, 1922, 1923, 1924, 1925, 1926, 1927, 1928, 1929, 1930, 1931, 1932, 1933, 1934, 1935, 1936, 1937, 1938, 1939, 1940, 1941, 1942, 1943, 1944, 1945, 1946, 1947, 1948, 1949, 1950, 1951, 1952, 1953, 1954, 1955, 1956, 1957, 1958, 1959, 1960, 1961, 1962, 1963, 1964, 1965, 1966, 1967, 1968, 1969, 1970, 1971, 1972, 1973, 1974, 1975, 1976, 1977, 1978, 1979, 1980, 1981, 1982, 1983, 1984, 1985] (by decide +kernel) (by decide +kernel)
set_option maxRecDepth 20000 in
theorem gL_law_X12_worked : GoodIn wsL_law (wsV RL 279 RX12 yX12_worked wsX12_worked) := goodIn_app (goodIn_of _ (by decide +kernel)) ggL_law_X12_worked
set_option maxHeartbeats 8000000 in
set_option maxRecDepth 100000 in
/-- the law: worked -/
theorem law_case_40 {p : Program} {l : Launch} {e : Env} {s : State} {m : MethodId} {below : List Frame} {meth : Method} {c : Code} {D : va_G} {cT : Nat → ClassId} {b : Nat} {xs : Nat → Int32} {A : Nat → Prop} (hst : l.stackTraces = false) (C0 : lw_At p s m meth c b 7 xs) (hA : ∀ q : Nat, s.heap.size ≤ q → A q) (hAl : ∀ q, A q → s.heap.size ≤ q) (hK : va_K D vwCl (TY cT) s) (hG : GW s) (hZ : GZ A s s.heap) {h0 : Nat} {m0 : Nat} {o9 : Nat} {x_studio : Nat} {x_script : Nat} {x_teller : Nat} {x_planner : Nat} {x_plan : Nat} {x_drifts : Nat} {x_floor : Nat} {x_trial : Nat} {x_tape : Nat} {f_studio : Nat} {f_taken : Nat} {f_on : Nat} {f_queues : Nat} {f_queued : Nat} {f_engaged : Nat} {f_dressing : Nat} {f_dressed : Nat} {f_standing : Nat} {f_stations : Nat} {f_limits : Nat} {f_worked : Nat} {fs : List Value} (hfs : fs.length = 109) (hfs_0 : fs[0]? = some (.int 0)) (hfs_88 : fs[88]? = some (.int 0)) {H : Heap} {locs : List Loc} (hP : va_P D vwCl [(h0, .inr (11, [.ref x_studio, .ref x_script, .ref x_teller, .ref x_planner, .ref x_plan, .ref x_drifts, .ref x_floor, .ref x_trial, .ref x_tape, .int 0, .int (-1)])), (x_floor, .inr (1, [.ref f_studio, .int 1, .int 0, .ref f_taken, .ref f_on, .ref f_queues, .ref f_queued, .ref f_engaged, .ref f_dressing, .ref f_dressed, .ref f_standing, .ref f_stations, .int 0, .ref f_limits, .ref f_worked, .int 0, .int 0, .int 0])), (m0, .inr (12, fs))] H) (hD : va_D A [(h0, .inr (11, [.ref x_studio, .ref x_script, .ref x_teller, .ref x_planner, .ref x_plan, .ref x_drifts, .ref x_floor, .ref x_trial, .ref x_tape, .int 0, .int (-1)])), (x_floor, .inr (1, [.ref f_studio, .int 1, .int 0, .ref f_taken, .ref f_on, .ref f_queues, .ref f_queued, .ref f_engaged, .ref f_dressing, .ref f_dressed, .ref f_standing, .ref f_stations, .int 0, .ref f_limits, .ref f_worked, .int 0, .int 0, .int 0])), (m0, .inr (12, fs))]) (hS : va_S A s.heap H locs) {ls : Array Slot} (hl : lv_has ls 7 [(4, .int 0), (3, .ref o9), (2, .ref m0), (1, .ref h0), (0, .ref b)]) : W p l e room_1 s m #[Value.ref b] below meth c H locs 215 539454 (lw_Z below #[Value.ref b] s) (F0 m 2949 ls []) := by
  obtain ⟨hx, hb, hr, hml, hown, hts0, hX, hbl, hlocks, hgv⟩ := id C0
  have hts : ∀ w ∈ wsL_law, w.before #[Value.ref b] s = true := fun w h => hts0 w (wsL_law_in w h)
  have hbA : ¬ A b := fun h => absurd (hAl b h) (Nat.not_le.mpr hbl)
  have hown : s.vm.findClass RL = some m.cls := hown
  have hb : c.code = cL_law := hb
  refine lv_aload_n hx hb dL_law_2949 rfl (lv_at hl 3 rfl) ?_
  refine lv_aload_n hx hb dL_law_2950 rfl (lv_at hl 4 rfl) ?_
  refine lv_iload hx hb dL_law_2951 (lv_at hl 0 rfl) ?_
  refine lv_iconst (v := 1) hx hb dL_law_2953 (by decide) ?_
  refine lv_iadd hx hb dL_law_2954 ?_
  refine lv_topi (fun z_1 ez_1 => ?_)
  obtain rfl : z_1 = 1 := ez_1.trans (by decide)
  refine va_sld hx hb hX hbl hbA hS (by unfold vp_in; decide) dL_law_2955 ?_
  refine lv_aload_n hx hb dL_law_2956 rfl (lv_at hl 1 rfl) ?_
  have hF := va_free (wc := [(h0, .inr (11, [.ref x_studio, .ref x_script, .ref x_teller, .ref x_planner, .ref x_plan, .ref x_drifts, .ref x_floor, .ref x_trial, .ref x_tape, .int 0, .int (-1)])), (x_floor, .inr (1, [.ref f_studio, .int 1, .int 0, .ref f_taken, .ref f_on, .ref f_queues, .ref f_queued, .ref f_engaged, .ref f_dressing, .ref f_dressed, .ref f_standing, .ref f_stations, .int 0, .ref f_limits, .ref f_worked, .int 0, .int 0, .int 0]))]) hD hS hA [0, 1] rfl
  refine va_calli (vx_runSW (As := [.ref h0, .int (xs (Int32.toNatClampNeg 1)), .ref o9]) (rest := []) ⟨hx, hb, hml, hown, hts⟩ (c_L_worked l hst D cT h0 (xs (Int32.toNatClampNeg 1)) o9 x_studio x_script x_teller x_planner x_plan x_drifts x_floor x_trial x_tape f_studio f_taken f_on f_queues f_queued f_engaged f_dressing f_dressed f_standing f_stations f_limits f_worked _ ) (vx_cwSW 3 hts gL_law_L_worked rfl rfl rfl (by decide +kernel) ⟨Nat.le_of_ble_eq_true rfl, Nat.le_of_ble_eq_true rfl⟩) (ps_z hP hD hK hG hZ hS hF [0, 1] rfl rfl rfl) rfl rfl hl.1 rfl (lv_room (Nat.le_of_ble_eq_true rfl)) dL_law_2957 ⟨Nat.le_of_ble_eq_true rfl, Nat.le_of_ble_eq_true rfl⟩) hS (fun q _ h => hF q h) hF (fun r_2 uu9 tt9 H locs ht hvm wr_2 hB hz1 hk1 hS => ?_)
  obtain ⟨hP, hD⟩ := va_join (wr := [(m0, .inr (12, fs))]) (w1 := []) hP hD [0, 1] [2] rfl rfl (by decide) (by decide) hk1 hF vp_nil vd_nil
  have hP : va_P D vwCl [(m0, .inr (12, fs))] _ := hP
  have hD : va_D A [(m0, .inr (12, fs))] := hD
  refine W.widen (k := 216) (n := 539460) (Nat.le_of_ble_eq_true rfl) (Nat.le_of_ble_eq_true rfl) ?_
  obtain rfl : r_2 = 1 := wr_2.trans (rfl)
  refine lv_istore (lv' := [(5, .int 1), (4, .int 0), (3, .ref o9), (2, .ref m0), (1, .ref h0), (0, .ref b)]) hx hb dL_law_2960 hl (by decide) rfl (fun ls hl => ?_)
  refine lv_aload_n hx hb dL_law_2962 rfl (lv_at hl 3 rfl) ?_
  refine lv_aload_n hx hb dL_law_2963 rfl (lv_at hl 5 rfl) ?_
  refine lv_iload hx hb dL_law_2964 (lv_at hl 1 rfl) ?_
  refine lv_iconst (v := 1) hx hb dL_law_2966 (by decide) ?_
  refine lv_iadd hx hb dL_law_2967 ?_
  refine lv_topi (fun z_3 ez_3 => ?_)
  obtain rfl : z_3 = 1 := ez_3.trans (by decide)
  refine va_sld hx hb hX hbl hbA hS (by unfold vp_in; decide) dL_law_2968 ?_
  have hF := va_free (wc := [(m0, .inr (12, fs))]) hD hS hA [0] rfl
  refine va_calli (va_runV (As := [.int (xs (Int32.toNatClampNeg 1))]) (rest := []) ⟨hx, hb, hml, hown, hts⟩ (c_X12_worked l D cT m0 (xs (Int32.toNatClampNeg 1)) fs 0 _ (hfs) (hfs_0) (hfs_88)) (cwV 1 hts gL_law_X12_worked rfl rfl rfl (by decide +kernel) ⟨Nat.le_of_ble_eq_true rfl, Nat.le_of_ble_eq_true rfl⟩) (pv_w hP hD hK hG [0] rfl rfl rfl 0 rfl rfl) rfl rfl hl.1 rfl (lv_room (Nat.le_of_ble_eq_true rfl)) dL_law_2969 ⟨Nat.le_of_ble_eq_true rfl, Nat.le_of_ble_eq_true rfl⟩) hS (fun q _ h => hF q h) hF (fun r_4 uu9 tt9 H locs ht hvm wr_4 hB hz1 hk1 hS => ?_)
  obtain ⟨gs_5, hgs_5, hgs_5_0, hP1, hD1⟩ := hB
  rw [ht] at hP1
  obtain ⟨hP, hD⟩ := va_join (wr := []) (w1 := [(m0, .inr (12, gs_5))]) hP hD [0] [] rfl rfl (by decide) (by decide) hk1 hF hP1 hD1
  have hP : va_P D vwCl [(m0, .inr (12, gs_5))] _ := hP
  have hD : va_D A [(m0, .inr (12, gs_5))] := hD
  refine lv_istore (lv' := [(6, .int r_4), (5, .int 1), (4, .int 0), (3, .ref o9), (2, .ref m0), (1, .ref h0), (0, .ref b)]) hx hb dL_law_2972 hl (by decide) rfl (fun ls hl => ?_)
  refine lv_aload_n hx hb dL_law_2974 rfl (lv_at hl 4 rfl) ?_
  have hF := va_free (wc := [(m0, .inr (12, gs_5))]) hD hS hA [0] rfl
  refine va_calli (va_runV (As := []) (rest := []) ⟨hx, hb, hml, hown, hts⟩ (c_X12_thrown l D cT m0 gs_5 1 _ (hgs_5) (hgs_5_0)) (cwV 0 hts gL_law_X12_thrown rfl rfl rfl (by decide +kernel) ⟨Nat.le_of_ble_eq_true rfl, Nat.le_of_ble_eq_true rfl⟩) (pv_w hP hD hK hG [0] rfl rfl rfl 0 rfl rfl) rfl rfl hl.1 rfl (lv_room (Nat.le_of_ble_eq_true rfl)) dL_law_2975 ⟨Nat.le_of_ble_eq_true rfl, Nat.le_of_ble_eq_true rfl⟩) hS (fun q _ h => hF q h) hF (fun r_8 uu9 tt9 H locs ht hvm wr_8 hB hz1 hk1 hS => ?_)
  obtain ⟨hP1, hD1⟩ := hB
  rw [ht] at hP1
  obtain ⟨hP, hD⟩ := va_join (wr := []) (w1 := [(m0, .inr (12, gs_5))]) hP hD [0] [] rfl rfl (by decide) (by decide) hk1 hF hP1 hD1
  have hP : va_P D vwCl [(m0, .inr (12, gs_5))] _ := hP
  have hD : va_D A [(m0, .inr (12, gs_5))] := hD
  obtain rfl : r_8 = 1 := wr_8.trans (rfl)
  refine lv_iload hx hb dL_law_2978 (lv_at hl 1 rfl) ?_
  refine lv_icmp_eq (tgt := 2985) hx hb dL_law_2980 (by decide) (fun _ => ?_) (fun c9 => absurd c9 (by decide))
  refine lv_iload hx hb dL_law_2985 (lv_at hl 1 rfl) ?_
  refine lv_if_ne (tgt := 3002) hx hb dL_law_2987 (by decide) (fun _ => ?_) (fun c9 => absurd c9 (by decide))
  refine lv_goto (tgt := 3043) hx hb dL_law_3002 (by decide) ?_
  exact law_end C0 hA hAl hS (lv_sub hl [2, 6] rfl) (Nat.le_of_ble_eq_true rfl) (Nat.le_of_ble_eq_true rfl)
theorem dL_law_3005 : decode cL_law 3005 = .ok (.aload_n 1, 1) := by decide +kernel
theorem dL_law_3006 : decode cL_law 3006 = .ok (.invokevirtual 280, 3) := by decide +kernel
theorem dL_law_3009 : decode cL_law 3009 = .ok (.aload_n 2, 1) := by decide +kernel
theorem dL_law_3010 : decode cL_law 3010 = .ok (.invokevirtual 283, 3) := by decide +kernel
theorem dL_law_3013 : decode cL_law 3013 = .ok (.if_icmp .eq 30, 3) := by decide +kernel
set_option maxRecDepth 20000 in
theorem ggL_law_X11_foretold : GoodIn wsL_law wsX11_foretold := goodIn_r _ [1832, 41, 40, 1833, 1834, 1835, 39, 1836, 1469, 135, 1837, 418, 419, 420, 136, 137, 138, 139, 140, 141, 142, 143, 1592, 144, 145, 1667, 1662, 1838, 1839, 1840, 1841, 1657, 1658, 1659, 1660, 1661, 1663, 1664, 1665, 1666, 148, 58, 59, 60, 1668, 1669, 1670, 1671, 146, 1672, 1673, 1674, 1675, 1676, 1677, 1678, 1679, 1680, 299, 2, 300, 678, 679, 1681, 1682, 1683, 1684, 1685, 1471, 894, 895, 15, 896, 52, 1470, 898, 899, 900, 358, 359, 1634, 1635, 1636, 1637, 1686, 1687, 1688, 1689, 1690, 1691, 1692, 1693, 1694, 1695, 1696, 1697, 1698, 1225, 1226, 1227, 1228, 1204, 1229, 1230, 1231, 1232, 50, 1233, 1234, 1699, 1700, 1701, 1702, 1703, 1704, 1705, 1706, 1707, 1708, 1709, 1710, 1711, 1712, 1713, 1714, 1715, 1716, 1717, 1718, 1719, 1285, 1286, 1287, 56, 1720, 1721, 1722, 1723, 1724, 414, 411, 415, 1725, 410, 412, 1726, 1727, 1728, 1729, 1730, 1731, 1732, 1733, 1734, 1626, 1627, 1628, 1735, 1196, 1197, 1198, 55, 1199, 1736, 1201, 1202, 1203, 1205, 623, 624, 625, 626, 627, 628, 1737, 1465, 1466, 1467, 147, 1468, 1842, 1843, 1844, 1845, 1866, 1867, 1868, 1869, 1870, 1871, 1872, 1873, 1874, 1875, 1876, 2049, 2050, 2051, 2052, 2053, 2054, 2055, 2056, 2057, 2058, 2059, 2060, 2061, 2062, 2063, 2064, 2065, 2066, 2093, 2094, 2095, 2096, 2097, 2098, 2099, 2100, 2101, 2102, 2103, 2104, 2105, 2106, 2107, 1986, 1987, 1988, 1989, 1990, 1991, 1992, 2082, 2083, 2084, 2085, 2086, 2087, 2088, 2089, 2090, 2091, 2092] (by decide +kernel) (by decide +kernel)
set_option maxRecDepth 20000 in
theorem gL_law_X11_foretold : GoodIn wsL_law (wsV RL 280 RX11 yX11_foretold wsX11_foretold) := goodIn_app (goodIn_of _ (by decide +kernel)) ggL_law_X11_foretold
set_option maxRecDepth 20000 in
theorem ggL_law_X12_foretold : GoodIn wsL_law wsX12_foretold := goodIn_r _ [1849, 265, 1456, 1850, 220, 229, 221, 230, 223, 231, 224, 232, 225, 233, 226, 234, 227, 235, 228, 236, 188, 237, 1851, 1852, 5, 1853, 1854, 1855, 1856, 1857, 1742, 1743, 1744, 1745, 1746, 1747, 1748, 1749, 187, 203, 1750, 1751, 1752, 1753, 1646, 1647, 1648, 1649, 184, 1754, 1755, 1756, 1757, 1758, 1759, 1760, 1761, 1239, 1240, 1241, 1242, 185, 186, 1243, 1244, 1245, 1246, 161, 1762, 1763, 1764, 1765, 1766, 1767, 1768, 1769, 222, 219, 202, 189, 1770, 1771, 1772, 1773, 733, 1642, 1643, 1644, 1645, 1774, 1775, 1776, 1777, 1214, 1215, 1216, 844, 845, 846, 1877, 1878, 1879, 1880, 1881, 1882, 1883, 1884, 1885, 1886, 1887, 1888, 1889, 1890, 1891, 1892, 1893, 1894, 1895, 1896, 1897, 1898, 1899, 1900, 1901, 1902, 1903, 1904, 1905, 1906, 1907, 1908, 1909, 1910, 1911, 1912, 1913, 1914, 1915, 1916, 1917, 1918, 1919, 1920, 1921, 1922, 1923, 1924, 1925, 1926, 1927, 1928, 1929, 1930, 1931, 1932, 1933, 1934, 1935, 1936, 1937, 1938, 1939, 1940, 1941, 1942, 1943, 1944, 1945, 1946, 1947, 1948, 1949, 1950, 1951, 1952, 1953, 1954, 1955, 1956, 1957, 1958, 1959, 1960, 1961, 1962, 1963, 1964, 1965, 1966, 1967, 1968, 1969, 1970, 1971, 1972, 1973, 1974, 1975, 1976, 1977, 1978, 1979, 1980, 1981, 1982, 1983, 1984, 1985] (by decide +kernel) (by decide +kernel)
set_option maxRecDepth 20000 in
theorem gL_law_X12_foretold : GoodIn wsL_law (wsV RL 283 RX12 yX12_foretold wsX12_foretold) := goodIn_app (goodIn_of _ (by decide +kernel)) ggL_law_X12_foretold
set_option maxHeartbeats 8000000 in
set_option maxRecDepth 100000 in
/-- the law: foretold -/
theorem law_case_41 {p : Program} {l : Launch} {e : Env} {s : State} {m : MethodId} {below : List Frame} {meth : Method} {c : Code} {D : va_G} {cT : Nat → ClassId} {b : Nat} {xs : Nat → Int32} {A : Nat → Prop} (hst : l.stackTraces = false) (C0 : lw_At p s m meth c b 7 xs) (hA : ∀ q : Nat, s.heap.size ≤ q → A q) (hAl : ∀ q, A q → s.heap.size ≤ q) (hK : va_K D vwCl (TY cT) s) (hG : GW s) (hZ : GZ A s s.heap) {h0 : Nat} {m0 : Nat} {o9 : Nat} {x_studio : Nat} {x_script : Nat} {x_teller : Nat} {x_planner : Nat} {x_plan : Nat} {x_drifts : Nat} {x_floor : Nat} {x_trial : Nat} {x_tape : Nat} {t_studio : Nat} {t_taken : Nat} {t_on : Nat} {t_queues : Nat} {t_queued : Nat} {t_engaged : Nat} {t_dressing : Nat} {t_dressed : Nat} {t_standing : Nat} {t_stations : Nat} {t_limits : Nat} {t_worked : Nat} {tfon : Nat → Int32} {tfdi : Nat → Int32} {tfsg : Nat → Int32} {tfst : Nat → Int32} {f_studio : Nat} {f_taken : Nat} {f_on : Nat} {f_queues : Nat} {f_queued : Nat} {f_engaged : Nat} {f_dressing : Nat} {f_dressed : Nat} {f_standing : Nat} {f_stations : Nat} {f_limits : Nat} {f_worked : Nat} {fon : Nat → Int32} {fdi : Nat → Int32} {fsg : Nat → Int32} {fst : Nat → Int32} {fs : List Value} {m_shotMany : Nat} {m_workedIn : Nat} {m_worked : Nat} {m_queued : Nat} {m_queue : Nat} {m_onNow : Nat} {m_dressing : Nat} {m_dressed : Nat} {m_standsIn : Nat} {m_keptWorkedIn : Nat} {m_keptWorked : Nat} {m_keptQueued : Nat} {m_keptQueue : Nat} {m_keptOn : Nat} {m_keptDressing : Nat} {m_keptDressed : Nat} {m_keptStands : Nat} {m_keptShot : Nat} {fa_workedIn : Nat → Int32} {fb_keptWorkedIn : Nat → Int32} {fa_worked : Nat → Int32} {fb_keptWorked : Nat → Int32} {fb_keptQueued : Nat → Int32} {fa_queue : Nat → Int32} {fb_keptQueue : Nat → Int32} {mon : Nat → Int32} {fb_keptOn : Nat → Int32} {fa_dressing : Nat → Int32} {fb_keptDressing : Nat → Int32} {fa_dressed : Nat → Int32} {fb_keptDressed : Nat → Int32} {fa_standsIn : Nat → Int32} {fb_keptStands : Nat → Int32} {fa_shotMany : Nat → Int32} {fb_keptShot : Nat → Int32} (q0 : ∀ k, k < 3 → fon k = -1) (q1 : ∀ k, k < 3 → mon k = -1) (hfs : fs.length = 109) (hfs_0 : fs[0]? = some (.int 0)) (hfs_48 : fs[48]? = some (.ref m_shotMany)) (hfs_82 : fs[82]? = some (.int 0)) (hfs_90 : fs[90]? = some (.ref m_workedIn)) (hfs_91 : fs[91]? = some (.ref m_worked)) (hfs_93 : fs[93]? = some (.ref m_queued)) (hfs_94 : fs[94]? = some (.ref m_queue)) (hfs_95 : fs[95]? = some (.ref m_onNow)) (hfs_96 : fs[96]? = some (.ref m_dressing)) (hfs_97 : fs[97]? = some (.ref m_dressed)) (hfs_98 : fs[98]? = some (.ref m_standsIn)) (hfs_100 : fs[100]? = some (.ref m_keptWorkedIn)) (hfs_101 : fs[101]? = some (.ref m_keptWorked)) (hfs_102 : fs[102]? = some (.ref m_keptQueued)) (hfs_103 : fs[103]? = some (.ref m_keptQueue)) (hfs_104 : fs[104]? = some (.ref m_keptOn)) (hfs_105 : fs[105]? = some (.ref m_keptDressing)) (hfs_106 : fs[106]? = some (.ref m_keptDressed)) (hfs_107 : fs[107]? = some (.ref m_keptStands)) (hfs_108 : fs[108]? = some (.ref m_keptShot)) {H : Heap} {locs : List Loc} (hP : va_P D vwCl [(h0, .inr (11, [.ref x_studio, .ref x_script, .ref x_teller, .ref x_planner, .ref x_plan, .ref x_drifts, .ref x_floor, .ref x_trial, .ref x_tape, .int 0, .int (-1)])), (x_trial, .inr (1, [.ref t_studio, .int 0, .int 0, .ref t_taken, .ref t_on, .ref t_queues, .ref t_queued, .ref t_engaged, .ref t_dressing, .ref t_dressed, .ref t_standing, .ref t_stations, .int 0, .ref t_limits, .ref t_worked, .int 0, .int 0, .int 0])), (t_taken, .inl (cT 0, 12, .inl (fun _ => 0))), (t_on, .inl (cT 0, 3, .inl tfon)), (t_queues, .inl (cT 0, 30, .inl (fun _ => 0))), (t_queued, .inl (cT 0, 3, .inl (fun _ => 0))), (t_engaged, .inl (cT 0, 12, .inl (fun _ => 0))), (t_dressing, .inl (cT 0, 3, .inl tfdi)), (t_dressed, .inl (cT 0, 3, .inl (fun _ => 0))), (t_standing, .inl (cT 0, 8, .inl tfsg)), (t_stations, .inl (cT 0, 3, .inl tfst)), (t_limits, .inl (cT 0, 6, .inl (fun _ => 0))), (t_worked, .inl (cT 0, 6, .inl (fun _ => 0))), (x_floor, .inr (1, [.ref f_studio, .int 1, .int 0, .ref f_taken, .ref f_on, .ref f_queues, .ref f_queued, .ref f_engaged, .ref f_dressing, .ref f_dressed, .ref f_standing, .ref f_stations, .int 0, .ref f_limits, .ref f_worked, .int 0, .int 0, .int 0])), (f_taken, .inl (cT 0, 12, .inl (fun _ => 0))), (f_on, .inl (cT 0, 3, .inl fon)), (f_queues, .inl (cT 0, 30, .inl (fun _ => 0))), (f_queued, .inl (cT 0, 3, .inl (fun _ => 0))), (f_engaged, .inl (cT 0, 12, .inl (fun _ => 0))), (f_dressing, .inl (cT 0, 3, .inl fdi)), (f_dressed, .inl (cT 0, 3, .inl (fun _ => 0))), (f_standing, .inl (cT 0, 8, .inl fsg)), (f_stations, .inl (cT 0, 3, .inl fst)), (f_limits, .inl (cT 0, 6, .inl (fun _ => 0))), (f_worked, .inl (cT 0, 6, .inl (fun _ => 0))), (m0, .inr (12, fs)), (m_workedIn, .inl (cT 0, 6, .inl fa_workedIn)), (m_keptWorkedIn, .inl (cT 0, 6, .inl fb_keptWorkedIn)), (m_worked, .inl (cT 0, 6, .inl fa_worked)), (m_keptWorked, .inl (cT 0, 6, .inl fb_keptWorked)), (m_queued, .inl (cT 0, 3, .inl (fun _ => 0))), (m_keptQueued, .inl (cT 0, 3, .inl fb_keptQueued)), (m_queue, .inl (cT 0, 30, .inl fa_queue)), (m_keptQueue, .inl (cT 0, 30, .inl fb_keptQueue)), (m_onNow, .inl (cT 0, 3, .inl mon)), (m_keptOn, .inl (cT 0, 3, .inl fb_keptOn)), (m_dressing, .inl (cT 0, 3, .inl fa_dressing)), (m_keptDressing, .inl (cT 0, 3, .inl fb_keptDressing)), (m_dressed, .inl (cT 0, 3, .inl fa_dressed)), (m_keptDressed, .inl (cT 0, 3, .inl fb_keptDressed)), (m_standsIn, .inl (cT 0, 8, .inl fa_standsIn)), (m_keptStands, .inl (cT 0, 8, .inl fb_keptStands)), (m_shotMany, .inl (cT 0, 12, .inl fa_shotMany)), (m_keptShot, .inl (cT 0, 12, .inl fb_keptShot))] H) (hD : va_D A [(h0, .inr (11, [.ref x_studio, .ref x_script, .ref x_teller, .ref x_planner, .ref x_plan, .ref x_drifts, .ref x_floor, .ref x_trial, .ref x_tape, .int 0, .int (-1)])), (x_trial, .inr (1, [.ref t_studio, .int 0, .int 0, .ref t_taken, .ref t_on, .ref t_queues, .ref t_queued, .ref t_engaged, .ref t_dressing, .ref t_dressed, .ref t_standing, .ref t_stations, .int 0, .ref t_limits, .ref t_worked, .int 0, .int 0, .int 0])), (t_taken, .inl (cT 0, 12, .inl (fun _ => 0))), (t_on, .inl (cT 0, 3, .inl tfon)), (t_queues, .inl (cT 0, 30, .inl (fun _ => 0))), (t_queued, .inl (cT 0, 3, .inl (fun _ => 0))), (t_engaged, .inl (cT 0, 12, .inl (fun _ => 0))), (t_dressing, .inl (cT 0, 3, .inl tfdi)), (t_dressed, .inl (cT 0, 3, .inl (fun _ => 0))), (t_standing, .inl (cT 0, 8, .inl tfsg)), (t_stations, .inl (cT 0, 3, .inl tfst)), (t_limits, .inl (cT 0, 6, .inl (fun _ => 0))), (t_worked, .inl (cT 0, 6, .inl (fun _ => 0))), (x_floor, .inr (1, [.ref f_studio, .int 1, .int 0, .ref f_taken, .ref f_on, .ref f_queues, .ref f_queued, .ref f_engaged, .ref f_dressing, .ref f_dressed, .ref f_standing, .ref f_stations, .int 0, .ref f_limits, .ref f_worked, .int 0, .int 0, .int 0])), (f_taken, .inl (cT 0, 12, .inl (fun _ => 0))), (f_on, .inl (cT 0, 3, .inl fon)), (f_queues, .inl (cT 0, 30, .inl (fun _ => 0))), (f_queued, .inl (cT 0, 3, .inl (fun _ => 0))), (f_engaged, .inl (cT 0, 12, .inl (fun _ => 0))), (f_dressing, .inl (cT 0, 3, .inl fdi)), (f_dressed, .inl (cT 0, 3, .inl (fun _ => 0))), (f_standing, .inl (cT 0, 8, .inl fsg)), (f_stations, .inl (cT 0, 3, .inl fst)), (f_limits, .inl (cT 0, 6, .inl (fun _ => 0))), (f_worked, .inl (cT 0, 6, .inl (fun _ => 0))), (m0, .inr (12, fs)), (m_workedIn, .inl (cT 0, 6, .inl fa_workedIn)), (m_keptWorkedIn, .inl (cT 0, 6, .inl fb_keptWorkedIn)), (m_worked, .inl (cT 0, 6, .inl fa_worked)), (m_keptWorked, .inl (cT 0, 6, .inl fb_keptWorked)), (m_queued, .inl (cT 0, 3, .inl (fun _ => 0))), (m_keptQueued, .inl (cT 0, 3, .inl fb_keptQueued)), (m_queue, .inl (cT 0, 30, .inl fa_queue)), (m_keptQueue, .inl (cT 0, 30, .inl fb_keptQueue)), (m_onNow, .inl (cT 0, 3, .inl mon)), (m_keptOn, .inl (cT 0, 3, .inl fb_keptOn)), (m_dressing, .inl (cT 0, 3, .inl fa_dressing)), (m_keptDressing, .inl (cT 0, 3, .inl fb_keptDressing)), (m_dressed, .inl (cT 0, 3, .inl fa_dressed)), (m_keptDressed, .inl (cT 0, 3, .inl fb_keptDressed)), (m_standsIn, .inl (cT 0, 8, .inl fa_standsIn)), (m_keptStands, .inl (cT 0, 8, .inl fb_keptStands)), (m_shotMany, .inl (cT 0, 12, .inl fa_shotMany)), (m_keptShot, .inl (cT 0, 12, .inl fb_keptShot))]) (hS : va_S A s.heap H locs) {ls : Array Slot} (hl : lv_has ls 7 [(4, .int 0), (3, .ref o9), (2, .ref m0), (1, .ref h0), (0, .ref b)]) : W p l e room_1 s m #[Value.ref b] below meth c H locs 215 539454 (lw_Z below #[Value.ref b] s) (F0 m 3005 ls []) := by
  obtain ⟨hx, hb, hr, hml, hown, hts0, hX, hbl, hlocks, hgv⟩ := id C0
  have hts : ∀ w ∈ wsL_law, w.before #[Value.ref b] s = true := fun w h => hts0 w (wsL_law_in w h)
  have hbA : ¬ A b := fun h => absurd (hAl b h) (Nat.not_le.mpr hbl)
  have hown : s.vm.findClass RL = some m.cls := hown
  have hb : c.code = cL_law := hb
  refine lv_aload_n hx hb dL_law_3005 rfl (lv_at hl 3 rfl) ?_
  have hF := va_free (wc := [(h0, .inr (11, [.ref x_studio, .ref x_script, .ref x_teller, .ref x_planner, .ref x_plan, .ref x_drifts, .ref x_floor, .ref x_trial, .ref x_tape, .int 0, .int (-1)])), (x_trial, .inr (1, [.ref t_studio, .int 0, .int 0, .ref t_taken, .ref t_on, .ref t_queues, .ref t_queued, .ref t_engaged, .ref t_dressing, .ref t_dressed, .ref t_standing, .ref t_stations, .int 0, .ref t_limits, .ref t_worked, .int 0, .int 0, .int 0])), (t_taken, .inl (cT 0, 12, .inl (fun _ => 0))), (t_on, .inl (cT 0, 3, .inl tfon)), (t_queues, .inl (cT 0, 30, .inl (fun _ => 0))), (t_queued, .inl (cT 0, 3, .inl (fun _ => 0))), (t_engaged, .inl (cT 0, 12, .inl (fun _ => 0))), (t_dressing, .inl (cT 0, 3, .inl tfdi)), (t_dressed, .inl (cT 0, 3, .inl (fun _ => 0))), (t_standing, .inl (cT 0, 8, .inl tfsg)), (t_stations, .inl (cT 0, 3, .inl tfst)), (t_limits, .inl (cT 0, 6, .inl (fun _ => 0))), (t_worked, .inl (cT 0, 6, .inl (fun _ => 0))), (x_floor, .inr (1, [.ref f_studio, .int 1, .int 0, .ref f_taken, .ref f_on, .ref f_queues, .ref f_queued, .ref f_engaged, .ref f_dressing, .ref f_dressed, .ref f_standing, .ref f_stations, .int 0, .ref f_limits, .ref f_worked, .int 0, .int 0, .int 0])), (f_taken, .inl (cT 0, 12, .inl (fun _ => 0))), (f_on, .inl (cT 0, 3, .inl fon)), (f_queues, .inl (cT 0, 30, .inl (fun _ => 0))), (f_queued, .inl (cT 0, 3, .inl (fun _ => 0))), (f_engaged, .inl (cT 0, 12, .inl (fun _ => 0))), (f_dressing, .inl (cT 0, 3, .inl fdi)), (f_dressed, .inl (cT 0, 3, .inl (fun _ => 0))), (f_standing, .inl (cT 0, 8, .inl fsg)), (f_stations, .inl (cT 0, 3, .inl fst)), (f_limits, .inl (cT 0, 6, .inl (fun _ => 0))), (f_worked, .inl (cT 0, 6, .inl (fun _ => 0)))]) hD hS hA [0, 1, 2, 3, 4, 5, 6, 7, 8, 9, 10, 11, 12, 13, 14, 15, 16, 17, 18, 19, 20, 21, 22, 23, 24] rfl
  refine va_calli (va_runV (As := []) (rest := []) ⟨hx, hb, hml, hown, hts⟩ (c_X11_foretold l D cT h0 x_studio x_script x_teller x_planner x_plan x_drifts x_floor x_trial x_tape t_studio t_taken t_on t_queues t_queued t_engaged t_dressing t_dressed t_standing t_stations t_limits t_worked tfon tfdi tfsg tfst f_studio f_taken f_on f_queues f_queued f_engaged f_dressing f_dressed f_standing f_stations f_limits f_worked fon fdi fsg fst _ (by assumption)) (cwV 0 hts gL_law_X11_foretold rfl rfl rfl (by decide +kernel) ⟨Nat.le_of_ble_eq_true rfl, Nat.le_of_ble_eq_true rfl⟩) (pv_w hP hD hK hG [0, 1, 2, 3, 4, 5, 6, 7, 8, 9, 10, 11, 12, 13, 14, 15, 16, 17, 18, 19, 20, 21, 22, 23, 24] rfl rfl rfl 0 rfl rfl) rfl rfl hl.1 rfl (lv_room (Nat.le_of_ble_eq_true rfl)) dL_law_3006 ⟨Nat.le_of_ble_eq_true rfl, Nat.le_of_ble_eq_true rfl⟩) hS (fun q _ h => hF q h) hF (fun r_1 uu9 tt9 H locs ht hvm wr_1 hB hz1 hk1 hS => ?_)
  obtain ⟨hP, hD⟩ := va_join (wr := [(m0, .inr (12, fs)), (m_workedIn, .inl (cT 0, 6, .inl fa_workedIn)), (m_keptWorkedIn, .inl (cT 0, 6, .inl fb_keptWorkedIn)), (m_worked, .inl (cT 0, 6, .inl fa_worked)), (m_keptWorked, .inl (cT 0, 6, .inl fb_keptWorked)), (m_queued, .inl (cT 0, 3, .inl (fun _ => 0))), (m_keptQueued, .inl (cT 0, 3, .inl fb_keptQueued)), (m_queue, .inl (cT 0, 30, .inl fa_queue)), (m_keptQueue, .inl (cT 0, 30, .inl fb_keptQueue)), (m_onNow, .inl (cT 0, 3, .inl mon)), (m_keptOn, .inl (cT 0, 3, .inl fb_keptOn)), (m_dressing, .inl (cT 0, 3, .inl fa_dressing)), (m_keptDressing, .inl (cT 0, 3, .inl fb_keptDressing)), (m_dressed, .inl (cT 0, 3, .inl fa_dressed)), (m_keptDressed, .inl (cT 0, 3, .inl fb_keptDressed)), (m_standsIn, .inl (cT 0, 8, .inl fa_standsIn)), (m_keptStands, .inl (cT 0, 8, .inl fb_keptStands)), (m_shotMany, .inl (cT 0, 12, .inl fa_shotMany)), (m_keptShot, .inl (cT 0, 12, .inl fb_keptShot))]) (w1 := []) hP hD [0, 1, 2, 3, 4, 5, 6, 7, 8, 9, 10, 11, 12, 13, 14, 15, 16, 17, 18, 19, 20, 21, 22, 23, 24] [25, 26, 27, 28, 29, 30, 31, 32, 33, 34, 35, 36, 37, 38, 39, 40, 41, 42, 43] rfl rfl (by decide) (by decide) hk1 hF vp_nil vd_nil
  have hP : va_P D vwCl [(m0, .inr (12, fs)), (m_workedIn, .inl (cT 0, 6, .inl fa_workedIn)), (m_keptWorkedIn, .inl (cT 0, 6, .inl fb_keptWorkedIn)), (m_worked, .inl (cT 0, 6, .inl fa_worked)), (m_keptWorked, .inl (cT 0, 6, .inl fb_keptWorked)), (m_queued, .inl (cT 0, 3, .inl (fun _ => 0))), (m_keptQueued, .inl (cT 0, 3, .inl fb_keptQueued)), (m_queue, .inl (cT 0, 30, .inl fa_queue)), (m_keptQueue, .inl (cT 0, 30, .inl fb_keptQueue)), (m_onNow, .inl (cT 0, 3, .inl mon)), (m_keptOn, .inl (cT 0, 3, .inl fb_keptOn)), (m_dressing, .inl (cT 0, 3, .inl fa_dressing)), (m_keptDressing, .inl (cT 0, 3, .inl fb_keptDressing)), (m_dressed, .inl (cT 0, 3, .inl fa_dressed)), (m_keptDressed, .inl (cT 0, 3, .inl fb_keptDressed)), (m_standsIn, .inl (cT 0, 8, .inl fa_standsIn)), (m_keptStands, .inl (cT 0, 8, .inl fb_keptStands)), (m_shotMany, .inl (cT 0, 12, .inl fa_shotMany)), (m_keptShot, .inl (cT 0, 12, .inl fb_keptShot))] _ := hP
  have hD : va_D A [(m0, .inr (12, fs)), (m_workedIn, .inl (cT 0, 6, .inl fa_workedIn)), (m_keptWorkedIn, .inl (cT 0, 6, .inl fb_keptWorkedIn)), (m_worked, .inl (cT 0, 6, .inl fa_worked)), (m_keptWorked, .inl (cT 0, 6, .inl fb_keptWorked)), (m_queued, .inl (cT 0, 3, .inl (fun _ => 0))), (m_keptQueued, .inl (cT 0, 3, .inl fb_keptQueued)), (m_queue, .inl (cT 0, 30, .inl fa_queue)), (m_keptQueue, .inl (cT 0, 30, .inl fb_keptQueue)), (m_onNow, .inl (cT 0, 3, .inl mon)), (m_keptOn, .inl (cT 0, 3, .inl fb_keptOn)), (m_dressing, .inl (cT 0, 3, .inl fa_dressing)), (m_keptDressing, .inl (cT 0, 3, .inl fb_keptDressing)), (m_dressed, .inl (cT 0, 3, .inl fa_dressed)), (m_keptDressed, .inl (cT 0, 3, .inl fb_keptDressed)), (m_standsIn, .inl (cT 0, 8, .inl fa_standsIn)), (m_keptStands, .inl (cT 0, 8, .inl fb_keptStands)), (m_shotMany, .inl (cT 0, 12, .inl fa_shotMany)), (m_keptShot, .inl (cT 0, 12, .inl fb_keptShot))] := hD
  obtain rfl : r_1 = 0 := wr_1.trans (rfl)
  refine lv_aload_n hx hb dL_law_3009 rfl (lv_at hl 2 rfl) ?_
  have hF := va_free (wc := [(m0, .inr (12, fs)), (m_workedIn, .inl (cT 0, 6, .inl fa_workedIn)), (m_keptWorkedIn, .inl (cT 0, 6, .inl fb_keptWorkedIn)), (m_worked, .inl (cT 0, 6, .inl fa_worked)), (m_keptWorked, .inl (cT 0, 6, .inl fb_keptWorked)), (m_queued, .inl (cT 0, 3, .inl (fun _ => 0))), (m_keptQueued, .inl (cT 0, 3, .inl fb_keptQueued)), (m_queue, .inl (cT 0, 30, .inl fa_queue)), (m_keptQueue, .inl (cT 0, 30, .inl fb_keptQueue)), (m_onNow, .inl (cT 0, 3, .inl mon)), (m_keptOn, .inl (cT 0, 3, .inl fb_keptOn)), (m_dressing, .inl (cT 0, 3, .inl fa_dressing)), (m_keptDressing, .inl (cT 0, 3, .inl fb_keptDressing)), (m_dressed, .inl (cT 0, 3, .inl fa_dressed)), (m_keptDressed, .inl (cT 0, 3, .inl fb_keptDressed)), (m_standsIn, .inl (cT 0, 8, .inl fa_standsIn)), (m_keptStands, .inl (cT 0, 8, .inl fb_keptStands)), (m_shotMany, .inl (cT 0, 12, .inl fa_shotMany)), (m_keptShot, .inl (cT 0, 12, .inl fb_keptShot))]) hD hS hA [0, 1, 2, 3, 4, 5, 6, 7, 8, 9, 10, 11, 12, 13, 14, 15, 16, 17, 18] rfl
  refine va_calli (va_runV (As := []) (rest := [.int 0]) ⟨hx, hb, hml, hown, hts⟩ (c_X12_foretold l D cT m0 fs 0 m_shotMany m_workedIn m_worked m_queued m_queue m_onNow m_dressing m_dressed m_standsIn m_keptWorkedIn m_keptWorked m_keptQueued m_keptQueue m_keptOn m_keptDressing m_keptDressed m_keptStands m_keptShot fa_workedIn fb_keptWorkedIn fa_worked fb_keptWorked fb_keptQueued fa_queue fb_keptQueue mon fb_keptOn fa_dressing fb_keptDressing fa_dressed fb_keptDressed fa_standsIn fb_keptStands fa_shotMany fb_keptShot _ (by assumption) (hfs) (hfs_0) (hfs_48) (hfs_82) (hfs_90) (hfs_91) (hfs_93) (hfs_94) (hfs_95) (hfs_96) (hfs_97) (hfs_98) (hfs_100) (hfs_101) (hfs_102) (hfs_103) (hfs_104) (hfs_105) (hfs_106) (hfs_107) (hfs_108)) (cwV 0 hts gL_law_X12_foretold rfl rfl rfl (by decide +kernel) ⟨Nat.le_of_ble_eq_true rfl, Nat.le_of_ble_eq_true rfl⟩) (pv_w hP hD hK hG [0, 1, 2, 3, 4, 5, 6, 7, 8, 9, 10, 11, 12, 13, 14, 15, 16, 17, 18] rfl rfl rfl 0 rfl rfl) rfl rfl hl.1 rfl (lv_room (Nat.le_of_ble_eq_true rfl)) dL_law_3010 ⟨Nat.le_of_ble_eq_true rfl, Nat.le_of_ble_eq_true rfl⟩) hS (fun q _ h => hF q h) hF (fun r_2 uu9 tt9 H locs ht hvm wr_2 hB hz1 hk1 hS => ?_)
  obtain ⟨gs_3, hgs_3, hgs_3_0, hP1, hD1⟩ := hB
  rw [ht] at hP1
  obtain ⟨hP, hD⟩ := va_join (wr := []) (w1 := [(m0, .inr (12, gs_3))]) hP hD [0, 1, 2, 3, 4, 5, 6, 7, 8, 9, 10, 11, 12, 13, 14, 15, 16, 17, 18] [] rfl rfl (by decide) (by decide) hk1 hF hP1 hD1
  have hP : va_P D vwCl [(m0, .inr (12, gs_3))] _ := hP
  have hD : va_D A [(m0, .inr (12, gs_3))] := hD
  obtain rfl : r_2 = 0 := wr_2.trans (rfl)
  refine lv_icmp_eq (tgt := 3043) hx hb dL_law_3013 (by decide) (fun _ => ?_) (fun c9 => absurd c9 (by decide))
  exact law_end C0 hA hAl hS (lv_sub hl [0, 4] rfl) (Nat.le_of_ble_eq_true rfl) (Nat.le_of_ble_eq_true rfl)
theorem dL_law_3018 : decode cL_law 3018 = .ok (.aload_n 1, 1) := by decide +kernel
theorem dL_law_3019 : decode cL_law 3019 = .ok (.aload_n 0, 1) := by decide +kernel
theorem dL_law_3020 : decode cL_law 3020 = .ok (.iload 4, 2) := by decide +kernel
theorem dL_law_3022 : decode cL_law 3022 = .ok (.iconst 1, 1) := by decide +kernel
theorem dL_law_3023 : decode cL_law 3023 = .ok (.iadd, 1) := by decide +kernel
theorem dL_law_3024 : decode cL_law 3024 = .ok (.iaload, 1) := by decide +kernel
theorem dL_law_3025 : decode cL_law 3025 = .ok (.invokevirtual 284, 3) := by decide +kernel
theorem dL_law_3028 : decode cL_law 3028 = .ok (.aload_n 2, 1) := by decide +kernel
theorem dL_law_3029 : decode cL_law 3029 = .ok (.aload_n 0, 1) := by decide +kernel
theorem dL_law_3030 : decode cL_law 3030 = .ok (.iload 4, 2) := by decide +kernel
theorem dL_law_3032 : decode cL_law 3032 = .ok (.iconst 1, 1) := by decide +kernel
theorem dL_law_3033 : decode cL_law 3033 = .ok (.iadd, 1) := by decide +kernel
theorem dL_law_3034 : decode cL_law 3034 = .ok (.iaload, 1) := by decide +kernel
theorem dL_law_3035 : decode cL_law 3035 = .ok (.invokevirtual 287, 3) := by decide +kernel
theorem dL_law_3038 : decode cL_law 3038 = .ok (.if_icmp .eq 5, 3) := by decide +kernel
set_option maxRecDepth 20000 in
theorem ggL_law_X11_count : GoodIn wsL_law wsX11_count := goodIn_r _ [1861, 16, 242, 388, 32, 1380, 40, 1451, 368, 36, 1498, 1866, 1867, 1868, 1869, 1870, 1871, 1872, 1873, 1874, 1875, 1876, 1986, 1987, 1988, 1989, 1990, 1991, 1992, 2039, 2040, 2041, 2042, 2043, 2049, 2050, 2051, 2052, 2053, 2054, 2055, 2056, 2057, 2058, 2059, 2060, 2061, 2062, 2063, 2064, 2065, 2066, 2044, 2045, 2046, 2047, 2048] (by decide +kernel) (by decide +kernel)
set_option maxRecDepth 20000 in
theorem gL_law_X11_count : GoodIn wsL_law (wsV RL 284 RX11 yX11_count wsX11_count) := goodIn_app (goodIn_of _ (by decide +kernel)) ggL_law_X11_count
set_option maxRecDepth 20000 in
theorem ggL_law_X12_count : GoodIn wsL_law wsX12_count := goodIn_r _ [1865, 265, 266, 733, 1375, 1456, 377, 1508, 1877, 1878, 1879, 1880, 1881, 1882, 1883, 1884, 1885, 1886, 1887, 1888, 1889, 1890, 1891, 1892, 1893, 1894, 1895, 1896, 1897, 1898, 1899, 1900, 1901, 1902, 1903, 1904, 1905, 1906, 1907, 1908, 1909, 1910, 1911, 1912, 1913, 1914, 1915, 1916, 1917, 1918, 1919, 1920, 1921, 1922, 1923, 1924, 1925, 1926, 1927, 1928, 1929, 1930, 1931, 1932, 1933, 1934, 1935, 1936, 1937, 1938, 1939, 1940, 1941, 1942, 1943, 1944, 1945, 1946, 1947, 1948, 1949, 1950, 1951, 1952, 1953, 1954, 1955, 1956, 1957, 1958, 1959, 1960, 1961, 1962, 1963, 1964, 1965, 1966, 1967, 1968, 1969, 1970, 1971, 1972, 1973, 1974, 1975, 1976, 1977, 1978, 1979, 1980, 1981, 1982, 1983, 1984, 1985] (by decide +kernel) (by decide +kernel)
set_option maxRecDepth 20000 in
theorem gL_law_X12_count : GoodIn wsL_law (wsV RL 287 RX12 yX12_count wsX12_count) := goodIn_app (goodIn_of _ (by decide +kernel)) ggL_law_X12_count
set_option maxHeartbeats 8000000 in
set_option maxRecDepth 100000 in
/-- the law: count -/
theorem law_case_42 {p : Program} {l : Launch} {e : Env} {s : State} {m : MethodId} {below : List Frame} {meth : Method} {c : Code} {D : va_G} {cT : Nat → ClassId} {b : Nat} {xs : Nat → Int32} {A : Nat → Prop} (hst : l.stackTraces = false) (C0 : lw_At p s m meth c b 7 xs) (hA : ∀ q : Nat, s.heap.size ≤ q → A q) (hAl : ∀ q, A q → s.heap.size ≤ q) (hK : va_K D vwCl (TY cT) s) (hG : GW s) (hZ : GZ A s s.heap) {h0 : Nat} {m0 : Nat} {o9 : Nat} {x_studio : Nat} {x_script : Nat} {x_teller : Nat} {x_planner : Nat} {x_plan : Nat} {x_drifts : Nat} {x_floor : Nat} {x_trial : Nat} {x_tape : Nat} {s_puppets : Nat} {s_shots : Nat} {s_sounds : Nat} {s_rates : Nat} {s_dresses : Nat} {n_studio : Nat} {n_shots : Nat} {n_units : Nat} {n_begins : Nat} {f_studio : Nat} {f_taken : Nat} {f_on : Nat} {f_queues : Nat} {f_queued : Nat} {f_engaged : Nat} {f_dressing : Nat} {f_dressed : Nat} {f_standing : Nat} {f_stations : Nat} {f_limits : Nat} {f_worked : Nat} {d_shots : Nat} {d_frames : Nat} {d_values : Nat} {d_halves : Nat} {fs : List Value} (hfs : fs.length = 109) (hfs_0 : fs[0]? = some (.int 0)) (hfs_1 : fs[1]? = some (.int 0)) (hfs_12 : fs[12]? = some (.int 0)) (hfs_38 : fs[38]? = some (.int 0)) (hfs_78 : fs[78]? = some (.int 0)) (hfs_82 : fs[82]? = some (.int 0)) (hfs_83 : fs[83]? = some (.int 0)) {H : Heap} {locs : List Loc} (hP : va_P D vwCl [(h0, .inr (11, [.ref x_studio, .ref x_script, .ref x_teller, .ref x_planner, .ref x_plan, .ref x_drifts, .ref x_floor, .ref x_trial, .ref x_tape, .int 0, .int (-1)])), (x_studio, .inr (8, [.ref s_puppets, .int 0, .ref s_shots, .int 0, .ref s_sounds, .ref s_rates, .ref s_dresses])), (x_plan, .inr (3, [.ref n_studio, .int 0, .ref n_shots, .ref n_units, .ref n_begins])), (x_floor, .inr (1, [.ref f_studio, .int 1, .int 0, .ref f_taken, .ref f_on, .ref f_queues, .ref f_queued, .ref f_engaged, .ref f_dressing, .ref f_dressed, .ref f_standing, .ref f_stations, .int 0, .ref f_limits, .ref f_worked, .int 0, .int 0, .int 0])), (x_drifts, .inr (0, [.int 0, .ref d_shots, .ref d_frames, .ref d_values, .ref d_halves])), (m0, .inr (12, fs))] H) (hD : va_D A [(h0, .inr (11, [.ref x_studio, .ref x_script, .ref x_teller, .ref x_planner, .ref x_plan, .ref x_drifts, .ref x_floor, .ref x_trial, .ref x_tape, .int 0, .int (-1)])), (x_studio, .inr (8, [.ref s_puppets, .int 0, .ref s_shots, .int 0, .ref s_sounds, .ref s_rates, .ref s_dresses])), (x_plan, .inr (3, [.ref n_studio, .int 0, .ref n_shots, .ref n_units, .ref n_begins])), (x_floor, .inr (1, [.ref f_studio, .int 1, .int 0, .ref f_taken, .ref f_on, .ref f_queues, .ref f_queued, .ref f_engaged, .ref f_dressing, .ref f_dressed, .ref f_standing, .ref f_stations, .int 0, .ref f_limits, .ref f_worked, .int 0, .int 0, .int 0])), (x_drifts, .inr (0, [.int 0, .ref d_shots, .ref d_frames, .ref d_values, .ref d_halves])), (m0, .inr (12, fs))]) (hS : va_S A s.heap H locs) {ls : Array Slot} (hl : lv_has ls 7 [(4, .int 0), (3, .ref o9), (2, .ref m0), (1, .ref h0), (0, .ref b)]) : W p l e room_1 s m #[Value.ref b] below meth c H locs 215 539454 (lw_Z below #[Value.ref b] s) (F0 m 3018 ls []) := by
  obtain ⟨hx, hb, hr, hml, hown, hts0, hX, hbl, hlocks, hgv⟩ := id C0
  have hts : ∀ w ∈ wsL_law, w.before #[Value.ref b] s = true := fun w h => hts0 w (wsL_law_in w h)
  have hbA : ¬ A b := fun h => absurd (hAl b h) (Nat.not_le.mpr hbl)
  have hown : s.vm.findClass RL = some m.cls := hown
  have hb : c.code = cL_law := hb
  refine lv_aload_n hx hb dL_law_3018 rfl (lv_at hl 3 rfl) ?_
  refine lv_aload_n hx hb dL_law_3019 rfl (lv_at hl 4 rfl) ?_
  refine lv_iload hx hb dL_law_3020 (lv_at hl 0 rfl) ?_
  refine lv_iconst (v := 1) hx hb dL_law_3022 (by decide) ?_
  refine lv_iadd hx hb dL_law_3023 ?_
  refine lv_topi (fun z_1 ez_1 => ?_)
  obtain rfl : z_1 = 1 := ez_1.trans (by decide)
  refine va_sld hx hb hX hbl hbA hS (by unfold vp_in; decide) dL_law_3024 ?_
  have hF := va_free (wc := [(h0, .inr (11, [.ref x_studio, .ref x_script, .ref x_teller, .ref x_planner, .ref x_plan, .ref x_drifts, .ref x_floor, .ref x_trial, .ref x_tape, .int 0, .int (-1)])), (x_studio, .inr (8, [.ref s_puppets, .int 0, .ref s_shots, .int 0, .ref s_sounds, .ref s_rates, .ref s_dresses])), (x_plan, .inr (3, [.ref n_studio, .int 0, .ref n_shots, .ref n_units, .ref n_begins])), (x_floor, .inr (1, [.ref f_studio, .int 1, .int 0, .ref f_taken, .ref f_on, .ref f_queues, .ref f_queued, .ref f_engaged, .ref f_dressing, .ref f_dressed, .ref f_standing, .ref f_stations, .int 0, .ref f_limits, .ref f_worked, .int 0, .int 0, .int 0])), (x_drifts, .inr (0, [.int 0, .ref d_shots, .ref d_frames, .ref d_values, .ref d_halves]))]) hD hS hA [0, 1, 2, 3, 4] rfl
  refine va_calli (va_runV (As := [.int (xs (Int32.toNatClampNeg 1))]) (rest := []) ⟨hx, hb, hml, hown, hts⟩ (c_X11_count l D cT h0 (xs (Int32.toNatClampNeg 1)) x_studio x_script x_teller x_planner x_plan x_drifts x_floor x_trial x_tape s_puppets s_shots s_sounds s_rates s_dresses n_studio n_shots n_units n_begins f_studio f_taken f_on f_queues f_queued f_engaged f_dressing f_dressed f_standing f_stations f_limits f_worked d_shots d_frames d_values d_halves _ ) (cwV 1 hts gL_law_X11_count rfl rfl rfl (by decide +kernel) ⟨Nat.le_of_ble_eq_true rfl, Nat.le_of_ble_eq_true rfl⟩) (pv_w hP hD hK hG [0, 1, 2, 3, 4] rfl rfl rfl 0 rfl rfl) rfl rfl hl.1 rfl (lv_room (Nat.le_of_ble_eq_true rfl)) dL_law_3025 ⟨Nat.le_of_ble_eq_true rfl, Nat.le_of_ble_eq_true rfl⟩) hS (fun q _ h => hF q h) hF (fun r_2 uu9 tt9 H locs ht hvm wr_2 hB hz1 hk1 hS => ?_)
  obtain ⟨hP, hD⟩ := va_join (wr := [(m0, .inr (12, fs))]) (w1 := []) hP hD [0, 1, 2, 3, 4] [5] rfl rfl (by decide) (by decide) hk1 hF vp_nil vd_nil
  have hP : va_P D vwCl [(m0, .inr (12, fs))] _ := hP
  have hD : va_D A [(m0, .inr (12, fs))] := hD
  refine lv_aload_n hx hb dL_law_3028 rfl (lv_at hl 2 rfl) ?_
  refine lv_aload_n hx hb dL_law_3029 rfl (lv_at hl 4 rfl) ?_
  refine lv_iload hx hb dL_law_3030 (lv_at hl 0 rfl) ?_
  refine lv_iconst (v := 1) hx hb dL_law_3032 (by decide) ?_
  refine lv_iadd hx hb dL_law_3033 ?_
  refine lv_topi (fun z_3 ez_3 => ?_)
  obtain rfl : z_3 = 1 := ez_3.trans (by decide)
  refine va_sld hx hb hX hbl hbA hS (by unfold vp_in; decide) dL_law_3034 ?_
  have hF := va_free (wc := [(m0, .inr (12, fs))]) hD hS hA [0] rfl
  refine va_calli (va_runV (As := [.int (xs (Int32.toNatClampNeg 1))]) (rest := [.int r_2]) ⟨hx, hb, hml, hown, hts⟩ (c_X12_count l D cT m0 (xs (Int32.toNatClampNeg 1)) fs 0 _ (hfs) (hfs_0) (hfs_1) (hfs_12) (hfs_38) (hfs_78) (hfs_82) (hfs_83)) (cwV 1 hts gL_law_X12_count rfl rfl rfl (by decide +kernel) ⟨Nat.le_of_ble_eq_true rfl, Nat.le_of_ble_eq_true rfl⟩) (pv_w hP hD hK hG [0] rfl rfl rfl 0 rfl rfl) rfl rfl hl.1 rfl (lv_room (Nat.le_of_ble_eq_true rfl)) dL_law_3035 ⟨Nat.le_of_ble_eq_true rfl, Nat.le_of_ble_eq_true rfl⟩) hS (fun q _ h => hF q h) hF (fun r_4 uu9 tt9 H locs ht hvm wr_4 hB hz1 hk1 hS => ?_)
  obtain ⟨gs_5, hgs_5, hgs_5_0, hP1, hD1⟩ := hB
  rw [ht] at hP1
  obtain ⟨hP, hD⟩ := va_join (wr := []) (w1 := [(m0, .inr (12, gs_5))]) hP hD [0] [] rfl rfl (by decide) (by decide) hk1 hF hP1 hD1
  have hP : va_P D vwCl [(m0, .inr (12, gs_5))] _ := hP
  have hD : va_D A [(m0, .inr (12, gs_5))] := hD
  refine lv_icmp_eq (tgt := 3043) hx hb dL_law_3038 (by decide) (fun c_8 => ?_) (fun c_8 => ((c_8 (Eq.trans wr_2 (Eq.symm wr_4)) : False)).elim)
  exact law_end C0 hA hAl hS (lv_sub hl [0, 4] rfl) (Nat.le_of_ble_eq_true rfl) (Nat.le_of_ble_eq_true rfl)
