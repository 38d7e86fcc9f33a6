theorem dL_law_1014 : decode cL_law 1014 = .ok (.goto 2029, 3) := by decide +kernel
theorem dL_law_937 : decode cL_law 937 = .ok (.aload_n 1, 1) := by decide +kernel
theorem dL_law_938 : decode cL_law 938 = .ok (.aload_n 0, 1) := by decide +kernel
theorem dL_law_939 : decode cL_law 939 = .ok (.iload 4, 2) := by decide +kernel
theorem dL_law_941 : decode cL_law 941 = .ok (.iconst 1, 1) := by decide +kernel
theorem dL_law_942 : decode cL_law 942 = .ok (.iadd, 1) := by decide +kernel
theorem dL_law_943 : decode cL_law 943 = .ok (.iaload, 1) := by decide +kernel
theorem dL_law_944 : decode cL_law 944 = .ok (.aload_n 0, 1) := by decide +kernel
theorem dL_law_945 : decode cL_law 945 = .ok (.iload 4, 2) := by decide +kernel
theorem dL_law_947 : decode cL_law 947 = .ok (.iconst 2, 1) := by decide +kernel
theorem dL_law_948 : decode cL_law 948 = .ok (.iadd, 1) := by decide +kernel
theorem dL_law_949 : decode cL_law 949 = .ok (.iaload, 1) := by decide +kernel
theorem dL_law_950 : decode cL_law 950 = .ok (.aload_n 0, 1) := by decide +kernel
theorem dL_law_951 : decode cL_law 951 = .ok (.iload 4, 2) := by decide +kernel
theorem dL_law_953 : decode cL_law 953 = .ok (.iconst 3, 1) := by decide +kernel
theorem dL_law_954 : decode cL_law 954 = .ok (.iadd, 1) := by decide +kernel
theorem dL_law_955 : decode cL_law 955 = .ok (.iaload, 1) := by decide +kernel
theorem dL_law_956 : decode cL_law 956 = .ok (.aload_n 3, 1) := by decide +kernel
theorem dL_law_957 : decode cL_law 957 = .ok (.invokestatic 187, 3) := by decide +kernel
theorem dL_law_960 : decode cL_law 960 = .ok (.istore 5, 2) := by decide +kernel
theorem dL_law_962 : decode cL_law 962 = .ok (.aload_n 2, 1) := by decide +kernel
theorem dL_law_963 : decode cL_law 963 = .ok (.aload_n 0, 1) := by decide +kernel
theorem dL_law_964 : decode cL_law 964 = .ok (.iload 4, 2) := by decide +kernel
theorem dL_law_966 : decode cL_law 966 = .ok (.iconst 1, 1) := by decide +kernel
theorem dL_law_967 : decode cL_law 967 = .ok (.iadd, 1) := by decide +kernel
theorem dL_law_968 : decode cL_law 968 = .ok (.iaload, 1) := by decide +kernel
theorem dL_law_969 : decode cL_law 969 = .ok (.aload_n 0, 1) := by decide +kernel
theorem dL_law_970 : decode cL_law 970 = .ok (.iload 4, 2) := by decide +kernel
theorem dL_law_972 : decode cL_law 972 = .ok (.iconst 2, 1) := by decide +kernel
theorem dL_law_973 : decode cL_law 973 = .ok (.iadd, 1) := by decide +kernel
theorem dL_law_974 : decode cL_law 974 = .ok (.iaload, 1) := by decide +kernel
theorem dL_law_975 : decode cL_law 975 = .ok (.aload_n 0, 1) := by decide +kernel
theorem dL_law_976 : decode cL_law 976 = .ok (.iload 4, 2) := by decide +kernel
theorem dL_law_978 : decode cL_law 978 = .ok (.iconst 3, 1) := by decide +kernel
theorem dL_law_979 : decode cL_law 979 = .ok (.iadd, 1) := by decide +kernel
theorem dL_law_980 : decode cL_law 980 = .ok (.iaload, 1) := by decide +kernel
theorem dL_law_981 : decode cL_law 981 = .ok (.invokevirtual 189, 3) := by decide +kernel
theorem dL_law_984 : decode cL_law 984 = .ok (.istore 6, 2) := by decide +kernel
theorem dL_law_986 : decode cL_law 986 = .ok (.aload_n 2, 1) := by decide +kernel
theorem dL_law_987 : decode cL_law 987 = .ok (.invokevirtual 149, 3) := by decide +kernel
theorem dL_law_990 : decode cL_law 990 = .ok (.iload 5, 2) := by decide +kernel
theorem dL_law_992 : decode cL_law 992 = .ok (.if_icmp .eq 5, 3) := by decide +kernel
theorem dL_law_997 : decode cL_law 997 = .ok (.iload 5, 2) := by decide +kernel
theorem dL_law_999 : decode cL_law 999 = .ok (.ifCond .ne 15, 3) := by decide +kernel
set_option maxRecDepth 20000 in
theorem ggL_law_L_camera : GoodIn wsL_law wsL_camera := goodIn_ca (goodIn_r _ [981, 878, 982, 983, 984, 2, 985, 887, 888, 889, 890, 891, 892, 16, 893, 894, 895, 15, 896, 52, 930, 675, 676, 602, 677, 636, 298, 299, 300, 986, 987, 988, 989, 641, 678, 679, 1866, 1867, 1868, 1869, 1870, 1871, 1872, 1873, 1874, 1875, 1876, 1986, 1987, 1988, 1989, 1990, 1991, 1992, 2093, 2094, 2095, 2096, 2097, 2098, 2099, 2100, 2101, 2102, 2103, 2104, 2105, 2106, 2107] (by decide +kernel) (by decide +kernel)) (goodIn_sub (fun _ h => List.mem_append_right _ h) (by decide +kernel))
set_option maxRecDepth 20000 in
theorem gL_law_L_camera : GoodIn wsL_law (va_wsS RL 187 yL_camera wsL_camera) := goodIn_app (goodIn_of _ (by decide +kernel)) ggL_law_L_camera
set_option maxRecDepth 20000 in
theorem ggL_law_X12_camera : GoodIn wsL_law wsX12_camera := goodIn_r _ [993, 265, 181, 914, 915, 916, 5, 917, 733, 313, 314, 315, 316, 317, 318, 319, 944, 945, 946, 947, 184, 844, 845, 846, 1877, 1878, 1879, 1880, 1881, 1882, 1883, 1884, 1885, 1886, 1887, 1888, 1889, 1890, 1891, 1892, 1893, 1894, 1895, 1896, 1897, 1898, 1899, 1900, 1901, 1902, 1903, 1904, 1905, 1906, 1907, 1908, 1909, 1910, 1911, 1912, 1913, 1914, 1915, 1916, 1917, 1918, 1919, 1920, 1921, 1922, 1923, 1924, 1925, 1926, 1927, 1928, 1929, 1930, 1931, 1932, 1933, 1934, 1935, 1936, 1937, 1938, 1939, 1940, 1941, 1942, 1943, 1944, 1945, 1946, 1947, 1948, 1949, 1950, 1951, 1952, 1953, 1954, 1955, 1956, 1957, 1958, 1959, 1960, 1961, 1962, 1963, 1964, 1965, 1966, 1967, 1968, 1969, 1970, 1971, 1972, 1973, 1974, 1975, 1976, 1977, 1978, 1979, 1980, 1981, 1982, 1983, 1984, 1985] (by decide +kernel) (by decide +kernel)
set_option maxRecDepth 20000 in
theorem gL_law_X12_camera : GoodIn wsL_law (wsV RL 189 RX12 yX12_camera wsX12_camera) := goodIn_app (goodIn_of _ (by decide +kernel)) ggL_law_X12_camera
set_option maxHeartbeats 8000000 in
set_option maxRecDepth 100000 in
/-- the law: camera -/
theorem law_case_11 {p : Program} {l : Launch} {e : Env} {s : State} {m : MethodId} {below : List Frame} {meth : Method} {c : Code} {D : va_G} {cT : Nat → ClassId} {b : Nat} {xs : Nat → Int32} {A : Nat → Prop} (hst : l.stackTraces = false) (C0 : lw_At p s m meth c b 7 xs) (hA : ∀ q : Nat, s.heap.size ≤ q → A q) (hAl : ∀ q, A q → s.heap.size ≤ q) (hK : va_K D vwCl (TY cT) s) (hG : GW s) (hZ : GZ A s s.heap) {h0 : Nat} {m0 : Nat} {o9 : Nat} {x_studio : Nat} {x_script : Nat} {x_teller : Nat} {x_planner : Nat} {x_plan : Nat} {x_drifts : Nat} {x_floor : Nat} {x_trial : Nat} {x_tape : Nat} {s_puppets : Nat} {s_shots : Nat} {s_sounds : Nat} {s_rates : Nat} {s_dresses : Nat} {fs : List Value} (hfs : fs.length = 109) (hfs_0 : fs[0]? = some (.int 0)) (hfs_1 : fs[1]? = some (.int 0)) (hfs_38 : fs[38]? = some (.int 0)) {H : Heap} {locs : List Loc} (hP : va_P D vwCl [(h0, .inr (11, [.ref x_studio, .ref x_script, .ref x_teller, .ref x_planner, .ref x_plan, .ref x_drifts, .ref x_floor, .ref x_trial, .ref x_tape, .int 0, .int (-1)])), (x_studio, .inr (8, [.ref s_puppets, .int 0, .ref s_shots, .int 0, .ref s_sounds, .ref s_rates, .ref s_dresses])), (s_shots, .inl (cT 5, 12, .inr (.inr (.inr (.inr (fun _ => none)))))), (m0, .inr (12, fs))] H) (hD : va_D A [(h0, .inr (11, [.ref x_studio, .ref x_script, .ref x_teller, .ref x_planner, .ref x_plan, .ref x_drifts, .ref x_floor, .ref x_trial, .ref x_tape, .int 0, .int (-1)])), (x_studio, .inr (8, [.ref s_puppets, .int 0, .ref s_shots, .int 0, .ref s_sounds, .ref s_rates, .ref s_dresses])), (s_shots, .inl (cT 5, 12, .inr (.inr (.inr (.inr (fun _ => none)))))), (m0, .inr (12, fs))]) (hS : va_S A s.heap H locs) {ls : Array Slot} (hl : lv_has ls 7 [(4, .int 0), (3, .ref o9), (2, .ref m0), (1, .ref h0), (0, .ref b)]) : W p l e room_1 s m #[Value.ref b] below meth c H locs 215 539454 (lw_Z below #[Value.ref b] s) (F0 m 937 ls []) := by
  obtain ⟨hx, hb, hr, hml, hown, hts0, hX, hbl, hlocks, hgv⟩ := id C0
  have hts : ∀ w ∈ wsL_law, w.before #[Value.ref b] s = true := fun w h => hts0 w (wsL_law_in w h)
  have hbA : ¬ A b := fun h => absurd (hAl b h) (Nat.not_le.mpr hbl)
  have hown : s.vm.findClass RL = some m.cls := hown
  have hb : c.code = cL_law := hb
  refine lv_aload_n hx hb dL_law_937 rfl (lv_at hl 3 rfl) ?_
  refine lv_aload_n hx hb dL_law_938 rfl (lv_at hl 4 rfl) ?_
  refine lv_iload hx hb dL_law_939 (lv_at hl 0 rfl) ?_
  refine lv_iconst (v := 1) hx hb dL_law_941 (by decide) ?_
  refine lv_iadd hx hb dL_law_942 ?_
  refine lv_topi (fun z_1 ez_1 => ?_)
  obtain rfl : z_1 = 1 := ez_1.trans (by decide)
  refine va_sld hx hb hX hbl hbA hS (by unfold vp_in; decide) dL_law_943 ?_
  refine lv_aload_n hx hb dL_law_944 rfl (lv_at hl 4 rfl) ?_
  refine lv_iload hx hb dL_law_945 (lv_at hl 0 rfl) ?_
  refine lv_iconst (v := 2) hx hb dL_law_947 (by decide) ?_
  refine lv_iadd hx hb dL_law_948 ?_
  refine lv_topi (fun z_2 ez_2 => ?_)
  obtain rfl : z_2 = 2 := ez_2.trans (by decide)
  refine va_sld hx hb hX hbl hbA hS (by unfold vp_in; decide) dL_law_949 ?_
  refine lv_aload_n hx hb dL_law_950 rfl (lv_at hl 4 rfl) ?_
  refine lv_iload hx hb dL_law_951 (lv_at hl 0 rfl) ?_
  refine lv_iconst (v := 3) hx hb dL_law_953 (by decide) ?_
  refine lv_iadd hx hb dL_law_954 ?_
  refine lv_topi (fun z_3 ez_3 => ?_)
  obtain rfl : z_3 = 3 := ez_3.trans (by decide)
  refine va_sld hx hb hX hbl hbA hS (by unfold vp_in; decide) dL_law_955 ?_
  refine lv_aload_n hx hb dL_law_956 rfl (lv_at hl 1 rfl) ?_
  have hF := va_free (wc := [(h0, .inr (11, [.ref x_studio, .ref x_script, .ref x_teller, .ref x_planner, .ref x_plan, .ref x_drifts, .ref x_floor, .ref x_trial, .ref x_tape, .int 0, .int (-1)])), (x_studio, .inr (8, [.ref s_puppets, .int 0, .ref s_shots, .int 0, .ref s_sounds, .ref s_rates, .ref s_dresses])), (s_shots, .inl (cT 5, 12, .inr (.inr (.inr (.inr (fun _ => none))))))]) hD hS hA [0, 1, 2] rfl
  refine va_calli (vx_runSW (As := [.ref h0, .int (xs (Int32.toNatClampNeg 1)), .int (xs (Int32.toNatClampNeg 2)), .int (xs (Int32.toNatClampNeg 3)), .ref o9]) (rest := []) ⟨hx, hb, hml, hown, hts⟩ (c_L_camera l hst D cT h0 (xs (Int32.toNatClampNeg 1)) (xs (Int32.toNatClampNeg 2)) (xs (Int32.toNatClampNeg 3)) o9 x_studio x_script x_teller x_planner x_plan x_drifts x_floor x_trial x_tape s_puppets s_shots s_sounds s_rates s_dresses _ ) (vx_cwSW 5 hts gL_law_L_camera rfl rfl rfl (by decide +kernel) ⟨Nat.le_of_ble_eq_true rfl, Nat.le_of_ble_eq_true rfl⟩) (ps_z hP hD hK hG hZ hS hF [0, 1, 2] rfl rfl rfl) rfl rfl hl.1 rfl (lv_room (Nat.le_of_ble_eq_true rfl)) dL_law_957 ⟨Nat.le_of_ble_eq_true rfl, Nat.le_of_ble_eq_true rfl⟩) hS (fun q _ h => hF q h) hF (fun r_4 uu9 tt9 H locs ht hvm wr_4 hB hz1 hk1 hS => ?_)
  obtain ⟨hP, hD⟩ := va_join (wr := [(m0, .inr (12, fs))]) (w1 := []) hP hD [0, 1, 2] [3] rfl rfl (by decide) (by decide) hk1 hF vp_nil vd_nil
  have hP : va_P D vwCl [(m0, .inr (12, fs))] _ := hP
  have hD : va_D A [(m0, .inr (12, fs))] := hD
  refine W.widen (k := 216) (n := 539460) (Nat.le_of_ble_eq_true rfl) (Nat.le_of_ble_eq_true rfl) ?_
  obtain rfl : r_4 = 1 := wr_4.trans (rfl)
  refine lv_istore (lv' := [(5, .int 1), (4, .int 0), (3, .ref o9), (2, .ref m0), (1, .ref h0), (0, .ref b)]) hx hb dL_law_960 hl (by decide) rfl (fun ls hl => ?_)
  refine lv_aload_n hx hb dL_law_962 rfl (lv_at hl 3 rfl) ?_
  refine lv_aload_n hx hb dL_law_963 rfl (lv_at hl 5 rfl) ?_
  refine lv_iload hx hb dL_law_964 (lv_at hl 1 rfl) ?_
  refine lv_iconst (v := 1) hx hb dL_law_966 (by decide) ?_
  refine lv_iadd hx hb dL_law_967 ?_
  refine lv_topi (fun z_5 ez_5 => ?_)
  obtain rfl : z_5 = 1 := ez_5.trans (by decide)
  refine va_sld hx hb hX hbl hbA hS (by unfold vp_in; decide) dL_law_968 ?_
  refine lv_aload_n hx hb dL_law_969 rfl (lv_at hl 5 rfl) ?_
  refine lv_iload hx hb dL_law_970 (lv_at hl 1 rfl) ?_
  refine lv_iconst (v := 2) hx hb dL_law_972 (by decide) ?_
  refine lv_iadd hx hb dL_law_973 ?_
  refine lv_topi (fun z_6 ez_6 => ?_)
  obtain rfl : z_6 = 2 := ez_6.trans (by decide)
  refine va_sld hx hb hX hbl hbA hS (by unfold vp_in; decide) dL_law_974 ?_
  refine lv_aload_n hx hb dL_law_975 rfl (lv_at hl 5 rfl) ?_
  refine lv_iload hx hb dL_law_976 (lv_at hl 1 rfl) ?_
  refine lv_iconst (v := 3) hx hb dL_law_978 (by decide) ?_
  refine lv_iadd hx hb dL_law_979 ?_
  refine lv_topi (fun z_7 ez_7 => ?_)
  obtain rfl : z_7 = 3 := ez_7.trans (by decide)
  refine va_sld hx hb hX hbl hbA hS (by unfold vp_in; decide) dL_law_980 ?_
  have hF := va_free (wc := [(m0, .inr (12, fs))]) hD hS hA [0] rfl
  refine va_calli (va_runV (As := [.int (xs (Int32.toNatClampNeg 1)), .int (xs (Int32.toNatClampNeg 2)), .int (xs (Int32.toNatClampNeg 3))]) (rest := []) ⟨hx, hb, hml, hown, hts⟩ (c_X12_camera l D cT m0 (xs (Int32.toNatClampNeg 1)) (xs (Int32.toNatClampNeg 2)) (xs (Int32.toNatClampNeg 3)) fs 0 _ (hfs) (hfs_0) (hfs_1) (hfs_38)) (cwV 3 hts gL_law_X12_camera rfl rfl rfl (by decide +kernel) ⟨Nat.le_of_ble_eq_true rfl, Nat.le_of_ble_eq_true rfl⟩) (pv_w hP hD hK hG [0] rfl rfl rfl 0 rfl rfl) rfl rfl hl.1 rfl (lv_room (Nat.le_of_ble_eq_true rfl)) dL_law_981 ⟨Nat.le_of_ble_eq_true rfl, Nat.le_of_ble_eq_true rfl⟩) hS (fun q _ h => hF q h) hF (fun r_8 uu9 tt9 H locs ht hvm wr_8 hB hz1 hk1 hS => ?_)
  obtain ⟨gs_9, hgs_9, hgs_9_0, hP1, hD1⟩ := hB
  rw [ht] at hP1
  obtain ⟨hP, hD⟩ := va_join (wr := []) (w1 := [(m0, .inr (12, gs_9))]) hP hD [0] [] rfl rfl (by decide) (by decide) hk1 hF hP1 hD1
  have hP : va_P D vwCl [(m0, .inr (12, gs_9))] _ := hP
  have hD : va_D A [(m0, .inr (12, gs_9))] := hD
  refine lv_istore (lv' := [(6, .int r_8), (5, .int 1), (4, .int 0), (3, .ref o9), (2, .ref m0), (1, .ref h0), (0, .ref b)]) hx hb dL_law_984 hl (by decide) rfl (fun ls hl => ?_)
  refine lv_aload_n hx hb dL_law_986 rfl (lv_at hl 4 rfl) ?_
  have hF := va_free (wc := [(m0, .inr (12, gs_9))]) hD hS hA [0] rfl
  refine va_calli (va_runV (As := []) (rest := []) ⟨hx, hb, hml, hown, hts⟩ (c_X12_thrown l D cT m0 gs_9 1 _ (hgs_9) (hgs_9_0)) (cwV 0 hts gL_law_X12_thrown rfl rfl rfl (by decide +kernel) ⟨Nat.le_of_ble_eq_true rfl, Nat.le_of_ble_eq_true rfl⟩) (pv_w hP hD hK hG [0] rfl rfl rfl 0 rfl rfl) rfl rfl hl.1 rfl (lv_room (Nat.le_of_ble_eq_true rfl)) dL_law_987 ⟨Nat.le_of_ble_eq_true rfl, Nat.le_of_ble_eq_true rfl⟩) hS (fun q _ h => hF q h) hF (fun r_12 uu9 tt9 H locs ht hvm wr_12 hB hz1 hk1 hS => ?_)
  obtain ⟨hP1, hD1⟩ := hB
  rw [ht] at hP1
  obtain ⟨hP, hD⟩ := va_join (wr := []) (w1 := [(m0, .inr (12, gs_9))]) hP hD [0] [] rfl rfl (by decide) (by decide) hk1 hF hP1 hD1
  have hP : va_P D vwCl [(m0, .inr (12, gs_9))] _ := hP
  have hD : va_D A [(m0, .inr (12, gs_9))] := hD
  obtain rfl : r_12 = 1 := wr_12.trans (rfl)
  refine lv_iload hx hb dL_law_990 (lv_at hl 1 rfl) ?_
  refine lv_icmp_eq (tgt := 997) hx hb dL_law_992 (by decide) (fun _ => ?_) (fun c9 => absurd c9 (by decide))
  refine lv_iload hx hb dL_law_997 (lv_at hl 1 rfl) ?_
  refine lv_if_ne (tgt := 1014) hx hb dL_law_999 (by decide) (fun _ => ?_) (fun c9 => absurd c9 (by decide))
  refine lv_goto (tgt := 3043) hx hb dL_law_1014 (by decide) ?_
  exact law_end C0 hA hAl hS (lv_sub hl [2, 6] rfl) (Nat.le_of_ble_eq_true rfl) (Nat.le_of_ble_eq_true rfl)
theorem dL_law_1017 : decode cL_law 1017 = .ok (.aload_n 1, 1) := by decide +kernel
theorem dL_law_1018 : decode cL_law 1018 = .ok (.aload_n 0, 1) := by decide +kernel
theorem dL_law_1019 : decode cL_law 1019 = .ok (.iload 4, 2) := by decide +kernel
theorem dL_law_1021 : decode cL_law 1021 = .ok (.iconst 1, 1) := by decide +kernel
theorem dL_law_1022 : decode cL_law 1022 = .ok (.iadd, 1) := by decide +kernel
theorem dL_law_1023 : decode cL_law 1023 = .ok (.iaload, 1) := by decide +kernel
theorem dL_law_1024 : decode cL_law 1024 = .ok (.aload_n 0, 1) := by decide +kernel
theorem dL_law_1025 : decode cL_law 1025 = .ok (.iload 4, 2) := by decide +kernel
theorem dL_law_1027 : decode cL_law 1027 = .ok (.iconst 2, 1) := by decide +kernel
theorem dL_law_1028 : decode cL_law 1028 = .ok (.iadd, 1) := by decide +kernel
theorem dL_law_1029 : decode cL_law 1029 = .ok (.iaload, 1) := by decide +kernel
theorem dL_law_1030 : decode cL_law 1030 = .ok (.aload_n 0, 1) := by decide +kernel
theorem dL_law_1031 : decode cL_law 1031 = .ok (.iload 4, 2) := by decide +kernel
theorem dL_law_1033 : decode cL_law 1033 = .ok (.iconst 3, 1) := by decide +kernel
theorem dL_law_1034 : decode cL_law 1034 = .ok (.iadd, 1) := by decide +kernel
theorem dL_law_1035 : decode cL_law 1035 = .ok (.iaload, 1) := by decide +kernel
theorem dL_law_1036 : decode cL_law 1036 = .ok (.aload_n 3, 1) := by decide +kernel
theorem dL_law_1037 : decode cL_law 1037 = .ok (.invokestatic 190, 3) := by decide +kernel
theorem dL_law_1040 : decode cL_law 1040 = .ok (.istore 5, 2) := by decide +kernel
theorem dL_law_1042 : decode cL_law 1042 = .ok (.aload_n 2, 1) := by decide +kernel
theorem dL_law_1043 : decode cL_law 1043 = .ok (.aload_n 0, 1) := by decide +kernel
theorem dL_law_1044 : decode cL_law 1044 = .ok (.iload 4, 2) := by decide +kernel
theorem dL_law_1046 : decode cL_law 1046 = .ok (.iconst 1, 1) := by decide +kernel
theorem dL_law_1047 : decode cL_law 1047 = .ok (.iadd, 1) := by decide +kernel
theorem dL_law_1048 : decode cL_law 1048 = .ok (.iaload, 1) := by decide +kernel
theorem dL_law_1049 : decode cL_law 1049 = .ok (.aload_n 0, 1) := by decide +kernel
theorem dL_law_1050 : decode cL_law 1050 = .ok (.iload 4, 2) := by decide +kernel
theorem dL_law_1052 : decode cL_law 1052 = .ok (.iconst 2, 1) := by decide +kernel
theorem dL_law_1053 : decode cL_law 1053 = .ok (.iadd, 1) := by decide +kernel
theorem dL_law_1054 : decode cL_law 1054 = .ok (.iaload, 1) := by decide +kernel
theorem dL_law_1055 : decode cL_law 1055 = .ok (.aload_n 0, 1) := by decide +kernel
theorem dL_law_1056 : decode cL_law 1056 = .ok (.iload 4, 2) := by decide +kernel
theorem dL_law_1058 : decode cL_law 1058 = .ok (.iconst 3, 1) := by decide +kernel
theorem dL_law_1059 : decode cL_law 1059 = .ok (.iadd, 1) := by decide +kernel
theorem dL_law_1060 : decode cL_law 1060 = .ok (.iaload, 1) := by decide +kernel
theorem dL_law_1061 : decode cL_law 1061 = .ok (.invokevirtual 192, 3) := by decide +kernel
theorem dL_law_1064 : decode cL_law 1064 = .ok (.istore 6, 2) := by decide +kernel
theorem dL_law_1066 : decode cL_law 1066 = .ok (.aload_n 2, 1) := by decide +kernel
theorem dL_law_1067 : decode cL_law 1067 = .ok (.invokevirtual 149, 3) := by decide +kernel
theorem dL_law_1070 : decode cL_law 1070 = .ok (.iload 5, 2) := by decide +kernel
theorem dL_law_1072 : decode cL_law 1072 = .ok (.if_icmp .eq 5, 3) := by decide +kernel
theorem dL_law_1077 : decode cL_law 1077 = .ok (.iload 5, 2) := by decide +kernel
theorem dL_law_1079 : decode cL_law 1079 = .ok (.ifCond .ne 15, 3) := by decide +kernel
theorem dL_law_1094 : decode cL_law 1094 = .ok (.goto 1949, 3) := by decide +kernel
set_option maxRecDepth 20000 in
theorem ggL_law_L_state : GoodIn wsL_law wsL_state := goodIn_ca (goodIn_r _ [996, 878, 997, 998, 999, 2, 1000, 16, 887, 888, 889, 890, 891, 892, 893, 894, 895, 15, 896, 52, 284, 285, 286, 287, 50, 930, 675, 676, 602, 677, 636, 1001, 1002, 1003, 1004, 642, 678, 679, 647, 648, 1005, 1006, 1007, 1008, 643, 1009, 1010, 1011, 245, 1012, 292, 253, 1013, 1014, 1015, 1016, 1017, 1018, 249, 254, 1019, 255, 252, 1020, 932, 933, 934, 633, 299, 300, 935, 936, 937, 938, 637, 639, 1866, 1867, 1868, 1869, 1870, 1871, 1872, 1873, 1874, 1875, 1876, 1986, 1987, 1988, 1989, 1990, 1991, 1992, 2093, 2094, 2095, 2096, 2097, 2098, 2099, 2100, 2101, 2102, 2103, 2104, 2105, 2106, 2107, 2082, 2083, 2084, 2085, 2086, 2087, 2088, 2089, 2090, 2091, 2092] (by decide +kernel) (by decide +kernel)) (goodIn_sub (fun _ h => List.mem_append_right _ h) (by decide +kernel))
set_option maxRecDepth 20000 in
theorem gL_law_L_state : GoodIn wsL_law (va_wsS RL 190 yL_state wsL_state) := goodIn_app (goodIn_of _ (by decide +kernel)) ggL_law_L_state
set_option maxRecDepth 20000 in
theorem ggL_law_X12_state : GoodIn wsL_law wsX12_state := goodIn_r _ [1024, 265, 266, 183, 914, 915, 916, 5, 917, 733, 313, 314, 315, 316, 317, 318, 319, 944, 945, 946, 947, 184, 844, 845, 846, 1025, 1026, 1027, 1028, 182, 1029, 1030, 1031, 1032, 153, 154, 200, 201, 157, 158, 948, 949, 950, 951, 178, 1033, 1034, 1035, 1036, 1037, 1038, 1039, 159, 160, 1877, 1878, 1879, 1880, 1881, 1882, 1883, 1884, 1885, 1886, 1887, 1888, 1889, 1890, 1891, 1892, 1893, 1894, 1895, 1896, 1897, 1898, 1899, 1900, 1901, 1902, 1903, 1904, 1905, 1906, 1907, 1908, 1909, 1910, 1911, 1912, 1913, 1914, 1915, 1916, 1917, 1918, 1919, 1920, 1921, 1922, 1923, 1924, 1925, 1926, 1927, 1928, 1929, 1930, 1931, 1932, 1933, 1934, 1935, 1936, 1937, 1938, 1939, 1940, 1941, 1942, 1943, 1944, 1945, 1946, 1947, 1948, 1949, 1950, 1951, 1952, 1953, 1954, 1955, 1956, 1957, 1958, 1959, 1960, 1961, 1962, 1963, 1964, 1965, 1966, 1967, 1968, 1969, 1970, 1971, 1972, 1973, 1974, 1975, 1976, 1977, 1978, 1979, 1980, 1981, 1982, 1983, 1984, 1985] (by decide +kernel) (by decide +kernel)
set_option maxRecDepth 20000 in
theorem gL_law_X12_state : GoodIn wsL_law (wsV RL 192 RX12 yX12_state wsX12_state) := goodIn_app (goodIn_of _ (by decide +kernel)) ggL_law_X12_state
set_option maxHeartbeats 8000000 in
set_option maxRecDepth 100000 in
/-- the law: state -/
theorem law_case_12 {p : Program} {l : Launch} {e : Env} {s : State} {m : MethodId} {below : List Frame} {meth : Method} {c : Code} {D : va_G} {cT : Nat → ClassId} {b : Nat} {xs : Nat → Int32} {A : Nat → Prop} (hst : l.stackTraces = false) (C0 : lw_At p s m meth c b 7 xs) (hA : ∀ q : Nat, s.heap.size ≤ q → A q) (hAl : ∀ q, A q → s.heap.size ≤ q) (hK : va_K D vwCl (TY cT) s) (hG : GW s) (hZ : GZ A s s.heap) {h0 : Nat} {m0 : Nat} {o9 : Nat} {x_studio : Nat} {x_script : Nat} {x_teller : Nat} {x_planner : Nat} {x_plan : Nat} {x_drifts : Nat} {x_floor : Nat} {x_trial : Nat} {x_tape : Nat} {s_puppets : Nat} {s_shots : Nat} {s_sounds : Nat} {s_rates : Nat} {s_dresses : Nat} {fs : List Value} (hfs : fs.length = 109) (hfs_0 : fs[0]? = some (.int 0)) (hfs_1 : fs[1]? = some (.int 0)) (hfs_38 : fs[38]? = some (.int 0)) {H : Heap} {locs : List Loc} (hP : va_P D vwCl [(h0, .inr (11, [.ref x_studio, .ref x_script, .ref x_teller, .ref x_planner, .ref x_plan, .ref x_drifts, .ref x_floor, .ref x_trial, .ref x_tape, .int 0, .int (-1)])), (x_studio, .inr (8, [.ref s_puppets, .int 0, .ref s_shots, .int 0, .ref s_sounds, .ref s_rates, .ref s_dresses])), (s_shots, .inl (cT 5, 12, .inr (.inr (.inr (.inr (fun _ => none)))))), (m0, .inr (12, fs))] H) (hD : va_D A [(h0, .inr (11, [.ref x_studio, .ref x_script, .ref x_teller, .ref x_planner, .ref x_plan, .ref x_drifts, .ref x_floor, .ref x_trial, .ref x_tape, .int 0, .int (-1)])), (x_studio, .inr (8, [.ref s_puppets, .int 0, .ref s_shots, .int 0, .ref s_sounds, .ref s_rates, .ref s_dresses])), (s_shots, .inl (cT 5, 12, .inr (.inr (.inr (.inr (fun _ => none)))))), (m0, .inr (12, fs))]) (hS : va_S A s.heap H locs) {ls : Array Slot} (hl : lv_has ls 7 [(4, .int 0), (3, .ref o9), (2, .ref m0), (1, .ref h0), (0, .ref b)]) : W p l e room_1 s m #[Value.ref b] below meth c H locs 215 539454 (lw_Z below #[Value.ref b] s) (F0 m 1017 ls []) := by
  obtain ⟨hx, hb, hr, hml, hown, hts0, hX, hbl, hlocks, hgv⟩ := id C0
  have hts : ∀ w ∈ wsL_law, w.before #[Value.ref b] s = true := fun w h => hts0 w (wsL_law_in w h)
  have hbA : ¬ A b := fun h => absurd (hAl b h) (Nat.not_le.mpr hbl)
  have hown : s.vm.findClass RL = some m.cls := hown
  have hb : c.code = cL_law := hb
  refine lv_aload_n hx hb dL_law_1017 rfl (lv_at hl 3 rfl) ?_
  refine lv_aload_n hx hb dL_law_1018 rfl (lv_at hl 4 rfl) ?_
  refine lv_iload hx hb dL_law_1019 (lv_at hl 0 rfl) ?_
  refine lv_iconst (v := 1) hx hb dL_law_1021 (by decide) ?_
  refine lv_iadd hx hb dL_law_1022 ?_
  refine lv_topi (fun z_1 ez_1 => ?_)
  obtain rfl : z_1 = 1 := ez_1.trans (by decide)
  refine va_sld hx hb hX hbl hbA hS (by unfold vp_in; decide) dL_law_1023 ?_
  refine lv_aload_n hx hb dL_law_1024 rfl (lv_at hl 4 rfl) ?_
  refine lv_iload hx hb dL_law_1025 (lv_at hl 0 rfl) ?_
  refine lv_iconst (v := 2) hx hb dL_law_1027 (by decide) ?_
  refine lv_iadd hx hb dL_law_1028 ?_
  refine lv_topi (fun z_2 ez_2 => ?_)
  obtain rfl : z_2 = 2 := ez_2.trans (by decide)
  refine va_sld hx hb hX hbl hbA hS (by unfold vp_in; decide) dL_law_1029 ?_
  refine lv_aload_n hx hb dL_law_1030 rfl (lv_at hl 4 rfl) ?_
  refine lv_iload hx hb dL_law_1031 (lv_at hl 0 rfl) ?_
  refine lv_iconst (v := 3) hx hb dL_law_1033 (by decide) ?_
  refine lv_iadd hx hb dL_law_1034 ?_
  refine lv_topi (fun z_3 ez_3 => ?_)
  obtain rfl : z_3 = 3 := ez_3.trans (by decide)
  refine va_sld hx hb hX hbl hbA hS (by unfold vp_in; decide) dL_law_1035 ?_
  refine lv_aload_n hx hb dL_law_1036 rfl (lv_at hl 1 rfl) ?_
  have hF := va_free (wc := [(h0, .inr (11, [.ref x_studio, .ref x_script, .ref x_teller, .ref x_planner, .ref x_plan, .ref x_drifts, .ref x_floor, .ref x_trial, .ref x_tape, .int 0, .int (-1)])), (x_studio, .inr (8, [.ref s_puppets, .int 0, .ref s_shots, .int 0, .ref s_sounds, .ref s_rates, .ref s_dresses])), (s_shots, .inl (cT 5, 12, .inr (.inr (.inr (.inr (fun _ => none))))))]) hD hS hA [0, 1, 2] rfl
  refine va_calli (vx_runSW (As := [.ref h0, .int (xs (Int32.toNatClampNeg 1)), .int (xs (Int32.toNatClampNeg 2)), .int (xs (Int32.toNatClampNeg 3)), .ref o9]) (rest := []) ⟨hx, hb, hml, hown, hts⟩ (c_L_state l hst D cT h0 (xs (Int32.toNatClampNeg 1)) (xs (Int32.toNatClampNeg 2)) (xs (Int32.toNatClampNeg 3)) o9 x_studio x_script x_teller x_planner x_plan x_drifts x_floor x_trial x_tape s_puppets s_shots s_sounds s_rates s_dresses _ ) (vx_cwSW 5 hts gL_law_L_state rfl rfl rfl (by decide +kernel) ⟨Nat.le_of_ble_eq_true rfl, Nat.le_of_ble_eq_true rfl⟩) (ps_z hP hD hK hG hZ hS hF [0, 1, 2] rfl rfl rfl) rfl rfl hl.1 rfl (lv_room (Nat.le_of_ble_eq_true rfl)) dL_law_1037 ⟨Nat.le_of_ble_eq_true rfl, Nat.le_of_ble_eq_true rfl⟩) hS (fun q _ h => hF q h) hF (fun r_4 uu9 tt9 H locs ht hvm wr_4 hB hz1 hk1 hS => ?_)
  obtain ⟨hP, hD⟩ := va_join (wr := [(m0, .inr (12, fs))]) (w1 := []) hP hD [0, 1, 2] [3] rfl rfl (by decide) (by decide) hk1 hF vp_nil vd_nil
  have hP : va_P D vwCl [(m0, .inr (12, fs))] _ := hP
  have hD : va_D A [(m0, .inr (12, fs))] := hD
  refine W.widen (k := 216) (n := 539460) (Nat.le_of_ble_eq_true rfl) (Nat.le_of_ble_eq_true rfl) ?_
  obtain rfl : r_4 = 1 := wr_4.trans (rfl)
  refine lv_istore (lv' := [(5, .int 1), (4, .int 0), (3, .ref o9), (2, .ref m0), (1, .ref h0), (0, .ref b)]) hx hb dL_law_1040 hl (by decide) rfl (fun ls hl => ?_)
  refine lv_aload_n hx hb dL_law_1042 rfl (lv_at hl 3 rfl) ?_
  refine lv_aload_n hx hb dL_law_1043 rfl (lv_at hl 5 rfl) ?_
  refine lv_iload hx hb dL_law_1044 (lv_at hl 1 rfl) ?_
  refine lv_iconst (v := 1) hx hb dL_law_1046 (by decide) ?_
  refine lv_iadd hx hb dL_law_1047 ?_
  refine lv_topi (fun z_5 ez_5 => ?_)
  obtain rfl : z_5 = 1 := ez_5.trans (by decide)
  refine va_sld hx hb hX hbl hbA hS (by unfold vp_in; decide) dL_law_1048 ?_
  refine lv_aload_n hx hb dL_law_1049 rfl (lv_at hl 5 rfl) ?_
  refine lv_iload hx hb dL_law_1050 (lv_at hl 1 rfl) ?_
  refine lv_iconst (v := 2) hx hb dL_law_1052 (by decide) ?_
  refine lv_iadd hx hb dL_law_1053 ?_
  refine lv_topi (fun z_6 ez_6 => ?_)
  obtain rfl : z_6 = 2 := ez_6.trans (by decide)
  refine va_sld hx hb hX hbl hbA hS (by unfold vp_in; decide) dL_law_1054 ?_
  refine lv_aload_n hx hb dL_law_1055 rfl (lv_at hl 5 rfl) ?_
  refine lv_iload hx hb dL_law_1056 (lv_at hl 1 rfl) ?_
  refine lv_iconst (v := 3) hx hb dL_law_1058 (by decide) ?_
  refine lv_iadd hx hb dL_law_1059 ?_
  refine lv_topi (fun z_7 ez_7 => ?_)
  obtain rfl : z_7 = 3 := ez_7.trans (by decide)
  refine va_sld hx hb hX hbl hbA hS (by unfold vp_in; decide) dL_law_1060 ?_
  have hF := va_free (wc := [(m0, .inr (12, fs))]) hD hS hA [0] rfl
  refine va_calli (va_runV (As := [.int (xs (Int32.toNatClampNeg 1)), .int (xs (Int32.toNatClampNeg 2)), .int (xs (Int32.toNatClampNeg 3))]) (rest := []) ⟨hx, hb, hml, hown, hts⟩ (c_X12_state l D cT m0 (xs (Int32.toNatClampNeg 1)) (xs (Int32.toNatClampNeg 2)) (xs (Int32.toNatClampNeg 3)) fs 0 _ (hfs) (hfs_0) (hfs_1) (hfs_38)) (cwV 3 hts gL_law_X12_state rfl rfl rfl (by decide +kernel) ⟨Nat.le_of_ble_eq_true rfl, Nat.le_of_ble_eq_true rfl⟩) (pv_w hP hD hK hG [0] rfl rfl rfl 0 rfl rfl) rfl rfl hl.1 rfl (lv_room (Nat.le_of_ble_eq_true rfl)) dL_law_1061 ⟨Nat.le_of_ble_eq_true rfl, Nat.le_of_ble_eq_true rfl⟩) hS (fun q _ h => hF q h) hF (fun r_8 uu9 tt9 H locs ht hvm wr_8 hB hz1 hk1 hS => ?_)
  obtain ⟨gs_9, hgs_9, hgs_9_0, hP1, hD1⟩ := hB
  rw [ht] at hP1
  obtain ⟨hP, hD⟩ := va_join (wr := []) (w1 := [(m0, .inr (12, gs_9))]) hP hD [0] [] rfl rfl (by decide) (by decide) hk1 hF hP1 hD1
  have hP : va_P D vwCl [(m0, .inr (12, gs_9))] _ := hP
  have hD : va_D A [(m0, .inr (12, gs_9))] := hD
  refine lv_istore (lv' := [(6, .int r_8), (5, .int 1), (4, .int 0), (3, .ref o9), (2, .ref m0), (1, .ref h0), (0, .ref b)]) hx hb dL_law_1064 hl (by decide) rfl (fun ls hl => ?_)
  refine lv_aload_n hx hb dL_law_1066 rfl (lv_at hl 4 rfl) ?_
  have hF := va_free (wc := [(m0, .inr (12, gs_9))]) hD hS hA [0] rfl
  refine va_calli (va_runV (As := []) (rest := []) ⟨hx, hb, hml, hown, hts⟩ (c_X12_thrown l D cT m0 gs_9 1 _ (hgs_9) (hgs_9_0)) (cwV 0 hts gL_law_X12_thrown rfl rfl rfl (by decide +kernel) ⟨Nat.le_of_ble_eq_true rfl, Nat.le_of_ble_eq_true rfl⟩) (pv_w hP hD hK hG [0] rfl rfl rfl 0 rfl rfl) rfl rfl hl.1 rfl (lv_room (Nat.le_of_ble_eq_true rfl)) dL_law_1067 ⟨Nat.le_of_ble_eq_true rfl, Nat.le_of_ble_eq_true rfl⟩) hS (fun q _ h => hF q h) hF (fun r_12 uu9 tt9 H locs ht hvm wr_12 hB hz1 hk1 hS => ?_)
  obtain ⟨hP1, hD1⟩ := hB
  rw [ht] at hP1
  obtain ⟨hP, hD⟩ := va_join (wr := []) (w1 := [(m0, .inr (12, gs_9))]) hP hD [0] [] rfl rfl (by decide) (by decide) hk1 hF hP1 hD1
  have hP : va_P D vwCl [(m0, .inr (12, gs_9))] _ := hP
  have hD : va_D A [(m0, .inr (12, gs_9))] := hD
  obtain rfl : r_12 = 1 := wr_12.trans (rfl)
  refine lv_iload hx hb dL_law_1070 (lv_at hl 1 rfl) ?_
  refine lv_icmp_eq (tgt := 1077) hx hb dL_law_1072 (by decide) (fun _ => ?_) (fun c9 => absurd c9 (by decide))
  refine lv_iload hx hb dL_law_1077 (lv_at hl 1 rfl) ?_
  refine lv_if_ne (tgt := 1094) hx hb dL_law_1079 (by decide) (fun _ => ?_) (fun c9 => absurd c9 (by decide))
  refine lv_goto (tgt := 3043) hx hb dL_law_1094 (by decide) ?_
  exact law_end C0 hA hAl hS (lv_sub hl [2, 6] rfl) (Nat.le_of_ble_eq_true rfl) (Nat.le_of_ble_eq_true rfl)
theorem dL_law_1097 : decode cL_law 1097 = .ok (.aload_n 1, 1) := by decide +kernel
theorem dL_law_1098 : decode cL_law 1098 = .ok (.aload_n 0, 1) := by decide +kernel
theorem dL_law_1099 : decode cL_law 1099 = .ok (.iload 4, 2) := by decide +kernel
theorem dL_law_1101 : decode cL_law 1101 = .ok (.iconst 1, 1) := by decide +kernel
theorem dL_law_1102 : decode cL_law 1102 = .ok (.iadd, 1) := by decide +kernel
theorem dL_law_1103 : decode cL_law 1103 = .ok (.iaload, 1) := by decide +kernel
theorem dL_law_1104 : decode cL_law 1104 = .ok (.aload_n 0, 1) := by decide +kernel
theorem dL_law_1105 : decode cL_law 1105 = .ok (.iload 4, 2) := by decide +kernel
theorem dL_law_1107 : decode cL_law 1107 = .ok (.iconst 2, 1) := by decide +kernel
theorem dL_law_1108 : decode cL_law 1108 = .ok (.iadd, 1) := by decide +kernel
theorem dL_law_1109 : decode cL_law 1109 = .ok (.iaload, 1) := by decide +kernel
theorem dL_law_1110 : decode cL_law 1110 = .ok (.aload_n 0, 1) := by decide +kernel
theorem dL_law_1111 : decode cL_law 1111 = .ok (.iload 4, 2) := by decide +kernel
theorem dL_law_1113 : decode cL_law 1113 = .ok (.iconst 3, 1) := by decide +kernel
theorem dL_law_1114 : decode cL_law 1114 = .ok (.iadd, 1) := by decide +kernel
theorem dL_law_1115 : decode cL_law 1115 = .ok (.iaload, 1) := by decide +kernel
theorem dL_law_1116 : decode cL_law 1116 = .ok (.aload_n 3, 1) := by decide +kernel
theorem dL_law_1117 : decode cL_law 1117 = .ok (.invokestatic 193, 3) := by decide +kernel
theorem dL_law_1120 : decode cL_law 1120 = .ok (.istore 5, 2) := by decide +kernel
theorem dL_law_1122 : decode cL_law 1122 = .ok (.aload_n 2, 1) := by decide +kernel
theorem dL_law_1123 : decode cL_law 1123 = .ok (.aload_n 0, 1) := by decide +kernel
theorem dL_law_1124 : decode cL_law 1124 = .ok (.iload 4, 2) := by decide +kernel
theorem dL_law_1126 : decode cL_law 1126 = .ok (.iconst 1, 1) := by decide +kernel
theorem dL_law_1127 : decode cL_law 1127 = .ok (.iadd, 1) := by decide +kernel
theorem dL_law_1128 : decode cL_law 1128 = .ok (.iaload, 1) := by decide +kernel
theorem dL_law_1129 : decode cL_law 1129 = .ok (.aload_n 0, 1) := by decide +kernel
theorem dL_law_1130 : decode cL_law 1130 = .ok (.iload 4, 2) := by decide +kernel
theorem dL_law_1132 : decode cL_law 1132 = .ok (.iconst 2, 1) := by decide +kernel
theorem dL_law_1133 : decode cL_law 1133 = .ok (.iadd, 1) := by decide +kernel
theorem dL_law_1134 : decode cL_law 1134 = .ok (.iaload, 1) := by decide +kernel
theorem dL_law_1135 : decode cL_law 1135 = .ok (.aload_n 0, 1) := by decide +kernel
theorem dL_law_1136 : decode cL_law 1136 = .ok (.iload 4, 2) := by decide +kernel
theorem dL_law_1138 : decode cL_law 1138 = .ok (.iconst 3, 1) := by decide +kernel
theorem dL_law_1139 : decode cL_law 1139 = .ok (.iadd, 1) := by decide +kernel
theorem dL_law_1140 : decode cL_law 1140 = .ok (.iaload, 1) := by decide +kernel
theorem dL_law_1141 : decode cL_law 1141 = .ok (.invokevirtual 195, 3) := by decide +kernel
theorem dL_law_1144 : decode cL_law 1144 = .ok (.istore 6, 2) := by decide +kernel
theorem dL_law_1146 : decode cL_law 1146 = .ok (.aload_n 2, 1) := by decide +kernel
theorem dL_law_1147 : decode cL_law 1147 = .ok (.invokevirtual 149, 3) := by decide +kernel
theorem dL_law_1150 : decode cL_law 1150 = .ok (.iload 5, 2) := by decide +kernel
theorem dL_law_1152 : decode cL_law 1152 = .ok (.if_icmp .eq 5, 3) := by decide +kernel
theorem dL_law_1157 : decode cL_law 1157 = .ok (.iload 5, 2) := by decide +kernel
theorem dL_law_1159 : decode cL_law 1159 = .ok (.ifCond .ne 15, 3) := by decide +kernel
theorem dL_law_1174 : decode cL_law 1174 = .ok (.goto 1869, 3) := by decide +kernel
set_option maxRecDepth 20000 in
theorem ggL_law_L_lean : GoodIn wsL_law wsL_lean := goodIn_ca (goodIn_r _ [1042, 878, 1043, 1044, 1045, 2, 1046, 16, 929, 887, 888, 889, 890, 891, 892, 893, 894, 895, 15, 896, 52, 284, 285, 286, 287, 50, 930, 675, 676, 602, 677, 636, 1047, 1016, 1017, 245, 1018, 292, 249, 254, 1019, 255, 252, 253, 1020, 932, 933, 934, 633, 299, 300, 935, 936, 937, 938, 637, 639, 678, 679, 1866, 1867, 1868, 1869, 1870, 1871, 1872, 1873, 1874, 1875, 1876, 1986, 1987, 1988, 1989, 1990, 1991, 1992, 2093, 2094, 2095, 2096, 2097, 2098, 2099, 2100, 2101, 2102, 2103, 2104, 2105, 2106, 2107, 2082, 2083, 2084, 2085, 2086, 2087, 2088, 2089, 2090, 2091, 2092] (by decide +kernel) (by decide +kernel)) (goodIn_sub (fun _ h => List.mem_append_right _ h) (by decide +kernel))
set_option maxRecDepth 20000 in
theorem gL_law_L_lean : GoodIn wsL_law (va_wsS RL 193 yL_lean wsL_lean) := goodIn_app (goodIn_of _ (by decide +kernel)) ggL_law_L_lean
set_option maxRecDepth 20000 in
theorem ggL_law_X12_lean : GoodIn wsL_law wsX12_lean := goodIn_r _ [1051, 265, 266, 943, 914, 915, 916, 5, 917, 733, 313, 314, 315, 316, 317, 318, 319, 944, 945, 946, 947, 184, 1029, 1030, 1031, 1032, 153, 154, 200, 201, 157, 158, 948, 949, 950, 951, 178, 844, 845, 846, 1033, 1034, 1035, 1877, 1878, 1879, 1880, 1881, 1882, 1883, 1884, 1885, 1886, 1887, 1888, 1889, 1890, 1891, 1892, 1893, 1894, 1895, 1896, 1897, 1898, 1899, 1900, 1901, 1902, 1903, 1904, 1905, 1906, 1907, 1908, 1909, 1910, 1911, 1912, 1913, 1914, 1915, 1916, 1917, 1918, 1919, 1920, 1921, 1922, 1923, 1924, 1925, 1926, 1927, 1928, 1929, 1930, 1931, 1932, 1933, 1934, 1935, 1936, 1937, 1938, 1939, 1940, 1941, 1942, 1943, 1944, 1945, 1946, 1947, 1948, 1949, 1950, 1951, 1952, 1953, 1954, 1955, 1956, 1957, 1958, 1959, 1960, 1961, 1962, 1963, 1964, 1965, 1966, 1967, 1968, 1969, 1970, 1971, 1972, 1973, 1974, 1975, 1976, 1977, 1978, 1979, 1980, 1981, 1982, 1983, 1984, 1985] (by decide +kernel) (by decide +kernel)
set_option maxRecDepth 20000 in
theorem gL_law_X12_lean : GoodIn wsL_law (wsV RL 195 RX12 yX12_lean wsX12_lean) := goodIn_app (goodIn_of _ (by decide +kernel)) ggL_law_X12_lean
set_option maxHeartbeats 8000000 in
set_option maxRecDepth 100000 in
/-- the law: lean -/
theorem law_case_13 {p : Program} {l : Launch} {e : Env} {s : State} {m : MethodId} {below : List Frame} {meth : Method} {c : Code} {D : va_G} {cT : Nat → ClassId} {b : Nat} {xs : Nat → Int32} {A : Nat → Prop} (hst : l.stackTraces = false) (C0 : lw_At p s m meth c b 7 xs) (hA : ∀ q : Nat, s.heap.size ≤ q → A q) (hAl : ∀ q, A q → s.heap.size ≤ q) (hK : va_K D vwCl (TY cT) s) (hG : GW s) (hZ : GZ A s s.heap) {h0 : Nat} {m0 : Nat} {o9 : Nat} {x_studio : Nat} {x_script : Nat} {x_teller : Nat} {x_planner : Nat} {x_plan : Nat} {x_drifts : Nat} {x_floor : Nat} {x_trial : Nat} {x_tape : Nat} {s_puppets : Nat} {s_shots : Nat} {s_sounds : Nat} {s_rates : Nat} {s_dresses : Nat} {fs : List Value} (hfs : fs.length = 109) (hfs_0 : fs[0]? = some (.int 0)) (hfs_1 : fs[1]? = some (.int 0)) (hfs_38 : fs[38]? = some (.int 0)) {H : Heap} {locs : List Loc} (hP : va_P D vwCl [(h0, .inr (11, [.ref x_studio, .ref x_script, .ref x_teller, .ref x_planner, .ref x_plan, .ref x_drifts, .ref x_floor, .ref x_trial, .ref x_tape, .int 0, .int (-1)])), (x_studio, .inr (8, [.ref s_puppets, .int 0, .ref s_shots, .int 0, .ref s_sounds, .ref s_rates, .ref s_dresses])), (s_shots, .inl (cT 5, 12, .inr (.inr (.inr (.inr (fun _ => none)))))), (m0, .inr (12, fs))] H) (hD : va_D A [(h0, .inr (11, [.ref x_studio, .ref x_script, .ref x_teller, .ref x_planner, .ref x_plan, .ref x_drifts, .ref x_floor, .ref x_trial, .ref x_tape, .int 0, .int (-1)])), (x_studio, .inr (8, [.ref s_puppets, .int 0, .ref s_shots, .int 0, .ref s_sounds, .ref s_rates, .ref s_dresses])), (s_shots, .inl (cT 5, 12, .inr (.inr (.inr (.inr (fun _ => none)))))), (m0, .inr (12, fs))]) (hS : va_S A s.heap H locs) {ls : Array Slot} (hl : lv_has ls 7 [(4, .int 0), (3, .ref o9), (2, .ref m0), (1, .ref h0), (0, .ref b)]) : W p l e room_1 s m #[Value.ref b] below meth c H locs 215 539454 (lw_Z below #[Value.ref b] s) (F0 m 1097 ls []) := by
  obtain ⟨hx, hb, hr, hml, hown, hts0, hX, hbl, hlocks, hgv⟩ := id C0
  have hts : ∀ w ∈ wsL_law, w.before #[Value.ref b] s = true := fun w h => hts0 w (wsL_law_in w h)
  have hbA : ¬ A b := fun h => absurd (hAl b h) (Nat.not_le.mpr hbl)
  have hown : s.vm.findClass RL = some m.cls := hown
  have hb : c.code = cL_law := hb
  refine lv_aload_n hx hb dL_law_1097 rfl (lv_at hl 3 rfl) ?_
  refine lv_aload_n hx hb dL_law_1098 rfl (lv_at hl 4 rfl) ?_
  refine lv_iload hx hb dL_law_1099 (lv_at hl 0 rfl) ?_
  refine lv_iconst (v := 1) hx hb dL_law_1101 (by decide) ?_
  refine lv_iadd hx hb dL_law_1102 ?_
  refine lv_topi (fun z_1 ez_1 => ?_)
  obtain rfl : z_1 = 1 := ez_1.trans (by decide)
  refine va_sld hx hb hX hbl hbA hS (by unfold vp_in; decide) dL_law_1103 ?_
  refine lv_aload_n hx hb dL_law_1104 rfl (lv_at hl 4 rfl) ?_
  refine lv_iload hx hb dL_law_1105 (lv_at hl 0 rfl) ?_
  refine lv_iconst (v := 2) hx hb dL_law_1107 (by decide) ?_
  refine lv_iadd hx hb dL_law_1108 ?_
  refine lv_topi (fun z_2 ez_2 => ?_)
  obtain rfl : z_2 = 2 := ez_2.trans (by decide)
  refine va_sld hx hb hX hbl hbA hS (by unfold vp_in; decide) dL_law_1109 ?_
  refine lv_aload_n hx hb dL_law_1110 rfl (lv_at hl 4 rfl) ?_
  refine lv_iload hx hb dL_law_1111 (lv_at hl 0 rfl) ?_
  refine lv_iconst (v := 3) hx hb dL_law_1113 (by decide) ?_
  refine lv_iadd hx hb dL_law_1114 ?_
  refine lv_topi (fun z_3 ez_3 => ?_)
  obtain rfl : z_3 = 3 := ez_3.trans (by decide)
  refine va_sld hx hb hX hbl hbA hS (by unfold vp_in; decide) dL_law_1115 ?_
  refine lv_aload_n hx hb dL_law_1116 rfl (lv_at hl 1 rfl) ?_
  have hF := va_free (wc := [(h0, .inr (11, [.ref x_studio, .ref x_script, .ref x_teller, .ref x_planner, .ref x_plan, .ref x_drifts, .ref x_floor, .ref x_trial, .ref x_tape, .int 0, .int (-1)])), (x_studio, .inr (8, [.ref s_puppets, .int 0, .ref s_shots, .int 0, .ref s_sounds, .ref s_rates, .ref s_dresses])), (s_shots, .inl (cT 5, 12, .inr (.inr (.inr (.inr (fun _ => none))))))]) hD hS hA [0, 1, 2] rfl
  refine va_calli (vx_runSW (As := [.ref h0, .int (xs (Int32.toNatClampNeg 1)), .int (xs (Int32.toNatClampNeg 2)), .int (xs (Int32.toNatClampNeg 3)), .ref o9]) (rest := []) ⟨hx, hb, hml, hown, hts⟩ (c_L_lean l hst D cT h0 (xs (Int32.toNatClampNeg 1)) (xs (Int32.toNatClampNeg 2)) (xs (Int32.toNatClampNeg 3)) o9 x_studio x_script x_teller x_planner x_plan x_drifts x_floor x_trial x_tape s_puppets s_shots s_sounds s_rates s_dresses _ ) (vx_cwSW 5 hts gL_law_L_lean rfl rfl rfl (by decide +kernel) ⟨Nat.le_of_ble_eq_true rfl, Nat.le_of_ble_eq_true rfl⟩) (ps_z hP hD hK hG hZ hS hF [0, 1, 2] rfl rfl rfl) rfl rfl hl.1 rfl (lv_room (Nat.le_of_ble_eq_true rfl)) dL_law_1117 ⟨Nat.le_of_ble_eq_true rfl, Nat.le_of_ble_eq_true rfl⟩) hS (fun q _ h => hF q h) hF (fun r_4 uu9 tt9 H locs ht hvm wr_4 hB hz1 hk1 hS => ?_)
  obtain ⟨hP, hD⟩ := va_join (wr := [(m0, .inr (12, fs))]) (w1 := []) hP hD [0, 1, 2] [3] rfl rfl (by decide) (by decide) hk1 hF vp_nil vd_nil
  have hP : va_P D vwCl [(m0, .inr (12, fs))] _ := hP
  have hD : va_D A [(m0, .inr (12, fs))] := hD
  refine W.widen (k := 216) (n := 539460) (Nat.le_of_ble_eq_true rfl) (Nat.le_of_ble_eq_true rfl) ?_
  obtain rfl : r_4 = 1 := wr_4.trans (rfl)
  refine lv_istore (lv' := [(5, .int 1), (4, .int 0), (3, .ref o9), (2, .ref m0), (1, .ref h0), (0, .ref b)]) hx hb dL_law_1120 hl (by decide) rfl (fun ls hl => ?_)
  refine lv_aload_n hx hb dL_law_1122 rfl (lv_at hl 3 rfl) ?_
  refine lv_aload_n hx hb dL_law_1123 rfl (lv_at hl 5 rfl) ?_
  refine lv_iload hx hb dL_law_1124 (lv_at hl 1 rfl) ?_
  refine lv_iconst (v := 1) hx hb dL_law_1126 (by decide) ?_
  refine lv_iadd hx hb dL_law_1127 ?_
  refine lv_topi (fun z_5 ez_5 => ?_)
  obtain rfl : z_5 = 1 := ez_5.trans (by decide)
  refine va_sld hx hb hX hbl hbA hS (by unfold vp_in; decide) dL_law_1128 ?_
  refine lv_aload_n hx hb dL_law_1129 rfl (lv_at hl 5 rfl) ?_
  refine lv_iload hx hb dL_law_1130 (lv_at hl 1 rfl) ?_
  refine lv_iconst (v := 2) hx hb dL_law_1132 (by decide) ?_
  refine lv_iadd hx hb dL_law_1133 ?_
  refine lv_topi (fun z_6 ez_6 => ?_)
  obtain rfl : z_6 = 2 := ez_6.trans (by decide)
  refine va_sld hx hb hX hbl hbA hS (by unfold vp_in; decide) dL_law_1134 ?_
  refine lv_aload_n hx hb dL_law_1135 rfl (lv_at hl 5 rfl) ?_
  refine lv_iload hx hb dL_law_1136 (lv_at hl 1 rfl) ?_
  refine lv_iconst (v := 3) hx hb dL_law_1138 (by decide) ?_
  refine lv_iadd hx hb dL_law_1139 ?_
  refine lv_topi (fun z_7 ez_7 => ?_)
  obtain rfl : z_7 = 3 := ez_7.trans (by decide)
  refine va_sld hx hb hX hbl hbA hS (by unfold vp_in; decide) dL_law_1140 ?_
  have hF := va_free (wc := [(m0, .inr (12, fs))]) hD hS hA [0] rfl
  refine va_calli (va_runV (As := [.int (xs (Int32.toNatClampNeg 1)), .int (xs (Int32.toNatClampNeg 2)), .int (xs (Int32.toNatClampNeg 3))]) (rest := []) ⟨hx, hb, hml, hown, hts⟩ (c_X12_lean l D cT m0 (xs (Int32.toNatClampNeg 1)) (xs (Int32.toNatClampNeg 2)) (xs (Int32.toNatClampNeg 3)) fs 0 _ (hfs) (hfs_0) (hfs_1) (hfs_38)) (cwV 3 hts gL_law_X12_lean rfl rfl rfl (by decide +kernel) ⟨Nat.le_of_ble_eq_true rfl, Nat.le_of_ble_eq_true rfl⟩) (pv_w hP hD hK hG [0] rfl rfl rfl 0 rfl rfl) rfl rfl hl.1 rfl (lv_room (Nat.le_of_ble_eq_true rfl)) dL_law_1141 ⟨Nat.le_of_ble_eq_true rfl, Nat.le_of_ble_eq_true rfl⟩) hS (fun q _ h => hF q h) hF (fun r_8 uu9 tt9 H locs ht hvm wr_8 hB hz1 hk1 hS => ?_)
  obtain ⟨gs_9, hgs_9, hgs_9_0, hP1, hD1⟩ := hB
  rw [ht] at hP1
  obtain ⟨hP, hD⟩ := va_join (wr := []) (w1 := [(m0, .inr (12, gs_9))]) hP hD [0] [] rfl rfl (by decide) (by decide) hk1 hF hP1 hD1
  have hP : va_P D vwCl [(m0, .inr (12, gs_9))] _ := hP
  have hD : va_D A [(m0, .inr (12, gs_9))] := hD
  refine lv_istore (lv' := [(6, .int r_8), (5, .int 1), (4, .int 0), (3, .ref o9), (2, .ref m0), (1, .ref h0), (0, .ref b)]) hx hb dL_law_1144 hl (by decide) rfl (fun ls hl => ?_)
  refine lv_aload_n hx hb dL_law_1146 rfl (lv_at hl 4 rfl) ?_
  have hF := va_free (wc := [(m0, .inr (12, gs_9))]) hD hS hA [0] rfl
  refine va_calli (va_runV (As := []) (rest := []) ⟨hx, hb, hml, hown, hts⟩ (c_X12_thrown l D cT m0 gs_9 1 _ (hgs_9) (hgs_9_0)) (cwV 0 hts gL_law_X12_thrown rfl rfl rfl (by decide +kernel) ⟨Nat.le_of_ble_eq_true rfl, Nat.le_of_ble_eq_true rfl⟩) (pv_w hP hD hK hG [0] rfl rfl rfl 0 rfl rfl) rfl rfl hl.1 rfl (lv_room (Nat.le_of_ble_eq_true rfl)) dL_law_1147 ⟨Nat.le_of_ble_eq_true rfl, Nat.le_of_ble_eq_true rfl⟩) hS (fun q _ h => hF q h) hF (fun r_12 uu9 tt9 H locs ht hvm wr_12 hB hz1 hk1 hS => ?_)
  obtain ⟨hP1, hD1⟩ := hB
  rw [ht] at hP1
  obtain ⟨hP, hD⟩ := va_join (wr := []) (w1 := [(m0, .inr (12, gs_9))]) hP hD [0] [] rfl rfl (by decide) (by decide) hk1 hF hP1 hD1
  have hP : va_P D vwCl [(m0, .inr (12, gs_9))] _ := hP
  have hD : va_D A [(m0, .inr (12, gs_9))] := hD
  obtain rfl : r_12 = 1 := wr_12.trans (rfl)
  refine lv_iload hx hb dL_law_1150 (lv_at hl 1 rfl) ?_
  refine lv_icmp_eq (tgt := 1157) hx hb dL_law_1152 (by decide) (fun _ => ?_) (fun c9 => absurd c9 (by decide))
  refine lv_iload hx hb dL_law_1157 (lv_at hl 1 rfl) ?_
  refine lv_if_ne (tgt := 1174) hx hb dL_law_1159 (by decide) (fun _ => ?_) (fun c9 => absurd c9 (by decide))
  refine lv_goto (tgt := 3043) hx hb dL_law_1174 (by decide) ?_
  exact law_end C0 hA hAl hS (lv_sub hl [2, 6] rfl) (Nat.le_of_ble_eq_true rfl) (Nat.le_of_ble_eq_true rfl)
theorem dL_law_1177 : decode cL_law 1177 = .ok (.aload_n 1, 1) := by decide +kernel
theorem dL_law_1178 : decode cL_law 1178 = .ok (.aload_n 0, 1) := by decide +kernel
theorem dL_law_1179 : decode cL_law 1179 = .ok (.iload 4, 2) := by decide +kernel
theorem dL_law_1181 : decode cL_law 1181 = .ok (.iconst 1, 1) := by decide +kernel
theorem dL_law_1182 : decode cL_law 1182 = .ok (.iadd, 1) := by decide +kernel
theorem dL_law_1183 : decode cL_law 1183 = .ok (.iaload, 1) := by decide +kernel
theorem dL_law_1184 : decode cL_law 1184 = .ok (.aload_n 0, 1) := by decide +kernel
theorem dL_law_1185 : decode cL_law 1185 = .ok (.iload 4, 2) := by decide +kernel
theorem dL_law_1187 : decode cL_law 1187 = .ok (.iconst 2, 1) := by decide +kernel
theorem dL_law_1188 : decode cL_law 1188 = .ok (.iadd, 1) := by decide +kernel
theorem dL_law_1189 : decode cL_law 1189 = .ok (.iaload, 1) := by decide +kernel
theorem dL_law_1190 : decode cL_law 1190 = .ok (.aload_n 3, 1) := by decide +kernel
theorem dL_law_1191 : decode cL_law 1191 = .ok (.invokestatic 196, 3) := by decide +kernel
theorem dL_law_1194 : decode cL_law 1194 = .ok (.istore 5, 2) := by decide +kernel
theorem dL_law_1196 : decode cL_law 1196 = .ok (.aload_n 2, 1) := by decide +kernel
theorem dL_law_1197 : decode cL_law 1197 = .ok (.aload_n 0, 1) := by decide +kernel
theorem dL_law_1198 : decode cL_law 1198 = .ok (.iload 4, 2) := by decide +kernel
theorem dL_law_1200 : decode cL_law 1200 = .ok (.iconst 1, 1) := by decide +kernel
theorem dL_law_1201 : decode cL_law 1201 = .ok (.iadd, 1) := by decide +kernel
theorem dL_law_1202 : decode cL_law 1202 = .ok (.iaload, 1) := by decide +kernel
theorem dL_law_1203 : decode cL_law 1203 = .ok (.aload_n 0, 1) := by decide +kernel
theorem dL_law_1204 : decode cL_law 1204 = .ok (.iload 4, 2) := by decide +kernel
theorem dL_law_1206 : decode cL_law 1206 = .ok (.iconst 2, 1) := by decide +kernel
theorem dL_law_1207 : decode cL_law 1207 = .ok (.iadd, 1) := by decide +kernel
theorem dL_law_1208 : decode cL_law 1208 = .ok (.iaload, 1) := by decide +kernel
theorem dL_law_1209 : decode cL_law 1209 = .ok (.invokevirtual 198, 3) := by decide +kernel
theorem dL_law_1212 : decode cL_law 1212 = .ok (.istore 6, 2) := by decide +kernel
theorem dL_law_1214 : decode cL_law 1214 = .ok (.aload_n 2, 1) := by decide +kernel
theorem dL_law_1215 : decode cL_law 1215 = .ok (.invokevirtual 149, 3) := by decide +kernel
theorem dL_law_1218 : decode cL_law 1218 = .ok (.iload 5, 2) := by decide +kernel
theorem dL_law_1220 : decode cL_law 1220 = .ok (.if_icmp .eq 5, 3) := by decide +kernel
theorem dL_law_1225 : decode cL_law 1225 = .ok (.iload 5, 2) := by decide +kernel
theorem dL_law_1227 : decode cL_law 1227 = .ok (.ifCond .ne 15, 3) := by decide +kernel
theorem dL_law_1242 : decode cL_law 1242 = .ok (.goto 1801, 3) := by decide +kernel
set_option maxRecDepth 20000 in
theorem ggL_law_L_breach : GoodIn wsL_law wsL_breach := goodIn_ca (goodIn_ca (goodIn_r _ [1054, 878, 272, 1055, 1056, 1057, 2, 1058, 883, 16, 887, 888, 889, 890, 891, 892, 893, 894, 895, 15, 896, 52, 298, 299, 300, 293, 294, 295, 296, 297, 1059, 1060, 1061, 1062, 50, 1063, 1064, 1065, 602, 1066, 1067, 647, 648, 1068, 1069, 1070, 245, 1071, 292, 250, 251, 1020, 932, 933, 934, 633, 935, 936, 937, 938, 637, 639, 2093, 2094, 2095, 2096, 2097, 2098, 2099, 2100, 2101, 2102, 2103, 2104, 2105, 2106, 2107, 1866, 1867, 1868, 1869, 1870, 1871, 1872, 1873, 1874, 1875, 1876, 1986, 1987, 1988, 1989, 1990, 1991, 1992, 2082, 2083, 2084, 2085, 2086, 2087, 2088, 2089, 2090, 2091, 2092] (by decide +kernel) (by decide +kernel)) (goodIn_sub (fun _ h => List.mem_append_right _ h) (by decide +kernel))) (goodIn_sub (fun _ h => List.mem_append_left _ (List.mem_append_left _ (List.mem_append_right _ h))) (by decide +kernel))
set_option maxRecDepth 20000 in
theorem gL_law_L_breach : GoodIn wsL_law (va_wsS RL 196 yL_breach wsL_breach) := goodIn_app (goodIn_of _ (by decide +kernel)) ggL_law_L_breach
set_option maxRecDepth 20000 in
theorem ggL_law_X12_breach : GoodIn wsL_law wsX12_breach := goodIn_r _ [1075, 265, 184, 266, 153, 155, 156, 914, 915, 916, 5, 917, 733, 313, 314, 315, 316, 317, 318, 319, 948, 949, 950, 951, 178, 844, 845, 846, 1877, 1878, 1879, 1880, 1881, 1882, 1883, 1884, 1885, 1886, 1887, 1888, 1889, 1890, 1891, 1892, 1893, 1894, 1895, 1896, 1897, 1898, 1899, 1900, 1901, 1902, 1903, 1904, 1905, 1906, 1907, 1908, 1909, 1910, 1911, 1912, 1913, 1914, 1915, 1916, 1917, 1918, 1919, 1920, 1921, 1922, 1923, 1924, 1925, 1926, 1927, 1928, 1929, 1930, 1931, 1932, 1933, 1934, 1935, 1936, 1937, 1938, 1939, 1940, 1941, 1942, 1943, 1944, 1945, 1946, 1947, 1948, 1949, 1950, 1951, 1952, 1953, 1954, 1955, 1956, 1957, 1958, 1959, 1960, 1961, 1962, 1963, 1964, 1965, 1966, 1967, 1968, 1969, 1970, 1971, 1972, 1973, 1974, 1975, 1976, 1977, 1978, 1979, 1980, 1981, 1982, 1983, 1984, 1985] (by decide +kernel) (by decide +kernel)
set_option maxRecDepth 20000 in
theorem gL_law_X12_breach : GoodIn wsL_law (wsV RL 198 RX12 yX12_breach wsX12_breach) := goodIn_app (goodIn_of _ (by decide +kernel)) ggL_law_X12_breach
set_option maxHeartbeats 8000000 in
set_option maxRecDepth 100000 in
/-- the law: breach -/
theorem law_case_14 {p : Program} {l : Launch} {e : Env} {s : State} {m : MethodId} {below : List Frame} {meth : Method} {c : Code} {D : va_G} {cT : Nat → ClassId} {b : Nat} {xs : Nat → Int32} {A : Nat → Prop} (hst : l.stackTraces = false) (C0 : lw_At p s m meth c b 7 xs) (hA : ∀ q : Nat, s.heap.size ≤ q → A q) (hAl : ∀ q, A q → s.heap.size ≤ q) (hK : va_K D vwCl (TY cT) s) (hG : GW s) (hZ : GZ A s s.heap) {h0 : Nat} {m0 : Nat} {o9 : Nat} {x_studio : Nat} {x_script : Nat} {x_teller : Nat} {x_planner : Nat} {x_plan : Nat} {x_drifts : Nat} {x_floor : Nat} {x_trial : Nat} {x_tape : Nat} {s_puppets : Nat} {s_shots : Nat} {s_sounds : Nat} {s_rates : Nat} {s_dresses : Nat} {fs : List Value} (hfs : fs.length = 109) (hfs_0 : fs[0]? = some (.int 0)) (hfs_1 : fs[1]? = some (.int 0)) (hfs_38 : fs[38]? = some (.int 0)) {H : Heap} {locs : List Loc} (hP : va_P D vwCl [(h0, .inr (11, [.ref x_studio, .ref x_script, .ref x_teller, .ref x_planner, .ref x_plan, .ref x_drifts, .ref x_floor, .ref x_trial, .ref x_tape, .int 0, .int (-1)])), (x_studio, .inr (8, [.ref s_puppets, .int 0, .ref s_shots, .int 0, .ref s_sounds, .ref s_rates, .ref s_dresses])), (s_shots, .inl (cT 5, 12, .inr (.inr (.inr (.inr (fun _ => none)))))), (m0, .inr (12, fs))] H) (hD : va_D A [(h0, .inr (11, [.ref x_studio, .ref x_script, .ref x_teller, .ref x_planner, .ref x_plan, .ref x_drifts, .ref x_floor, .ref x_trial, .ref x_tape, .int 0, .int (-1)])), (x_studio, .inr (8, [.ref s_puppets, .int 0, .ref s_shots, .int 0, .ref s_sounds, .ref s_rates, .ref s_dresses])), (s_shots, .inl (cT 5, 12, .inr (.inr (.inr (.inr (fun _ => none)))))), (m0, .inr (12, fs))]) (hS : va_S A s.heap H locs) {ls : Array Slot} (hl : lv_has ls 7 [(4, .int 0), (3, .ref o9), (2, .ref m0), (1, .ref h0), (0, .ref b)]) : W p l e room_1 s m #[Value.ref b] below meth c H locs 215 539454 (lw_Z below #[Value.ref b] s) (F0 m 1177 ls []) := by
  obtain ⟨hx, hb, hr, hml, hown, hts0, hX, hbl, hlocks, hgv⟩ := id C0
  have hts : ∀ w ∈ wsL_law, w.before #[Value.ref b] s = true := fun w h => hts0 w (wsL_law_in w h)
  have hbA : ¬ A b := fun h => absurd (hAl b h) (Nat.not_le.mpr hbl)
  have hown : s.vm.findClass RL = some m.cls := hown
  have hb : c.code = cL_law := hb
  refine lv_aload_n hx hb dL_law_1177 rfl (lv_at hl 3 rfl) ?_
  refine lv_aload_n hx hb dL_law_1178 rfl (lv_at hl 4 rfl) ?_
  refine lv_iload hx hb dL_law_1179 (lv_at hl 0 rfl) ?_
  refine lv_iconst (v := 1) hx hb dL_law_1181 (by decide) ?_
  refine lv_iadd hx hb dL_law_1182 ?_
  refine lv_topi (fun z_1 ez_1 => ?_)
  obtain rfl : z_1 = 1 := ez_1.trans (by decide)
  refine va_sld hx hb hX hbl hbA hS (by unfold vp_in; decide) dL_law_1183 ?_
  refine lv_aload_n hx hb dL_law_1184 rfl (lv_at hl 4 rfl) ?_
  refine lv_iload hx hb dL_law_1185 (lv_at hl 0 rfl) ?_
  refine lv_iconst (v := 2) hx hb dL_law_1187 (by decide) ?_
  refine lv_iadd hx hb dL_law_1188 ?_
  refine lv_topi (fun z_2 ez_2 => ?_)
  obtain rfl : z_2 = 2 := ez_2.trans (by decide)
  refine va_sld hx hb hX hbl hbA hS (by unfold vp_in; decide) dL_law_1189 ?_
  refine lv_aload_n hx hb dL_law_1190 rfl (lv_at hl 1 rfl) ?_
  have hF := va_free (wc := [(h0, .inr (11, [.ref x_studio, .ref x_script, .ref x_teller, .ref x_planner, .ref x_plan, .ref x_drifts, .ref x_floor, .ref x_trial, .ref x_tape, .int 0, .int (-1)])), (x_studio, .inr (8, [.ref s_puppets, .int 0, .ref s_shots, .int 0, .ref s_sounds, .ref s_rates, .ref s_dresses])), (s_shots, .inl (cT 5, 12, .inr (.inr (.inr (.inr (fun _ => none))))))]) hD hS hA [0, 1, 2] rfl
  refine va_calli (vx_runSW (As := [.ref h0, .int (xs (Int32.toNatClampNeg 1)), .int (xs (Int32.toNatClampNeg 2)), .ref o9]) (rest := []) ⟨hx, hb, hml, hown, hts⟩ (c_L_breach l hst D cT h0 (xs (Int32.toNatClampNeg 1)) (xs (Int32.toNatClampNeg 2)) o9 x_studio x_script x_teller x_planner x_plan x_drifts x_floor x_trial x_tape s_puppets s_shots s_sounds s_rates s_dresses _ ) (vx_cwSW 4 hts gL_law_L_breach rfl rfl rfl (by decide +kernel) ⟨Nat.le_of_ble_eq_true rfl, Nat.le_of_ble_eq_true rfl⟩) (ps_z hP hD hK hG hZ hS hF [0, 1, 2] rfl rfl rfl) rfl rfl hl.1 rfl (lv_room (Nat.le_of_ble_eq_true rfl)) dL_law_1191 ⟨Nat.le_of_ble_eq_true rfl, Nat.le_of_ble_eq_true rfl⟩) hS (fun q _ h => hF q h) hF (fun r_3 uu9 tt9 H locs ht hvm wr_3 hB hz1 hk1 hS => ?_)
  obtain ⟨hP, hD⟩ := va_join (wr := [(m0, .inr (12, fs))]) (w1 := []) hP hD [0, 1, 2] [3] rfl rfl (by decide) (by decide) hk1 hF vp_nil vd_nil
  have hP : va_P D vwCl [(m0, .inr (12, fs))] _ := hP
  have hD : va_D A [(m0, .inr (12, fs))] := hD
  refine W.widen (k := 216) (n := 539460) (Nat.le_of_ble_eq_true rfl) (Nat.le_of_ble_eq_true rfl) ?_
  obtain rfl : r_3 = 1 := wr_3.trans (rfl)
  refine lv_istore (lv' := [(5, .int 1), (4, .int 0), (3, .ref o9), (2, .ref m0), (1, .ref h0), (0, .ref b)]) hx hb dL_law_1194 hl (by decide) rfl (fun ls hl => ?_)
  refine lv_aload_n hx hb dL_law_1196 rfl (lv_at hl 3 rfl) ?_
  refine lv_aload_n hx hb dL_law_1197 rfl (lv_at hl 5 rfl) ?_
  refine lv_iload hx hb dL_law_1198 (lv_at hl 1 rfl) ?_
  refine lv_iconst (v := 1) hx hb dL_law_1200 (by decide) ?_
  refine lv_iadd hx hb dL_law_1201 ?_
  refine lv_topi (fun z_4 ez_4 => ?_)
  obtain rfl : z_4 = 1 := ez_4.trans (by decide)
  refine va_sld hx hb hX hbl hbA hS (by unfold vp_in; decide) dL_law_1202 ?_
  refine lv_aload_n hx hb dL_law_1203 rfl (lv_at hl 5 rfl) ?_
  refine lv_iload hx hb dL_law_1204 (lv_at hl 1 rfl) ?_
  refine lv_iconst (v := 2) hx hb dL_law_1206 (by decide) ?_
  refine lv_iadd hx hb dL_law_1207 ?_
  refine lv_topi (fun z_5 ez_5 => ?_)
  obtain rfl : z_5 = 2 := ez_5.trans (by decide)
  refine va_sld hx hb hX hbl hbA hS (by unfold vp_in; decide) dL_law_1208 ?_
  have hF := va_free (wc := [(m0, .inr (12, fs))]) hD hS hA [0] rfl
  refine va_calli (va_runV (As := [.int (xs (Int32.toNatClampNeg 1)), .int (xs (Int32.toNatClampNeg 2))]) (rest := []) ⟨hx, hb, hml, hown, hts⟩ (c_X12_breach l D cT m0 (xs (Int32.toNatClampNeg 1)) (xs (Int32.toNatClampNeg 2)) fs 0 _ (hfs) (hfs_0) (hfs_1) (hfs_38)) (cwV 2 hts gL_law_X12_breach rfl rfl rfl (by decide +kernel) ⟨Nat.le_of_ble_eq_true rfl, Nat.le_of_ble_eq_true rfl⟩) (pv_w hP hD hK hG [0] rfl rfl rfl 0 rfl rfl) rfl rfl hl.1 rfl (lv_room (Nat.le_of_ble_eq_true rfl)) dL_law_1209 ⟨Nat.le_of_ble_eq_true rfl, Nat.le_of_ble_eq_true rfl⟩) hS (fun q _ h => hF q h) hF (fun r_6 uu9 tt9 H locs ht hvm wr_6 hB hz1 hk1 hS => ?_)
  obtain ⟨gs_7, hgs_7, hgs_7_0, hP1, hD1⟩ := hB
  rw [ht] at hP1
  obtain ⟨hP, hD⟩ := va_join (wr := []) (w1 := [(m0, .inr (12, gs_7))]) hP hD [0] [] rfl rfl (by decide) (by decide) hk1 hF hP1 hD1
  have hP : va_P D vwCl [(m0, .inr (12, gs_7))] _ := hP
  have hD : va_D A [(m0, .inr (12, gs_7))] := hD
  refine lv_istore (lv' := [(6, .int r_6), (5, .int 1), (4, .int 0), (3, .ref o9), (2, .ref m0), (1, .ref h0), (0, .ref b)]) hx hb dL_law_1212 hl (by decide) rfl (fun ls hl => ?_)
  refine lv_aload_n hx hb dL_law_1214 rfl (lv_at hl 4 rfl) ?_
  have hF := va_free (wc := [(m0, .inr (12, gs_7))]) hD hS hA [0] rfl
  refine va_calli (va_runV (As := []) (rest := []) ⟨hx, hb, hml, hown, hts⟩ (c_X12_thrown l D cT m0 gs_7 1 _ (hgs_7) (hgs_7_0)) (cwV 0 hts gL_law_X12_thrown rfl rfl rfl (by decide +kernel) ⟨Nat.le_of_ble_eq_true rfl, Nat.le_of_ble_eq_true rfl⟩) (pv_w hP hD hK hG [0] rfl rfl rfl 0 rfl rfl) rfl rfl hl.1 rfl (lv_room (Nat.le_of_ble_eq_true rfl)) dL_law_1215 ⟨Nat.le_of_ble_eq_true rfl, Nat.le_of_ble_eq_true rfl⟩) hS (fun q _ h => hF q h) hF (fun r_10 uu9 tt9 H locs ht hvm wr_10 hB hz1 hk1 hS => ?_)
  obtain ⟨hP1, hD1⟩ := hB
  rw [ht] at hP1
  obtain ⟨hP, hD⟩ := va_join (wr := []) (w1 := [(m0, .inr (12, gs_7))]) hP hD [0] [] rfl rfl (by decide) (by decide) hk1 hF hP1 hD1
  have hP : va_P D vwCl [(m0, .inr (12, gs_7))] _ := hP
  have hD : va_D A [(m0, .inr (12, gs_7))] := hD
  obtain rfl : r_10 = 1 := wr_10.trans (rfl)
  refine lv_iload hx hb dL_law_1218 (lv_at hl 1 rfl) ?_
  refine lv_icmp_eq (tgt := 1225) hx hb dL_law_1220 (by decide) (fun _ => ?_) (fun c9 => absurd c9 (by decide))
  refine lv_iload hx hb dL_law_1225 (lv_at hl 1 rfl) ?_
  refine lv_if_ne (tgt := 1242) hx hb dL_law_1227 (by decide) (fun _ => ?_) (fun c9 => absurd c9 (by decide))
  refine lv_goto (tgt := 3043) hx hb dL_law_1242 (by decide) ?_
  exact law_end C0 hA hAl hS (lv_sub hl [2, 6] rfl) (Nat.le_of_ble_eq_true rfl) (Nat.le_of_ble_eq_true rfl)
theorem dL_law_1245 : decode cL_law 1245 = .ok (.aload_n 1, 1) := by decide +kernel
theorem dL_law_1246 : decode cL_law 1246 = .ok (.aload_n 0, 1) := by decide +kernel
theorem dL_law_1247 : decode cL_law 1247 = .ok (.iload 4, 2) := by decide +kernel
theorem dL_law_1249 : decode cL_law 1249 = .ok (.iconst 1, 1) := by decide +kernel
theorem dL_law_1250 : decode cL_law 1250 = .ok (.iadd, 1) := by decide +kernel
theorem dL_law_1251 : decode cL_law 1251 = .ok (.iaload, 1) := by decide +kernel
theorem dL_law_1252 : decode cL_law 1252 = .ok (.aload_n 0, 1) := by decide +kernel
theorem dL_law_1253 : decode cL_law 1253 = .ok (.iload 4, 2) := by decide +kernel
theorem dL_law_1255 : decode cL_law 1255 = .ok (.iconst 2, 1) := by decide +kernel
theorem dL_law_1256 : decode cL_law 1256 = .ok (.iadd, 1) := by decide +kernel
theorem dL_law_1257 : decode cL_law 1257 = .ok (.iaload, 1) := by decide +kernel
theorem dL_law_1258 : decode cL_law 1258 = .ok (.aload_n 3, 1) := by decide +kernel
theorem dL_law_1259 : decode cL_law 1259 = .ok (.invokestatic 199, 3) := by decide +kernel
theorem dL_law_1262 : decode cL_law 1262 = .ok (.istore 5, 2) := by decide +kernel
theorem dL_law_1264 : decode cL_law 1264 = .ok (.aload_n 2, 1) := by decide +kernel
theorem dL_law_1265 : decode cL_law 1265 = .ok (.aload_n 0, 1) := by decide +kernel
theorem dL_law_1266 : decode cL_law 1266 = .ok (.iload 4, 2) := by decide +kernel
theorem dL_law_1268 : decode cL_law 1268 = .ok (.iconst 1, 1) := by decide +kernel
theorem dL_law_1269 : decode cL_law 1269 = .ok (.iadd, 1) := by decide +kernel
theorem dL_law_1270 : decode cL_law 1270 = .ok (.iaload, 1) := by decide +kernel
theorem dL_law_1271 : decode cL_law 1271 = .ok (.aload_n 0, 1) := by decide +kernel
theorem dL_law_1272 : decode cL_law 1272 = .ok (.iload 4, 2) := by decide +kernel
theorem dL_law_1274 : decode cL_law 1274 = .ok (.iconst 2, 1) := by decide +kernel
theorem dL_law_1275 : decode cL_law 1275 = .ok (.iadd, 1) := by decide +kernel
theorem dL_law_1276 : decode cL_law 1276 = .ok (.iaload, 1) := by decide +kernel
theorem dL_law_1277 : decode cL_law 1277 = .ok (.invokevirtual 201, 3) := by decide +kernel
theorem dL_law_1280 : decode cL_law 1280 = .ok (.istore 6, 2) := by decide +kernel
theorem dL_law_1282 : decode cL_law 1282 = .ok (.aload_n 2, 1) := by decide +kernel
theorem dL_law_1283 : decode cL_law 1283 = .ok (.invokevirtual 149, 3) := by decide +kernel
theorem dL_law_1286 : decode cL_law 1286 = .ok (.iload 5, 2) := by decide +kernel
theorem dL_law_1288 : decode cL_law 1288 = .ok (.if_icmp .eq 5, 3) := by decide +kernel
theorem dL_law_1293 : decode cL_law 1293 = .ok (.iload 5, 2) := by decide +kernel
theorem dL_law_1295 : decode cL_law 1295 = .ok (.ifCond .ne 15, 3) := by decide +kernel
theorem dL_law_1310 : decode cL_law 1310 = .ok (.goto 1733, 3) := by decide +kernel
set_option maxRecDepth 20000 in
theorem ggL_law_L_fall : GoodIn wsL_law wsL_fall := goodIn_ca (goodIn_ca (goodIn_r _ [1078, 878, 272, 1079, 1080, 1081, 2, 1082, 883, 16, 887, 888, 889, 890, 891, 892, 893, 894, 895, 15, 896, 52, 298, 299, 300, 293, 294, 295, 296, 297, 1083, 1084, 1085, 1086, 50, 1063, 1064, 1065, 602, 1066, 1067, 647, 648, 1087, 1002, 1003, 1004, 642, 678, 679, 1088, 1010, 1011, 245, 1012, 292, 253, 1013, 1014, 1015, 1016, 1017, 1018, 249, 254, 1019, 255, 252, 1020, 932, 933, 934, 633, 935, 936, 937, 938, 637, 639, 2093, 2094, 2095, 2096, 2097, 2098, 2099, 2100, 2101, 2102, 2103, 2104, 2105, 2106, 2107, 1866, 1867, 1868, 1869, 1870, 1871, 1872, 1873, 1874, 1875, 1876, 1986, 1987, 1988, 1989, 1990, 1991, 1992, 2082, 2083, 2084, 2085, 2086, 2087, 2088, 2089, 2090, 2091, 2092] (by decide +kernel) (by decide +kernel)) (goodIn_sub (fun _ h => List.mem_append_right _ h) (by decide +kernel))) (goodIn_sub (fun _ h => List.mem_append_left _ (List.mem_append_left _ (List.mem_append_right _ h))) (by decide +kernel))
set_option maxRecDepth 20000 in
theorem gL_law_L_fall : GoodIn wsL_law (va_wsS RL 199 yL_fall wsL_fall) := goodIn_app (goodIn_of _ (by decide +kernel)) ggL_law_L_fall
set_option maxRecDepth 20000 in
theorem ggL_law_X12_fall : GoodIn wsL_law wsX12_fall := goodIn_r _ [1092, 265, 184, 266, 185, 914, 915, 916, 5, 917, 733, 313, 314, 315, 316, 317, 318, 319, 1025, 1026, 1027, 1028, 182, 844, 845, 846, 1029, 1030, 1031, 1032, 153, 154, 200, 201, 157, 158, 948, 949, 950, 951, 178, 1033, 1034, 1035, 1036, 1037, 1038, 1039, 159, 160, 1877, 1878, 1879, 1880, 1881, 1882, 1883, 1884, 1885, 1886, 1887, 1888, 1889, 1890, 1891, 1892, 1893, 1894, 1895, 1896, 1897, 1898, 1899, 1900, 1901, 1902, 1903, 1904, 1905, 1906, 1907, 1908, 1909, 1910, 1911, 1912, 1913, 1914, 1915, 1916, 1917, 1918, 1919, 1920, 1921, 1922, 1923, 1924, 1925, 1926, 1927, 1928, 1929, 1930, 1931, 1932, 1933, 1934, 1935, 1936, 1937, 1938, 1939, 1940, 1941, 1942, 1943, 1944, 1945, 1946, 1947, 1948, 1949, 1950, 1951, 1952, 1953, 1954, 1955, 1956, 1957, 1958, 1959, 1960, 1961, 1962, 1963, 1964, 1965, 1966, 1967, 1968, 1969, 1970, 1971, 1972, 1973, 1974, 1975, 1976, 1977, 1978, 1979, 1980, 1981, 1982, 1983, 1984, 1985] (by decide +kernel) (by decide +kernel)
set_option maxRecDepth 20000 in
theorem gL_law_X12_fall : GoodIn wsL_law (wsV RL 201 RX12 yX12_fall wsX12_fall) := goodIn_app (goodIn_of _ (by decide +kernel)) ggL_law_X12_fall
set_option maxHeartbeats 8000000 in
set_option maxRecDepth 100000 in
/-- the law: fall -/
theorem law_case_15 {p : Program} {l : Launch} {e : Env} {s : State} {m : MethodId} {below : List Frame} {meth : Method} {c : Code} {D : va_G} {cT : Nat → ClassId} {b : Nat} {xs : Nat → Int32} {A : Nat → Prop} (hst : l.stackTraces = false) (C0 : lw_At p s m meth c b 7 xs) (hA : ∀ q : Nat, s.heap.size ≤ q → A q) (hAl : ∀ q, A q → s.heap.size ≤ q) (hK : va_K D vwCl (TY cT) s) (hG : GW s) (hZ : GZ A s s.heap) {h0 : Nat} {m0 : Nat} {o9 : Nat} {x_studio : Nat} {x_script : Nat} {x_teller : Nat} {x_planner : Nat} {x_plan : Nat} {x_drifts : Nat} {x_floor : Nat} {x_trial : Nat} {x_tape : Nat} {s_puppets : Nat} {s_shots : Nat} {s_sounds : Nat} {s_rates : Nat} {s_dresses : Nat} {fs : List Value} (hfs : fs.length = 109) (hfs_0 : fs[0]? = some (.int 0)) (hfs_1 : fs[1]? = some (.int 0)) (hfs_38 : fs[38]? = some (.int 0)) {H : Heap} {locs : List Loc} (hP : va_P D vwCl [(h0, .inr (11, [.ref x_studio, .ref x_script, .ref x_teller, .ref x_planner, .ref x_plan, .ref x_drifts, .ref x_floor, .ref x_trial, .ref x_tape, .int 0, .int (-1)])), (x_studio, .inr (8, [.ref s_puppets, .int 0, .ref s_shots, .int 0, .ref s_sounds, .ref s_rates, .ref s_dresses])), (s_shots, .inl (cT 5, 12, .inr (.inr (.inr (.inr (fun _ => none)))))), (m0, .inr (12, fs))] H) (hD : va_D A [(h0, .inr (11, [.ref x_studio, .ref x_script, .ref x_teller, .ref x_planner, .ref x_plan, .ref x_drifts, .ref x_floor, .ref x_trial, .ref x_tape, .int 0, .int (-1)])), (x_studio, .inr (8, [.ref s_puppets, .int 0, .ref s_shots, .int 0, .ref s_sounds, .ref s_rates, .ref s_dresses])), (s_shots, .inl (cT 5, 12, .inr (.inr (.inr (.inr (fun _ => none)))))), (m0, .inr (12, fs))]) (hS : va_S A s.heap H locs) {ls : Array Slot} (hl : lv_has ls 7 [(4, .int 0), (3, .ref o9), (2, .ref m0), (1, .ref h0), (0, .ref b)]) : W p l e room_1 s m #[Value.ref b] below meth c H locs 215 539454 (lw_Z below #[Value.ref b] s) (F0 m 1245 ls []) := by
  obtain ⟨hx, hb, hr, hml, hown, hts0, hX, hbl, hlocks, hgv⟩ := id C0
  have hts : ∀ w ∈ wsL_law, w.before #[Value.ref b] s = true := fun w h => hts0 w (wsL_law_in w h)
  have hbA : ¬ A b := fun h => absurd (hAl b h) (Nat.not_le.mpr hbl)
  have hown : s.vm.findClass RL = some m.cls := hown
  have hb : c.code = cL_law := hb
  refine lv_aload_n hx hb dL_law_1245 rfl (lv_at hl 3 rfl) ?_
  refine lv_aload_n hx hb dL_law_1246 rfl (lv_at hl 4 rfl) ?_
  refine lv_iload hx hb dL_law_1247 (lv_at hl 0 rfl) ?_
  refine lv_iconst (v := 1) hx hb dL_law_1249 (by decide) ?_
  refine lv_iadd hx hb dL_law_1250 ?_
  refine lv_topi (fun z_1 ez_1 => ?_)
  obtain rfl : z_1 = 1 := ez_1.trans (by decide)
  refine va_sld hx hb hX hbl hbA hS (by unfold vp_in; decide) dL_law_1251 ?_
  refine lv_aload_n hx hb dL_law_1252 rfl (lv_at hl 4 rfl) ?_
  refine lv_iload hx hb dL_law_1253 (lv_at hl 0 rfl) ?_
  refine lv_iconst (v := 2) hx hb dL_law_1255 (by decide) ?_
  refine lv_iadd hx hb dL_law_1256 ?_
  refine lv_topi (fun z_2 ez_2 => ?_)
  obtain rfl : z_2 = 2 := ez_2.trans (by decide)
  refine va_sld hx hb hX hbl hbA hS (by unfold vp_in; decide) dL_law_1257 ?_
  refine lv_aload_n hx hb dL_law_1258 rfl (lv_at hl 1 rfl) ?_
  have hF := va_free (wc := [(h0, .inr (11, [.ref x_studio, .ref x_script, .ref x_teller, .ref x_planner, .ref x_plan, .ref x_drifts, .ref x_floor, .ref x_trial, .ref x_tape, .int 0, .int (-1)])), (x_studio, .inr (8, [.ref s_puppets, .int 0, .ref s_shots, .int 0, .ref s_sounds, .ref s_rates, .ref s_dresses])), (s_shots, .inl (cT 5, 12, .inr (.inr (.inr (.inr (fun _ => none))))))]) hD hS hA [0, 1, 2] rfl
  refine va_calli (vx_runSW (As := [.ref h0, .int (xs (Int32.toNatClampNeg 1)), .int (xs (Int32.toNatClampNeg 2)), .ref o9]) (rest := []) ⟨hx, hb, hml, hown, hts⟩ (c_L_fall l hst D cT h0 (xs (Int32.toNatClampNeg 1)) (xs (Int32.toNatClampNeg 2)) o9 x_studio x_script x_teller x_planner x_plan x_drifts x_floor x_trial x_tape s_puppets s_shots s_sounds s_rates s_dresses _ ) (vx_cwSW 4 hts gL_law_L_fall rfl rfl rfl (by decide +kernel) ⟨Nat.le_of_ble_eq_true rfl, Nat.le_of_ble_eq_true rfl⟩) (ps_z hP hD hK hG hZ hS hF [0, 1, 2] rfl rfl rfl) rfl rfl hl.1 rfl (lv_room (Nat.le_of_ble_eq_true rfl)) dL_law_1259 ⟨Nat.le_of_ble_eq_true rfl, Nat.le_of_ble_eq_true rfl⟩) hS (fun q _ h => hF q h) hF (fun r_3 uu9 tt9 H locs ht hvm wr_3 hB hz1 hk1 hS => ?_)
  obtain ⟨hP, hD⟩ := va_join (wr := [(m0, .inr (12, fs))]) (w1 := []) hP hD [0, 1, 2] [3] rfl rfl (by decide) (by decide) hk1 hF vp_nil vd_nil
  have hP : va_P D vwCl [(m0, .inr (12, fs))] _ := hP
  have hD : va_D A [(m0, .inr (12, fs))] := hD
  refine W.widen (k := 216) (n := 539460) (Nat.le_of_ble_eq_true rfl) (Nat.le_of_ble_eq_true rfl) ?_
  obtain rfl : r_3 = 1 := wr_3.trans (rfl)
  refine lv_istore (lv' := [(5, .int 1), (4, .int 0), (3, .ref o9), (2, .ref m0), (1, .ref h0), (0, .ref b)]) hx hb dL_law_1262 hl (by decide) rfl (fun ls hl => ?_)
  refine lv_aload_n hx hb dL_law_1264 rfl (lv_at hl 3 rfl) ?_
  refine lv_aload_n hx hb dL_law_1265 rfl (lv_at hl 5 rfl) ?_
  refine lv_iload hx hb dL_law_1266 (lv_at hl 1 rfl) ?_
  refine lv_iconst (v := 1) hx hb dL_law_1268 (by decide) ?_
  refine lv_iadd hx hb dL_law_1269 ?_
  refine lv_topi (fun z_4 ez_4 => ?_)
  obtain rfl : z_4 = 1 := ez_4.trans (by decide)
  refine va_sld hx hb hX hbl hbA hS (by unfold vp_in; decide) dL_law_1270 ?_
  refine lv_aload_n hx hb dL_law_1271 rfl (lv_at hl 5 rfl) ?_
  refine lv_iload hx hb dL_law_1272 (lv_at hl 1 rfl) ?_
  refine lv_iconst (v := 2) hx hb dL_law_1274 (by decide) ?_
  refine lv_iadd hx hb dL_law_1275 ?_
  refine lv_topi (fun z_5 ez_5 => ?_)
  obtain rfl : z_5 = 2 := ez_5.trans (by decide)
  refine va_sld hx hb hX hbl hbA hS (by unfold vp_in; decide) dL_law_1276 ?_
  have hF := va_free (wc := [(m0, .inr (12, fs))]) hD hS hA [0] rfl
  refine va_calli (va_runV (As := [.int (xs (Int32.toNatClampNeg 1)), .int (xs (Int32.toNatClampNeg 2))]) (rest := []) ⟨hx, hb, hml, hown, hts⟩ (c_X12_fall l D cT m0 (xs (Int32.toNatClampNeg 1)) (xs (Int32.toNatClampNeg 2)) fs 0 _ (hfs) (hfs_0) (hfs_1) (hfs_38)) (cwV 2 hts gL_law_X12_fall rfl rfl rfl (by decide +kernel) ⟨Nat.le_of_ble_eq_true rfl, Nat.le_of_ble_eq_true rfl⟩) (pv_w hP hD hK hG [0] rfl rfl rfl 0 rfl rfl) rfl rfl hl.1 rfl (lv_room (Nat.le_of_ble_eq_true rfl)) dL_law_1277 ⟨Nat.le_of_ble_eq_true rfl, Nat.le_of_ble_eq_true rfl⟩) hS (fun q _ h => hF q h) hF (fun r_6 uu9 tt9 H locs ht hvm wr_6 hB hz1 hk1 hS => ?_)
  obtain ⟨gs_7, hgs_7, hgs_7_0, hP1, hD1⟩ := hB
  rw [ht] at hP1
  obtain ⟨hP, hD⟩ := va_join (wr := []) (w1 := [(m0, .inr (12, gs_7))]) hP hD [0] [] rfl rfl (by decide) (by decide) hk1 hF hP1 hD1
  have hP : va_P D vwCl [(m0, .inr (12, gs_7))] _ := hP
  have hD : va_D A [(m0, .inr (12, gs_7))] := hD
  refine lv_istore (lv' := [(6, .int r_6), (5, .int 1), (4, .int 0), (3, .ref o9), (2, .ref m0), (1, .ref h0), (0, .ref b)]) hx hb dL_law_1280 hl (by decide) rfl (fun ls hl => ?_)
  refine lv_aload_n hx hb dL_law_1282 rfl (lv_at hl 4 rfl) ?_
  have hF := va_free (wc := [(m0, .inr (12, gs_7))]) hD hS hA [0] rfl
  refine va_calli (va_runV (As := []) (rest := []) ⟨hx, hb, hml, hown, hts⟩ (c_X12_thrown l D cT m0 gs_7 1 _ (hgs_7) (hgs_7_0)) (cwV 0 hts gL_law_X12_thrown rfl rfl rfl (by decide +kernel) ⟨Nat.le_of_ble_eq_true rfl, Nat.le_of_ble_eq_true rfl⟩) (pv_w hP hD hK hG [0] rfl rfl rfl 0 rfl rfl) rfl rfl hl.1 rfl (lv_room (Nat.le_of_ble_eq_true rfl)) dL_law_1283 ⟨Nat.le_of_ble_eq_true rfl, Nat.le_of_ble_eq_true rfl⟩) hS (fun q _ h => hF q h) hF (fun r_10 uu9 tt9 H locs ht hvm wr_10 hB hz1 hk1 hS => ?_)
  obtain ⟨hP1, hD1⟩ := hB
  rw [ht] at hP1
  obtain ⟨hP, hD⟩ := va_join (wr := []) (w1 := [(m0, .inr (12, gs_7))]) hP hD [0] [] rfl rfl (by decide) (by decide) hk1 hF hP1 hD1
  have hP : va_P D vwCl [(m0, .inr (12, gs_7))] _ := hP
  have hD : va_D A [(m0, .inr (12, gs_7))] := hD
  obtain rfl : r_10 = 1 := wr_10.trans (rfl)
  refine lv_iload hx hb dL_law_1286 (lv_at hl 1 rfl) ?_
  refine lv_icmp_eq (tgt := 1293) hx hb dL_law_1288 (by decide) (fun _ => ?_) (fun c9 => absurd c9 (by decide))
  refine lv_iload hx hb dL_law_1293 (lv_at hl 1 rfl) ?_
  refine lv_if_ne (tgt := 1310) hx hb dL_law_1295 (by decide) (fun _ => ?_) (fun c9 => absurd c9 (by decide))
  refine lv_goto (tgt := 3043) hx hb dL_law_1310 (by decide) ?_
  exact law_end C0 hA hAl hS (lv_sub hl [2, 6] rfl) (Nat.le_of_ble_eq_true rfl) (Nat.le_of_ble_eq_true rfl)
theorem dL_law_1313 : decode cL_law 1313 = .ok (.aload_n 1, 1) := by decide +kernel
theorem dL_law_1314 : decode cL_law 1314 = .ok (.aload_n 0, 1) := by decide +kernel
theorem dL_law_1315 : decode cL_law 1315 = .ok (.iload 4, 2) := by decide +kernel
theorem dL_law_1317 : decode cL_law 1317 = .ok (.iconst 1, 1) := by decide +kernel
theorem dL_law_1318 : decode cL_law 1318 = .ok (.iadd, 1) := by decide +kernel
theorem dL_law_1319 : decode cL_law 1319 = .ok (.iaload, 1) := by decide +kernel
theorem dL_law_1320 : decode cL_law 1320 = .ok (.aload_n 0, 1) := by decide +kernel
theorem dL_law_1321 : decode cL_law 1321 = .ok (.iload 4, 2) := by decide +kernel
theorem dL_law_1323 : decode cL_law 1323 = .ok (.iconst 2, 1) := by decide +kernel
theorem dL_law_1324 : decode cL_law 1324 = .ok (.iadd, 1) := by decide +kernel
theorem dL_law_1325 : decode cL_law 1325 = .ok (.iaload, 1) := by decide +kernel
theorem dL_law_1326 : decode cL_law 1326 = .ok (.aload_n 0, 1) := by decide +kernel
theorem dL_law_1327 : decode cL_law 1327 = .ok (.iload 4, 2) := by decide +kernel
theorem dL_law_1329 : decode cL_law 1329 = .ok (.iconst 3, 1) := by decide +kernel
theorem dL_law_1330 : decode cL_law 1330 = .ok (.iadd, 1) := by decide +kernel
theorem dL_law_1331 : decode cL_law 1331 = .ok (.iaload, 1) := by decide +kernel
theorem dL_law_1332 : decode cL_law 1332 = .ok (.aload_n 3, 1) := by decide +kernel
theorem dL_law_1333 : decode cL_law 1333 = .ok (.invokestatic 202, 3) := by decide +kernel
theorem dL_law_1336 : decode cL_law 1336 = .ok (.istore 5, 2) := by decide +kernel
theorem dL_law_1338 : decode cL_law 1338 = .ok (.aload_n 2, 1) := by decide +kernel
theorem dL_law_1339 : decode cL_law 1339 = .ok (.aload_n 0, 1) := by decide +kernel
theorem dL_law_1340 : decode cL_law 1340 = .ok (.iload 4, 2) := by decide +kernel
theorem dL_law_1342 : decode cL_law 1342 = .ok (.iconst 1, 1) := by decide +kernel
theorem dL_law_1343 : decode cL_law 1343 = .ok (.iadd, 1) := by decide +kernel
theorem dL_law_1344 : decode cL_law 1344 = .ok (.iaload, 1) := by decide +kernel
theorem dL_law_1345 : decode cL_law 1345 = .ok (.aload_n 0, 1) := by decide +kernel
theorem dL_law_1346 : decode cL_law 1346 = .ok (.iload 4, 2) := by decide +kernel
theorem dL_law_1348 : decode cL_law 1348 = .ok (.iconst 2, 1) := by decide +kernel
theorem dL_law_1349 : decode cL_law 1349 = .ok (.iadd, 1) := by decide +kernel
theorem dL_law_1350 : decode cL_law 1350 = .ok (.iaload, 1) := by decide +kernel
theorem dL_law_1351 : decode cL_law 1351 = .ok (.aload_n 0, 1) := by decide +kernel
theorem dL_law_1352 : decode cL_law 1352 = .ok (.iload 4, 2) := by decide +kernel
theorem dL_law_1354 : decode cL_law 1354 = .ok (.iconst 3, 1) := by decide +kernel
theorem dL_law_1355 : decode cL_law 1355 = .ok (.iadd, 1) := by decide +kernel
theorem dL_law_1356 : decode cL_law 1356 = .ok (.iaload, 1) := by decide +kernel
theorem dL_law_1357 : decode cL_law 1357 = .ok (.invokevirtual 204, 3) := by decide +kernel
theorem dL_law_1360 : decode cL_law 1360 = .ok (.istore 6, 2) := by decide +kernel
theorem dL_law_1362 : decode cL_law 1362 = .ok (.aload_n 2, 1) := by decide +kernel
theorem dL_law_1363 : decode cL_law 1363 = .ok (.invokevirtual 149, 3) := by decide +kernel
theorem dL_law_1366 : decode cL_law 1366 = .ok (.iload 5, 2) := by decide +kernel
theorem dL_law_1368 : decode cL_law 1368 = .ok (.if_icmp .eq 5, 3) := by decide +kernel
theorem dL_law_1373 : decode cL_law 1373 = .ok (.iload 5, 2) := by decide +kernel
theorem dL_law_1375 : decode cL_law 1375 = .ok (.ifCond .ne 22, 3) := by decide +kernel
theorem dL_law_1397 : decode cL_law 1397 = .ok (.goto 1646, 3) := by decide +kernel
set_option maxRecDepth 20000 in
theorem ggL_law_L_alike : GoodIn wsL_law wsL_alike := goodIn_ca (goodIn_ca (goodIn_r _ [1095, 878, 271, 1096, 1097, 1098, 2, 1099, 16, 887, 888, 889, 890, 891, 892, 893, 894, 895, 15, 896, 52, 1100, 1101, 1102, 282, 283, 930, 675, 676, 602, 677, 636, 1103, 1104, 1105, 1106, 1107, 1108, 1109, 678, 679, 1110, 987, 988, 989, 641, 299, 300, 1111, 936, 937, 938, 637, 639, 1112, 1113, 1114, 1115, 1116, 1117, 964, 965, 966, 638, 640, 1118, 968, 969, 970, 54, 1866, 1867, 1868, 1869, 1870, 1871, 1872, 1873, 1874, 1875, 1876, 1986, 1987, 1988, 1989, 1990, 1991, 1992, 2093, 2094, 2095, 2096, 2097, 2098, 2099, 2100, 2101, 2102, 2103, 2104, 2105, 2106, 2107] (by decide +kernel) (by decide +kernel)) (goodIn_sub (fun _ h => List.mem_append_right _ h) (by decide +kernel))) (goodIn_sub (fun _ h => List.mem_append_left _ (List.mem_append_left _ (List.mem_append_left _ (List.mem_append_right _ h)))) (by decide +kernel))
set_option maxRecDepth 20000 in
theorem gL_law_L_alike : GoodIn wsL_law (va_wsS RL 202 yL_alike wsL_alike) := goodIn_app (goodIn_of _ (by decide +kernel)) ggL_law_L_alike
set_option maxRecDepth 20000 in
theorem ggL_law_X12_alike : GoodIn wsL_law wsX12_alike := goodIn_r _ [1122, 265, 914, 915, 916, 5, 917, 733, 313, 314, 315, 316, 317, 318, 319, 944, 945, 946, 947, 184, 1123, 1124, 1125, 1126, 182, 183, 178, 181, 844, 845, 846, 975, 976, 977, 978, 180, 162, 1877, 1878, 1879, 1880, 1881, 1882, 1883, 1884, 1885, 1886, 1887, 1888, 1889, 1890, 1891, 1892, 1893, 1894, 1895, 1896, 1897, 1898, 1899, 1900, 1901, 1902, 1903, 1904, 1905, 1906, 1907, 1908, 1909, 1910, 1911, 1912, 1913, 1914, 1915, 1916, 1917, 1918, 1919, 1920, 1921, 1922, 1923, 1924, 1925, 1926, 1927, 1928, 1929, 1930, 1931, 1932, 1933, 1934, 1935, 1936, 1937, 1938, 1939, 1940, 1941, 1942, 1943, 1944, 1945, 1946, 1947, 1948, 1949, 1950, 1951, 1952, 1953, 1954, 1955, 1956, 1957, 1958, 1959, 1960, 1961, 1962, 1963, 1964, 1965, 1966, 1967, 1968, 1969, 1970, 1971, 1972, 1973, 1974, 1975, 1976, 1977, 1978, 1979, 1980, 1981, 1982, 1983, 1984, 1985] (by decide +kernel) (by decide +kernel)
set_option maxRecDepth 20000 in
theorem gL_law_X12_alike : GoodIn wsL_law (wsV RL 204 RX12 yX12_alike wsX12_alike) := goodIn_app (goodIn_of _ (by decide +kernel)) ggL_law_X12_alike
set_option maxHeartbeats 8000000 in
set_option maxRecDepth 100000 in
/-- the law: alike -/
theorem law_case_16 {p : Program} {l : Launch} {e : Env} {s : State} {m : MethodId} {below : List Frame} {meth : Method} {c : Code} {D : va_G} {cT : Nat → ClassId} {b : Nat} {xs : Nat → Int32} {A : Nat → Prop} (hst : l.stackTraces = false) (C0 : lw_At p s m meth c b 7 xs) (hA : ∀ q : Nat, s.heap.size ≤ q → A q) (hAl : ∀ q, A q → s.heap.size ≤ q) (hK : va_K D vwCl (TY cT) s) (hG : GW s) (hZ : GZ A s s.heap) {h0 : Nat} {m0 : Nat} {o9 : Nat} {x_studio : Nat} {x_script : Nat} {x_teller : Nat} {x_planner : Nat} {x_plan : Nat} {x_drifts : Nat} {x_floor : Nat} {x_trial : Nat} {x_tape : Nat} {s_puppets : Nat} {s_shots : Nat} {s_sounds : Nat} {s_rates : Nat} {s_dresses : Nat} {fs : List Value} (hfs : fs.length = 109) (hfs_0 : fs[0]? = some (.int 0)) (hfs_1 : fs[1]? = some (.int 0)) (hfs_38 : fs[38]? = some (.int 0)) {H : Heap} {locs : List Loc} (hP : va_P D vwCl [(h0, .inr (11, [.ref x_studio, .ref x_script, .ref x_teller, .ref x_planner, .ref x_plan, .ref x_drifts, .ref x_floor, .ref x_trial, .ref x_tape, .int 0, .int (-1)])), (x_studio, .inr (8, [.ref s_puppets, .int 0, .ref s_shots, .int 0, .ref s_sounds, .ref s_rates, .ref s_dresses])), (s_shots, .inl (cT 5, 12, .inr (.inr (.inr (.inr (fun _ => none)))))), (m0, .inr (12, fs))] H) (hD : va_D A [(h0, .inr (11, [.ref x_studio, .ref x_script, .ref x_teller, .ref x_planner, .ref x_plan, .ref x_drifts, .ref x_floor, .ref x_trial, .ref x_tape, .int 0, .int (-1)])), (x_studio, .inr (8, [.ref s_puppets, .int 0, .ref s_shots, .int 0, .ref s_sounds, .ref s_rates, .ref s_dresses])), (s_shots, .inl (cT 5, 12, .inr (.inr (.inr (.inr (fun _ => none)))))), (m0, .inr (12, fs))]) (hS : va_S A s.heap H locs) {ls : Array Slot} (hl : lv_has ls 7 [(4, .int 0), (3, .ref o9), (2, .ref m0), (1, .ref h0), (0, .ref b)]) : W p l e room_1 s m #[Value.ref b] below meth c H locs 215 539454 (lw_Z below #[Value.ref b] s) (F0 m 1313 ls []) := by
  obtain ⟨hx, hb, hr, hml, hown, hts0, hX, hbl, hlocks, hgv⟩ := id C0
  have hts : ∀ w ∈ wsL_law, w.before #[Value.ref b] s = true := fun w h => hts0 w (wsL_law_in w h)
  have hbA : ¬ A b := fun h => absurd (hAl b h) (Nat.not_le.mpr hbl)
  have hown : s.vm.findClass RL = some m.cls := hown
  have hb : c.code = cL_law := hb
  refine lv_aload_n hx hb dL_law_1313 rfl (lv_at hl 3 rfl) ?_
  refine lv_aload_n hx hb dL_law_1314 rfl (lv_at hl 4 rfl) ?_
  refine lv_iload hx hb dL_law_1315 (lv_at hl 0 rfl) ?_
  refine lv_iconst (v := 1) hx hb dL_law_1317 (by decide) ?_
  refine lv_iadd hx hb dL_law_1318 ?_
  refine lv_topi (fun z_1 ez_1 => ?_)
  obtain rfl : z_1 = 1 := ez_1.trans (by decide)
  refine va_sld hx hb hX hbl hbA hS (by unfold vp_in; decide) dL_law_1319 ?_
  refine lv_aload_n hx hb dL_law_1320 rfl (lv_at hl 4 rfl) ?_
  refine lv_iload hx hb dL_law_1321 (lv_at hl 0 rfl) ?_
  refine lv_iconst (v := 2) hx hb dL_law_1323 (by decide) ?_
  refine lv_iadd hx hb dL_law_1324 ?_
  refine lv_topi (fun z_2 ez_2 => ?_)
  obtain rfl : z_2 = 2 := ez_2.trans (by decide)
  refine va_sld hx hb hX hbl hbA hS (by unfold vp_in; decide) dL_law_1325 ?_
  refine lv_aload_n hx hb dL_law_1326 rfl (lv_at hl 4 rfl) ?_
  refine lv_iload hx hb dL_law_1327 (lv_at hl 0 rfl) ?_
  refine lv_iconst (v := 3) hx hb dL_law_1329 (by decide) ?_
  refine lv_iadd hx hb dL_law_1330 ?_
  refine lv_topi (fun z_3 ez_3 => ?_)
  obtain rfl : z_3 = 3 := ez_3.trans (by decide)
  refine va_sld hx hb hX hbl hbA hS (by unfold vp_in; decide) dL_law_1331 ?_
  refine lv_aload_n hx hb dL_law_1332 rfl (lv_at hl 1 rfl) ?_
  have hF := va_free (wc := [(h0, .inr (11, [.ref x_studio, .ref x_script, .ref x_teller, .ref x_planner, .ref x_plan, .ref x_drifts, .ref x_floor, .ref x_trial, .ref x_tape, .int 0, .int (-1)])), (x_studio, .inr (8, [.ref s_puppets, .int 0, .ref s_shots, .int 0, .ref s_sounds, .ref s_rates, .ref s_dresses])), (s_shots, .inl (cT 5, 12, .inr (.inr (.inr (.inr (fun _ => none))))))]) hD hS hA [0, 1, 2] rfl
  refine va_calli (vx_runSW (As := [.ref h0, .int (xs (Int32.toNatClampNeg 1)), .int (xs (Int32.toNatClampNeg 2)), .int (xs (Int32.toNatClampNeg 3)), .ref o9]) (rest := []) ⟨hx, hb, hml, hown, hts⟩ (c_L_alike l hst D cT h0 (xs (Int32.toNatClampNeg 1)) (xs (Int32.toNatClampNeg 2)) (xs (Int32.toNatClampNeg 3)) o9 x_studio x_script x_teller x_planner x_plan x_drifts x_floor x_trial x_tape s_puppets s_shots s_sounds s_rates s_dresses _ ) (vx_cwSW 5 hts gL_law_L_alike rfl rfl rfl (by decide +kernel) ⟨Nat.le_of_ble_eq_true rfl, Nat.le_of_ble_eq_true rfl⟩) (ps_z hP hD hK hG hZ hS hF [0, 1, 2] rfl rfl rfl) rfl rfl hl.1 rfl (lv_room (Nat.le_of_ble_eq_true rfl)) dL_law_1333 ⟨Nat.le_of_ble_eq_true rfl, Nat.le_of_ble_eq_true rfl⟩) hS (fun q _ h => hF q h) hF (fun r_4 uu9 tt9 H locs ht hvm wr_4 hB hz1 hk1 hS => ?_)
  obtain ⟨hP, hD⟩ := va_join (wr := [(m0, .inr (12, fs))]) (w1 := []) hP hD [0, 1, 2] [3] rfl rfl (by decide) (by decide) hk1 hF vp_nil vd_nil
  have hP : va_P D vwCl [(m0, .inr (12, fs))] _ := hP
  have hD : va_D A [(m0, .inr (12, fs))] := hD
  refine W.widen (k := 216) (n := 539460) (Nat.le_of_ble_eq_true rfl) (Nat.le_of_ble_eq_true rfl) ?_
  obtain rfl : r_4 = 1 := wr_4.trans (rfl)
  refine lv_istore (lv' := [(5, .int 1), (4, .int 0), (3, .ref o9), (2, .ref m0), (1, .ref h0), (0, .ref b)]) hx hb dL_law_1336 hl (by decide) rfl (fun ls hl => ?_)
  refine lv_aload_n hx hb dL_law_1338 rfl (lv_at hl 3 rfl) ?_
  refine lv_aload_n hx hb dL_law_1339 rfl (lv_at hl 5 rfl) ?_
  refine lv_iload hx hb dL_law_1340 (lv_at hl 1 rfl) ?_
  refine lv_iconst (v := 1) hx hb dL_law_1342 (by decide) ?_
  refine lv_iadd hx hb dL_law_1343 ?_
  refine lv_topi (fun z_5 ez_5 => ?_)
  obtain rfl : z_5 = 1 := ez_5.trans (by decide)
  refine va_sld hx hb hX hbl hbA hS (by unfold vp_in; decide) dL_law_1344 ?_
  refine lv_aload_n hx hb dL_law_1345 rfl (lv_at hl 5 rfl) ?_
  refine lv_iload hx hb dL_law_1346 (lv_at hl 1 rfl) ?_
  refine lv_iconst (v := 2) hx hb dL_law_1348 (by decide) ?_
  refine lv_iadd hx hb dL_law_1349 ?_
  refine lv_topi (fun z_6 ez_6 => ?_)
  obtain rfl : z_6 = 2 := ez_6.trans (by decide)
  refine va_sld hx hb hX hbl hbA hS (by unfold vp_in; decide) dL_law_1350 ?_
  refine lv_aload_n hx hb dL_law_1351 rfl (lv_at hl 5 rfl) ?_
  refine lv_iload hx hb dL_law_1352 (lv_at hl 1 rfl) ?_
  refine lv_iconst (v := 3) hx hb dL_law_1354 (by decide) ?_
  refine lv_iadd hx hb dL_law_1355 ?_
  refine lv_topi (fun z_7 ez_7 => ?_)
  obtain rfl : z_7 = 3 := ez_7.trans (by decide)
  refine va_sld hx hb hX hbl hbA hS (by unfold vp_in; decide) dL_law_1356 ?_
  have hF := va_free (wc := [(m0, .inr (12, fs))]) hD hS hA [0] rfl
  refine va_calli (va_runV (As := [.int (xs (Int32.toNatClampNeg 1)), .int (xs (Int32.toNatClampNeg 2)), .int (xs (Int32.toNatClampNeg 3))]) (rest := []) ⟨hx, hb, hml, hown, hts⟩ (c_X12_alike l D cT m0 (xs (Int32.toNatClampNeg 1)) (xs (Int32.toNatClampNeg 2)) (xs (Int32.toNatClampNeg 3)) fs 0 _ (hfs) (hfs_0) (hfs_1) (hfs_38)) (cwV 3 hts gL_law_X12_alike rfl rfl rfl (by decide +kernel) ⟨Nat.le_of_ble_eq_true rfl, Nat.le_of_ble_eq_true rfl⟩) (pv_w hP hD hK hG [0] rfl rfl rfl 0 rfl rfl) rfl rfl hl.1 rfl (lv_room (Nat.le_of_ble_eq_true rfl)) dL_law_1357 ⟨Nat.le_of_ble_eq_true rfl, Nat.le_of_ble_eq_true rfl⟩) hS (fun q _ h => hF q h) hF (fun r_8 uu9 tt9 H locs ht hvm wr_8 hB hz1 hk1 hS => ?_)
  obtain ⟨gs_9, hgs_9, hgs_9_0, hP1, hD1⟩ := hB
  rw [ht] at hP1
  obtain ⟨hP, hD⟩ := va_join (wr := []) (w1 := [(m0, .inr (12, gs_9))]) hP hD [0] [] rfl rfl (by decide) (by decide) hk1 hF hP1 hD1
  have hP : va_P D vwCl [(m0, .inr (12, gs_9))] _ := hP
  have hD : va_D A [(m0, .inr (12, gs_9))] := hD
  refine lv_istore (lv' := [(6, .int r_8), (5, .int 1), (4, .int 0), (3, .ref o9), (2, .ref m0), (1, .ref h0), (0, .ref b)]) hx hb dL_law_1360 hl (by decide) rfl (fun ls hl => ?_)
  refine lv_aload_n hx hb dL_law_1362 rfl (lv_at hl 4 rfl) ?_
  have hF := va_free (wc := [(m0, .inr (12, gs_9))]) hD hS hA [0] rfl
  refine va_calli (va_runV (As := []) (rest := []) ⟨hx, hb, hml, hown, hts⟩ (c_X12_thrown l D cT m0 gs_9 1 _ (hgs_9) (hgs_9_0)) (cwV 0 hts gL_law_X12_thrown rfl rfl rfl (by decide +kernel) ⟨Nat.le_of_ble_eq_true rfl, Nat.le_of_ble_eq_true rfl⟩) (pv_w hP hD hK hG [0] rfl rfl rfl 0 rfl rfl) rfl rfl hl.1 rfl (lv_room (Nat.le_of_ble_eq_true rfl)) dL_law_1363 ⟨Nat.le_of_ble_eq_true rfl, Nat.le_of_ble_eq_true rfl⟩) hS (fun q _ h => hF q h) hF (fun r_12 uu9 tt9 H locs ht hvm wr_12 hB hz1 hk1 hS => ?_)
  obtain ⟨hP1, hD1⟩ := hB
  rw [ht] at hP1
  obtain ⟨hP, hD⟩ := va_join (wr := []) (w1 := [(m0, .inr (12, gs_9))]) hP hD [0] [] rfl rfl (by decide) (by decide) hk1 hF hP1 hD1
  have hP : va_P D vwCl [(m0, .inr (12, gs_9))] _ := hP
  have hD : va_D A [(m0, .inr (12, gs_9))] := hD
  obtain rfl : r_12 = 1 := wr_12.trans (rfl)
  refine lv_iload hx hb dL_law_1366 (lv_at hl 1 rfl) ?_
  refine lv_icmp_eq (tgt := 1373) hx hb dL_law_1368 (by decide) (fun _ => ?_) (fun c9 => absurd c9 (by decide))
  refine lv_iload hx hb dL_law_1373 (lv_at hl 1 rfl) ?_
  refine lv_if_ne (tgt := 1397) hx hb dL_law_1375 (by decide) (fun _ => ?_) (fun c9 => absurd c9 (by decide))
  refine lv_goto (tgt := 3043) hx hb dL_law_1397 (by decide) ?_
  exact law_end C0 hA hAl hS (lv_sub hl [2, 6] rfl) (Nat.le_of_ble_eq_true rfl) (Nat.le_of_ble_eq_true rfl)
theorem dL_law_1400 : decode cL_law 1400 = .ok (.aload_n 1, 1) := by decide +kernel
theorem dL_law_1401 : decode cL_law 1401 = .ok (.aload_n 0, 1) := by decide +kernel
theorem dL_law_1402 : decode cL_law 1402 = .ok (.iload 4, 2) := by decide +kernel
theorem dL_law_1404 : decode cL_law 1404 = .ok (.iconst 1, 1) := by decide +kernel
theorem dL_law_1405 : decode cL_law 1405 = .ok (.iadd, 1) := by decide +kernel
theorem dL_law_1406 : decode cL_law 1406 = .ok (.iaload, 1) := by decide +kernel
theorem dL_law_1407 : decode cL_law 1407 = .ok (.aload_n 0, 1) := by decide +kernel
theorem dL_law_1408 : decode cL_law 1408 = .ok (.iload 4, 2) := by decide +kernel
theorem dL_law_1410 : decode cL_law 1410 = .ok (.iconst 2, 1) := by decide +kernel
theorem dL_law_1411 : decode cL_law 1411 = .ok (.iadd, 1) := by decide +kernel
theorem dL_law_1412 : decode cL_law 1412 = .ok (.iaload, 1) := by decide +kernel
theorem dL_law_1413 : decode cL_law 1413 = .ok (.aload_n 0, 1) := by decide +kernel
theorem dL_law_1414 : decode cL_law 1414 = .ok (.iload 4, 2) := by decide +kernel
theorem dL_law_1416 : decode cL_law 1416 = .ok (.iconst 3, 1) := by decide +kernel
theorem dL_law_1417 : decode cL_law 1417 = .ok (.iadd, 1) := by decide +kernel
theorem dL_law_1418 : decode cL_law 1418 = .ok (.iaload, 1) := by decide +kernel
theorem dL_law_1419 : decode cL_law 1419 = .ok (.aload_n 3, 1) := by decide +kernel
theorem dL_law_1420 : decode cL_law 1420 = .ok (.invokestatic 205, 3) := by decide +kernel
theorem dL_law_1423 : decode cL_law 1423 = .ok (.istore 5, 2) := by decide +kernel
theorem dL_law_1425 : decode cL_law 1425 = .ok (.aload_n 2, 1) := by decide +kernel
theorem dL_law_1426 : decode cL_law 1426 = .ok (.aload_n 0, 1) := by decide +kernel
theorem dL_law_1427 : decode cL_law 1427 = .ok (.iload 4, 2) := by decide +kernel
theorem dL_law_1429 : decode cL_law 1429 = .ok (.iconst 1, 1) := by decide +kernel
theorem dL_law_1430 : decode cL_law 1430 = .ok (.iadd, 1) := by decide +kernel
theorem dL_law_1431 : decode cL_law 1431 = .ok (.iaload, 1) := by decide +kernel
theorem dL_law_1432 : decode cL_law 1432 = .ok (.aload_n 0, 1) := by decide +kernel
theorem dL_law_1433 : decode cL_law 1433 = .ok (.iload 4, 2) := by decide +kernel
theorem dL_law_1435 : decode cL_law 1435 = .ok (.iconst 2, 1) := by decide +kernel
theorem dL_law_1436 : decode cL_law 1436 = .ok (.iadd, 1) := by decide +kernel
theorem dL_law_1437 : decode cL_law 1437 = .ok (.iaload, 1) := by decide +kernel
theorem dL_law_1438 : decode cL_law 1438 = .ok (.aload_n 0, 1) := by decide +kernel
theorem dL_law_1439 : decode cL_law 1439 = .ok (.iload 4, 2) := by decide +kernel
theorem dL_law_1441 : decode cL_law 1441 = .ok (.iconst 3, 1) := by decide +kernel
theorem dL_law_1442 : decode cL_law 1442 = .ok (.iadd, 1) := by decide +kernel
theorem dL_law_1443 : decode cL_law 1443 = .ok (.iaload, 1) := by decide +kernel
theorem dL_law_1444 : decode cL_law 1444 = .ok (.invokevirtual 207, 3) := by decide +kernel
theorem dL_law_1447 : decode cL_law 1447 = .ok (.istore 6, 2) := by decide +kernel
theorem dL_law_1449 : decode cL_law 1449 = .ok (.aload_n 2, 1) := by decide +kernel
theorem dL_law_1450 : decode cL_law 1450 = .ok (.invokevirtual 149, 3) := by decide +kernel
theorem dL_law_1453 : decode cL_law 1453 = .ok (.iload 5, 2) := by decide +kernel
theorem dL_law_1455 : decode cL_law 1455 = .ok (.if_icmp .eq 5, 3) := by decide +kernel
theorem dL_law_1460 : decode cL_law 1460 = .ok (.iload 5, 2) := by decide +kernel
theorem dL_law_1462 : decode cL_law 1462 = .ok (.ifCond .ne 15, 3) := by decide +kernel
theorem dL_law_1477 : decode cL_law 1477 = .ok (.goto 1566, 3) := by decide +kernel
set_option maxRecDepth 20000 in
theorem ggL_law_L_swap : GoodIn wsL_law wsL_swap := goodIn_ca (goodIn_ca (goodIn_r _ [1129, 878, 271, 1130, 1131, 1132, 2, 1133, 887, 888, 889, 890, 891, 892, 16, 893, 894, 895, 15, 896, 52, 278, 279, 280, 281, 282, 283, 284, 285, 286, 287, 50, 1134, 1064, 1065, 602, 1066, 1067, 647, 648, 1135, 1136, 1137, 245, 1138, 292, 249, 1139, 1140, 1141, 1142, 1143, 1144, 1069, 1070, 1071, 250, 251, 1020, 932, 933, 934, 633, 299, 300, 935, 936, 937, 938, 637, 639, 1145, 1146, 1147, 1148, 1149, 1002, 1003, 1004, 642, 678, 679, 1150, 1010, 1011, 1012, 253, 1013, 1014, 1015, 1016, 1017, 1018, 254, 1019, 255, 252, 1151, 1152, 1153, 1154, 634, 1155, 636, 643, 1156, 1157, 1158, 1866, 1867, 1868, 1869, 1870, 1871, 1872, 1873, 1874, 1875, 1876, 1986, 1987, 1988, 1989, 1990, 1991, 1992, 2093, 2094, 2095, 2096, 2097, 2098, 2099, 2100, 2101, 2102, 2103, 2104, 2105, 2106, 2107, 2082, 2083, 2084, 2085, 2086, 2087, 2088, 2089, 2090, 2091, 2092] (by decide +kernel) (by decide +kernel)) (goodIn_sub (fun _ h => List.mem_append_right _ h) (by decide +kernel))) (goodIn_sub (fun _ h => List.mem_append_left _ (List.mem_append_left _ (List.mem_append_left _ (List.mem_append_right _ h)))) (by decide +kernel))
set_option maxRecDepth 20000 in
theorem gL_law_L_swap : GoodIn wsL_law (va_wsS RL 205 yL_swap wsL_swap) := goodIn_app (goodIn_of _ (by decide +kernel)) ggL_law_L_swap
set_option maxRecDepth 20000 in
theorem ggL_law_X12_swap : GoodIn wsL_law wsX12_swap := goodIn_r _ [1162, 265, 185, 184, 153, 155, 156, 178, 180, 182, 183, 186, 914, 915, 916, 5, 917, 733, 313, 314, 315, 316, 317, 318, 319, 309, 310, 311, 312, 266, 1163, 1164, 1165, 1166, 154, 948, 949, 950, 951, 844, 845, 846, 1025, 1026, 1027, 1028, 1029, 1030, 1031, 1032, 200, 201, 157, 158, 1033, 1034, 1035, 1036, 1037, 1038, 1039, 159, 160, 1167, 1168, 1169, 1877, 1878, 1879, 1880, 1881, 1882, 1883, 1884, 1885, 1886, 1887, 1888, 1889, 1890, 1891, 1892, 1893, 1894, 1895, 1896, 1897, 1898, 1899, 1900, 1901, 1902, 1903, 1904, 1905, 1906, 1907, 1908, 1909, 1910, 1911, 1912, 1913, 1914, 1915, 1916, 1917, 1918, 1919, 1920, 1921, 1922, 1923, 1924, 1925, 1926, 1927, 1928, 1929, 1930, 1931, 1932, 1933, 1934, 1935, 1936, 1937, 1938, 1939, 1940, 1941, 1942, 1943, 1944, 1945, 1946, 1947, 1948, 1949, 1950, 1951, 1952, 1953, 1954, 1955, 1956, 1957, 1958, 1959, 1960, 1961, 1962, 1963, 1964, 1965, 1966, 1967, 1968, 1969, 1970, 1971, 1972, 1973, 1974, 1975, 1976, 1977, 1978, 1979, 1980, 1981, 1982, 1983, 1984, 1985] (by decide +kernel) (by decide +kernel)
set_option maxRecDepth 20000 in
theorem gL_law_X12_swap : GoodIn wsL_law (wsV RL 207 RX12 yX12_swap wsX12_swap) := goodIn_app (goodIn_of _ (by decide +kernel)) ggL_law_X12_swap
set_option maxHeartbeats 8000000 in
set_option maxRecDepth 100000 in
/-- the law: swap -/
theorem law_case_17 {p : Program} {l : Launch} {e : Env} {s : State} {m : MethodId} {below : List Frame} {meth : Method} {c : Code} {D : va_G} {cT : Nat → ClassId} {b : Nat} {xs : Nat → Int32} {A : Nat → Prop} (hst : l.stackTraces = false) (C0 : lw_At p s m meth c b 7 xs) (hA : ∀ q : Nat, s.heap.size ≤ q → A q) (hAl : ∀ q, A q → s.heap.size ≤ q) (hK : va_K D vwCl (TY cT) s) (hG : GW s) (hZ : GZ A s s.heap) {h0 : Nat} {m0 : Nat} {o9 : Nat} {x_studio : Nat} {x_script : Nat} {x_teller : Nat} {x_planner : Nat} {x_plan : Nat} {x_drifts : Nat} {x_floor : Nat} {x_trial : Nat} {x_tape : Nat} {s_puppets : Nat} {s_shots : Nat} {s_sounds : Nat} {s_rates : Nat} {s_dresses : Nat} {fs : List Value} (hfs : fs.length = 109) (hfs_0 : fs[0]? = some (.int 0)) (hfs_1 : fs[1]? = some (.int 0)) (hfs_38 : fs[38]? = some (.int 0)) {H : Heap} {locs : List Loc} (hP : va_P D vwCl [(h0, .inr (11, [.ref x_studio, .ref x_script, .ref x_teller, .ref x_planner, .ref x_plan, .ref x_drifts, .ref x_floor, .ref x_trial, .ref x_tape, .int 0, .int (-1)])), (x_studio, .inr (8, [.ref s_puppets, .int 0, .ref s_shots, .int 0, .ref s_sounds, .ref s_rates, .ref s_dresses])), (s_shots, .inl (cT 5, 12, .inr (.inr (.inr (.inr (fun _ => none)))))), (m0, .inr (12, fs))] H) (hD : va_D A [(h0, .inr (11, [.ref x_studio, .ref x_script, .ref x_teller, .ref x_planner, .ref x_plan, .ref x_drifts, .ref x_floor, .ref x_trial, .ref x_tape, .int 0, .int (-1)])), (x_studio, .inr (8, [.ref s_puppets, .int 0, .ref s_shots, .int 0, .ref s_sounds, .ref s_rates, .ref s_dresses])), (s_shots, .inl (cT 5, 12, .inr (.inr (.inr (.inr (fun _ => none)))))), (m0, .inr (12, fs))]) (hS : va_S A s.heap H locs) {ls : Array Slot} (hl : lv_has ls 7 [(4, .int 0), (3, .ref o9), (2, .ref m0), (1, .ref h0), (0, .ref b)]) : W p l e room_1 s m #[Value.ref b] below meth c H locs 215 539454 (lw_Z below #[Value.ref b] s) (F0 m 1400 ls []) := by
  obtain ⟨hx, hb, hr, hml, hown, hts0, hX, hbl, hlocks, hgv⟩ := id C0
  have hts : ∀ w ∈ wsL_law, w.before #[Value.ref b] s = true := fun w h => hts0 w (wsL_law_in w h)
  have hbA : ¬ A b := fun h => absurd (hAl b h) (Nat.not_le.mpr hbl)
  have hown : s.vm.findClass RL = some m.cls := hown
  have hb : c.code = cL_law := hb
  refine lv_aload_n hx hb dL_law_1400 rfl (lv_at hl 3 rfl) ?_
  refine lv_aload_n hx hb dL_law_1401 rfl (lv_at hl 4 rfl) ?_
  refine lv_iload hx hb dL_law_1402 (lv_at hl 0 rfl) ?_
  refine lv_iconst (v := 1) hx hb dL_law_1404 (by decide) ?_
  refine lv_iadd hx hb dL_law_1405 ?_
  refine lv_topi (fun z_1 ez_1 => ?_)
  obtain rfl : z_1 = 1 := ez_1.trans (by decide)
  refine va_sld hx hb hX hbl hbA hS (by unfold vp_in; decide) dL_law_1406 ?_
  refine lv_aload_n hx hb dL_law_1407 rfl (lv_at hl 4 rfl) ?_
  refine lv_iload hx hb dL_law_1408 (lv_at hl 0 rfl) ?_
  refine lv_iconst (v := 2) hx hb dL_law_1410 (by decide) ?_
  refine lv_iadd hx hb dL_law_1411 ?_
  refine lv_topi (fun z_2 ez_2 => ?_)
  obtain rfl : z_2 = 2 := ez_2.trans (by decide)
  refine va_sld hx hb hX hbl hbA hS (by unfold vp_in; decide) dL_law_1412 ?_
  refine lv_aload_n hx hb dL_law_1413 rfl (lv_at hl 4 rfl) ?_
  refine lv_iload hx hb dL_law_1414 (lv_at hl 0 rfl) ?_
  refine lv_iconst (v := 3) hx hb dL_law_1416 (by decide) ?_
  refine lv_iadd hx hb dL_law_1417 ?_
  refine lv_topi (fun z_3 ez_3 => ?_)
  obtain rfl : z_3 = 3 := ez_3.trans (by decide)
  refine va_sld hx hb hX hbl hbA hS (by unfold vp_in; decide) dL_law_1418 ?_
  refine lv_aload_n hx hb dL_law_1419 rfl (lv_at hl 1 rfl) ?_
  have hF := va_free (wc := [(h0, .inr (11, [.ref x_studio, .ref x_script, .ref x_teller, .ref x_planner, .ref x_plan, .ref x_drifts, .ref x_floor, .ref x_trial, .ref x_tape, .int 0, .int (-1)])), (x_studio, .inr (8, [.ref s_puppets, .int 0, .ref s_shots, .int 0, .ref s_sounds, .ref s_rates, .ref s_dresses])), (s_shots, .inl (cT 5, 12, .inr (.inr (.inr (.inr (fun _ => none))))))]) hD hS hA [0, 1, 2] rfl
  refine va_calli (vx_runSW (As := [.ref h0, .int (xs (Int32.toNatClampNeg 1)), .int (xs (Int32.toNatClampNeg 2)), .int (xs (Int32.toNatClampNeg 3)), .ref o9]) (rest := []) ⟨hx, hb, hml, hown, hts⟩ (c_L_swap l hst D cT h0 (xs (Int32.toNatClampNeg 1)) (xs (Int32.toNatClampNeg 2)) (xs (Int32.toNatClampNeg 3)) o9 x_studio x_script x_teller x_planner x_plan x_drifts x_floor x_trial x_tape s_puppets s_shots s_sounds s_rates s_dresses _ ) (vx_cwSW 5 hts gL_law_L_swap rfl rfl rfl (by decide +kernel) ⟨Nat.le_of_ble_eq_true rfl, Nat.le_of_ble_eq_true rfl⟩) (ps_z hP hD hK hG hZ hS hF [0, 1, 2] rfl rfl rfl) rfl rfl hl.1 rfl (lv_room (Nat.le_of_ble_eq_true rfl)) dL_law_1420 ⟨Nat.le_of_ble_eq_true rfl, Nat.le_of_ble_eq_true rfl⟩) hS (fun q _ h => hF q h) hF (fun r_4 uu9 tt9 H locs ht hvm wr_4 hB hz1 hk1 hS => ?_)
  obtain ⟨hP, hD⟩ := va_join (wr := [(m0, .inr (12, fs))]) (w1 := []) hP hD [0, 1, 2] [3] rfl rfl (by decide) (by decide) hk1 hF vp_nil vd_nil
  have hP : va_P D vwCl [(m0, .inr (12, fs))] _ := hP
  have hD : va_D A [(m0, .inr (12, fs))] := hD
  refine W.widen (k := 216) (n := 539460) (Nat.le_of_ble_eq_true rfl) (Nat.le_of_ble_eq_true rfl) ?_
  obtain rfl : r_4 = 1 := wr_4.trans (rfl)
  refine lv_istore (lv' := [(5, .int 1), (4, .int 0), (3, .ref o9), (2, .ref m0), (1, .ref h0), (0, .ref b)]) hx hb dL_law_1423 hl (by decide) rfl (fun ls hl => ?_)
  refine lv_aload_n hx hb dL_law_1425 rfl (lv_at hl 3 rfl) ?_
  refine lv_aload_n hx hb dL_law_1426 rfl (lv_at hl 5 rfl) ?_
  refine lv_iload hx hb dL_law_1427 (lv_at hl 1 rfl) ?_
  refine lv_iconst (v := 1) hx hb dL_law_1429 (by decide) ?_
  refine lv_iadd hx hb dL_law_1430 ?_
  refine lv_topi (fun z_5 ez_5 => ?_)
  obtain rfl : z_5 = 1 := ez_5.trans (by decide)
  refine va_sld hx hb hX hbl hbA hS (by unfold vp_in; decide) dL_law_1431 ?_
  refine lv_aload_n hx hb dL_law_1432 rfl (lv_at hl 5 rfl) ?_
  refine lv_iload hx hb dL_law_1433 (lv_at hl 1 rfl) ?_
  refine lv_iconst (v := 2) hx hb dL_law_1435 (by decide) ?_
  refine lv_iadd hx hb dL_law_1436 ?_
  refine lv_topi (fun z_6 ez_6 => ?_)
  obtain rfl : z_6 = 2 := ez_6.trans (by decide)
  refine va_sld hx hb hX hbl hbA hS (by unfold vp_in; decide) dL_law_1437 ?_
  refine lv_aload_n hx hb dL_law_1438 rfl (lv_at hl 5 rfl) ?_
  refine lv_iload hx hb dL_law_1439 (lv_at hl 1 rfl) ?_
  refine lv_iconst (v := 3) hx hb dL_law_1441 (by decide) ?_
  refine lv_iadd hx hb dL_law_1442 ?_
  refine lv_topi (fun z_7 ez_7 => ?_)
  obtain rfl : z_7 = 3 := ez_7.trans (by decide)
  refine va_sld hx hb hX hbl hbA hS (by unfold vp_in; decide) dL_law_1443 ?_
  have hF := va_free (wc := [(m0, .inr (12, fs))]) hD hS hA [0] rfl
  refine va_calli (va_runV (As := [.int (xs (Int32.toNatClampNeg 1)), .int (xs (Int32.toNatClampNeg 2)), .int (xs (Int32.toNatClampNeg 3))]) (rest := []) ⟨hx, hb, hml, hown, hts⟩ (c_X12_swap l D cT m0 (xs (Int32.toNatClampNeg 1)) (xs (Int32.toNatClampNeg 2)) (xs (Int32.toNatClampNeg 3)) fs 0 _ (hfs) (hfs_0) (hfs_1) (hfs_38)) (cwV 3 hts gL_law_X12_swap rfl rfl rfl (by decide +kernel) ⟨Nat.le_of_ble_eq_true rfl, Nat.le_of_ble_eq_true rfl⟩) (pv_w hP hD hK hG [0] rfl rfl rfl 0 rfl rfl) rfl rfl hl.1 rfl (lv_room (Nat.le_of_ble_eq_true rfl)) dL_law_1444 ⟨Nat.le_of_ble_eq_true rfl, Nat.le_of_ble_eq_true rfl⟩) hS (fun q _ h => hF q h) hF (fun r_8 uu9 tt9 H locs ht hvm wr_8 hB hz1 hk1 hS => ?_)
  obtain ⟨gs_9, hgs_9, hgs_9_0, hP1, hD1⟩ := hB
  rw [ht] at hP1
  obtain ⟨hP, hD⟩ := va_join (wr := []) (w1 := [(m0, .inr (12, gs_9))]) hP hD [0] [] rfl rfl (by decide) (by decide) hk1 hF hP1 hD1
  have hP : va_P D vwCl [(m0, .inr (12, gs_9))] _ := hP
  have hD : va_D A [(m0, .inr (12, gs_9))] := hD
  refine lv_istore (lv' := [(6, .int r_8), (5, .int 1), (4, .int 0), (3, .ref o9), (2, .ref m0), (1, .ref h0), (0, .ref b)]) hx hb dL_law_1447 hl (by decide) rfl (fun ls hl => ?_)
  refine lv_aload_n hx hb dL_law_1449 rfl (lv_at hl 4 rfl) ?_
  have hF := va_free (wc := [(m0, .inr (12, gs_9))]) hD hS hA [0] rfl
  refine va_calli (va_runV (As := []) (rest := []) ⟨hx, hb, hml, hown, hts⟩ (c_X12_thrown l D cT m0 gs_9 1 _ (hgs_9) (hgs_9_0)) (cwV 0 hts gL_law_X12_thrown rfl rfl rfl (by decide +kernel) ⟨Nat.le_of_ble_eq_true rfl, Nat.le_of_ble_eq_true rfl⟩) (pv_w hP hD hK hG [0] rfl rfl rfl 0 rfl rfl) rfl rfl hl.1 rfl (lv_room (Nat.le_of_ble_eq_true rfl)) dL_law_1450 ⟨Nat.le_of_ble_eq_true rfl, Nat.le_of_ble_eq_true rfl⟩) hS (fun q _ h => hF q h) hF (fun r_12 uu9 tt9 H locs ht hvm wr_12 hB hz1 hk1 hS => ?_)
  obtain ⟨hP1, hD1⟩ := hB
  rw [ht] at hP1
  obtain ⟨hP, hD⟩ := va_join (wr := []) (w1 := [(m0, .inr (12, gs_9))]) hP hD [0] [] rfl rfl (by decide) (by decide) hk1 hF hP1 hD1
  have hP : va_P D vwCl [(m0, .inr (12, gs_9))] _ := hP
  have hD : va_D A [(m0, .inr (12, gs_9))] := hD
  obtain rfl : r_12 = 1 := wr_12.trans (rfl)
  refine lv_iload hx hb dL_law_1453 (lv_at hl 1 rfl) ?_
  refine lv_icmp_eq (tgt := 1460) hx hb dL_law_1455 (by decide) (fun _ => ?_) (fun c9 => absurd c9 (by decide))
  refine lv_iload hx hb dL_law_1460 (lv_at hl 1 rfl) ?_
  refine lv_if_ne (tgt := 1477) hx hb dL_law_1462 (by decide) (fun _ => ?_) (fun c9 => absurd c9 (by decide))
  refine lv_goto (tgt := 3043) hx hb dL_law_1477 (by decide) ?_
  exact law_end C0 hA hAl hS (lv_sub hl [2, 6] rfl) (Nat.le_of_ble_eq_true rfl) (Nat.le_of_ble_eq_true rfl)
theorem dL_law_1480 : decode cL_law 1480 = .ok (.aload_n 1, 1) := by decide +kernel
theorem dL_law_1481 : decode cL_law 1481 = .ok (.aload_n 0, 1) := by decide +kernel
theorem dL_law_1482 : decode cL_law 1482 = .ok (.iload 4, 2) := by decide +kernel
theorem dL_law_1484 : decode cL_law 1484 = .ok (.iconst 1, 1) := by decide +kernel
theorem dL_law_1485 : decode cL_law 1485 = .ok (.iadd, 1) := by decide +kernel
theorem dL_law_1486 : decode cL_law 1486 = .ok (.iaload, 1) := by decide +kernel
theorem dL_law_1487 : decode cL_law 1487 = .ok (.aload_n 0, 1) := by decide +kernel
theorem dL_law_1488 : decode cL_law 1488 = .ok (.iload 4, 2) := by decide +kernel
theorem dL_law_1490 : decode cL_law 1490 = .ok (.iconst 2, 1) := by decide +kernel
theorem dL_law_1491 : decode cL_law 1491 = .ok (.iadd, 1) := by decide +kernel
theorem dL_law_1492 : decode cL_law 1492 = .ok (.iaload, 1) := by decide +kernel
theorem dL_law_1493 : decode cL_law 1493 = .ok (.aload_n 0, 1) := by decide +kernel
theorem dL_law_1494 : decode cL_law 1494 = .ok (.iload 4, 2) := by decide +kernel
theorem dL_law_1496 : decode cL_law 1496 = .ok (.iconst 3, 1) := by decide +kernel
theorem dL_law_1497 : decode cL_law 1497 = .ok (.iadd, 1) := by decide +kernel
theorem dL_law_1498 : decode cL_law 1498 = .ok (.iaload, 1) := by decide +kernel
theorem dL_law_1499 : decode cL_law 1499 = .ok (.aload_n 3, 1) := by decide +kernel
theorem dL_law_1500 : decode cL_law 1500 = .ok (.invokestatic 208, 3) := by decide +kernel
theorem dL_law_1503 : decode cL_law 1503 = .ok (.istore 5, 2) := by decide +kernel
theorem dL_law_1505 : decode cL_law 1505 = .ok (.aload_n 2, 1) := by decide +kernel
theorem dL_law_1506 : decode cL_law 1506 = .ok (.aload_n 0, 1) := by decide +kernel
theorem dL_law_1507 : decode cL_law 1507 = .ok (.iload 4, 2) := by decide +kernel
theorem dL_law_1509 : decode cL_law 1509 = .ok (.iconst 1, 1) := by decide +kernel
theorem dL_law_1510 : decode cL_law 1510 = .ok (.iadd, 1) := by decide +kernel
theorem dL_law_1511 : decode cL_law 1511 = .ok (.iaload, 1) := by decide +kernel
theorem dL_law_1512 : decode cL_law 1512 = .ok (.aload_n 0, 1) := by decide +kernel
theorem dL_law_1513 : decode cL_law 1513 = .ok (.iload 4, 2) := by decide +kernel
theorem dL_law_1515 : decode cL_law 1515 = .ok (.iconst 2, 1) := by decide +kernel
theorem dL_law_1516 : decode cL_law 1516 = .ok (.iadd, 1) := by decide +kernel
theorem dL_law_1517 : decode cL_law 1517 = .ok (.iaload, 1) := by decide +kernel
theorem dL_law_1518 : decode cL_law 1518 = .ok (.aload_n 0, 1) := by decide +kernel
theorem dL_law_1519 : decode cL_law 1519 = .ok (.iload 4, 2) := by decide +kernel
theorem dL_law_1521 : decode cL_law 1521 = .ok (.iconst 3, 1) := by decide +kernel
theorem dL_law_1522 : decode cL_law 1522 = .ok (.iadd, 1) := by decide +kernel
theorem dL_law_1523 : decode cL_law 1523 = .ok (.iaload, 1) := by decide +kernel
theorem dL_law_1524 : decode cL_law 1524 = .ok (.invokevirtual 210, 3) := by decide +kernel
theorem dL_law_1527 : decode cL_law 1527 = .ok (.istore 6, 2) := by decide +kernel
theorem dL_law_1529 : decode cL_law 1529 = .ok (.aload_n 2, 1) := by decide +kernel
theorem dL_law_1530 : decode cL_law 1530 = .ok (.invokevirtual 149, 3) := by decide +kernel
theorem dL_law_1533 : decode cL_law 1533 = .ok (.iload 5, 2) := by decide +kernel
theorem dL_law_1535 : decode cL_law 1535 = .ok (.if_icmp .eq 5, 3) := by decide +kernel
theorem dL_law_1540 : decode cL_law 1540 = .ok (.iload 5, 2) := by decide +kernel
theorem dL_law_1542 : decode cL_law 1542 = .ok (.ifCond .ne 15, 3) := by decide +kernel
theorem dL_law_1545 : decode cL_law 1545 = .ok (.aload_n 3, 1) := by decide +kernel
theorem dL_law_1546 : decode cL_law 1546 = .ok (.iconst 0, 1) := by decide +kernel
theorem dL_law_1547 : decode cL_law 1547 = .ok (.laload, 1) := by decide +kernel
theorem dL_law_1548 : decode cL_law 1548 = .ok (.iload 6, 2) := by decide +kernel
theorem dL_law_1550 : decode cL_law 1550 = .ok (.i2l, 1) := by decide +kernel
theorem dL_law_1551 : decode cL_law 1551 = .ok (.lcmp, 1) := by decide +kernel
theorem dL_law_1552 : decode cL_law 1552 = .ok (.ifCond .eq 5, 3) := by decide +kernel
theorem dL_law_1557 : decode cL_law 1557 = .ok (.goto 1486, 3) := by decide +kernel
set_option maxRecDepth 20000 in
theorem ggL_law_L_set : GoodIn wsL_law wsL_set := goodIn_ca (goodIn_r _ [1172, 272, 1173, 1174, 1175, 2, 1176, 296, 297, 16, 1177, 1178, 886, 298, 299, 300, 293, 294, 295, 357, 358, 359, 893, 894, 895, 15, 896, 52, 1866, 1867, 1868, 1869, 1870, 1871, 1872, 1873, 1874, 1875, 1876, 1986, 1987, 1988, 1989, 1990, 1991, 1992, 2093, 2094, 2095, 2096, 2097, 2098, 2099, 2100, 2101, 2102, 2103, 2104, 2105, 2106, 2107] (by decide +kernel) (by decide +kernel)) (goodIn_sub (fun _ h => List.mem_append_left _ (List.mem_append_left _ (List.mem_append_right _ h))) (by decide +kernel))
set_option maxRecDepth 20000 in
theorem gL_law_L_set : GoodIn wsL_law (va_wsS RL 208 yL_set wsL_set) := goodIn_app (goodIn_of _ (by decide +kernel)) ggL_law_L_set
set_option maxRecDepth 20000 in
theorem ggL_law_X12_set : GoodIn wsL_law wsX12_set := goodIn_r _ [1182, 265, 733, 202, 203, 187, 313, 314, 5, 315, 316, 317, 318, 319, 1877, 1878, 1879, 1880, 1881, 1882, 1883, 1884, 1885, 1886, 1887, 1888, 1889, 1890, 1891, 1892, 1893, 1894, 1895, 1896, 1897, 1898, 1899, 1900, 1901, 1902, 1903, 1904, 1905, 1906, 1907, 1908, 1909, 1910, 1911, 1912, 1913, 1914, 1915, 1916, 1917, 1918, 1919, 1920, 1921, 1922, 1923, 1924, 1925, 1926, 1927, 1928, 1929, 1930, 1931, 1932, 1933, 1934, 1935, 1936, 1937, 1938, 1939, 1940, 1941, 1942, 1943, 1944, 1945, 1946, 1947, 1948, 1949, 1950, 1951, 1952, 1953, 1954, 1955, 1956, 1957, 1958, 1959, 1960, 1961, 1962, 1963, 1964, 1965, 1966, 1967, 1968, 1969, 1970, 1971, 1972, 1973, 1974, 1975, 1976, 1977, 1978, 1979, 1980, 1981, 1982, 1983, 1984, 1985] (by decide +kernel) (by decide +kernel)
set_option maxRecDepth 20000 in
theorem gL_law_X12_set : GoodIn wsL_law (wsV RL 210 RX12 yX12_set wsX12_set) := goodIn_app (goodIn_of _ (by decide +kernel)) ggL_law_X12_set
set_option maxHeartbeats 8000000 in
set_option maxRecDepth 100000 in
/-- the law: set -/
theorem law_case_18 {p : Program} {l : Launch} {e : Env} {s : State} {m : MethodId} {below : List Frame} {meth : Method} {c : Code} {D : va_G} {cT : Nat → ClassId} {b : Nat} {xs : Nat → Int32} {A : Nat → Prop} (hst : l.stackTraces = false) (C0 : lw_At p s m meth c b 7 xs) (hA : ∀ q : Nat, s.heap.size ≤ q → A q) (hAl : ∀ q, A q → s.heap.size ≤ q) (hK : va_K D vwCl (TY cT) s) (hG : GW s) (hZ : GZ A s s.heap) {h0 : Nat} {m0 : Nat} {o9 : Nat} {x_studio : Nat} {x_script : Nat} {x_teller : Nat} {x_planner : Nat} {x_plan : Nat} {x_drifts : Nat} {x_floor : Nat} {x_trial : Nat} {x_tape : Nat} {s_puppets : Nat} {s_shots : Nat} {s_sounds : Nat} {s_rates : Nat} {s_dresses : Nat} {fra : Nat → Int32} {fdr : Nat → Int32} {fs : List Value} {m_rate : Nat} {m_dress : Nat} {mra : Nat → Int32} {mdr : Nat → Int32} {fo : Nat → Int64} (q0 : ∀ k, k < 3 → fra k = 10) (q1 : ∀ k, k < 8 → fdr k = 1) (q2 : ∀ k, k < 3 → mra k = 10) (q3 : ∀ k, k < 8 → mdr k = 1) (hfs : fs.length = 109) (hfs_0 : fs[0]? = some (.int 0)) (hfs_38 : fs[38]? = some (.int 0)) (hfs_64 : fs[64]? = some (.ref m_rate)) (hfs_65 : fs[65]? = some (.ref m_dress)) {H : Heap} {locs : List Loc} (hP : va_P D vwCl [(h0, .inr (11, [.ref x_studio, .ref x_script, .ref x_teller, .ref x_planner, .ref x_plan, .ref x_drifts, .ref x_floor, .ref x_trial, .ref x_tape, .int 0, .int (-1)])), (x_studio, .inr (8, [.ref s_puppets, .int 0, .ref s_shots, .int 0, .ref s_sounds, .ref s_rates, .ref s_dresses])), (s_shots, .inl (cT 5, 12, .inr (.inr (.inr (.inr (fun _ => none)))))), (s_rates, .inl (cT 0, 3, .inl fra)), (s_dresses, .inl (cT 0, 8, .inl fdr)), (m0, .inr (12, fs)), (m_rate, .inl (cT 0, 3, .inl mra)), (m_dress, .inl (cT 0, 8, .inl mdr)), (o9, .inl (cT 2, 1, .inr (.inl fo)))] H) (hD : va_D A [(h0, .inr (11, [.ref x_studio, .ref x_script, .ref x_teller, .ref x_planner, .ref x_plan, .ref x_drifts, .ref x_floor, .ref x_trial, .ref x_tape, .int 0, .int (-1)])), (x_studio, .inr (8, [.ref s_puppets, .int 0, .ref s_shots, .int 0, .ref s_sounds, .ref s_rates, .ref s_dresses])), (s_shots, .inl (cT 5, 12, .inr (.inr (.inr (.inr (fun _ => none)))))), (s_rates, .inl (cT 0, 3, .inl fra)), (s_dresses, .inl (cT 0, 8, .inl fdr)), (m0, .inr (12, fs)), (m_rate, .inl (cT 0, 3, .inl mra)), (m_dress, .inl (cT 0, 8, .inl mdr)), (o9, .inl (cT 2, 1, .inr (.inl fo)))]) (hS : va_S A s.heap H locs) {ls : Array Slot} (hl : lv_has ls 7 [(4, .int 0), (3, .ref o9), (2, .ref m0), (1, .ref h0), (0, .ref b)]) : W p l e room_1 s m #[Value.ref b] below meth c H locs 215 539454 (lw_Z below #[Value.ref b] s) (F0 m 1480 ls []) := by
  obtain ⟨hx, hb, hr, hml, hown, hts0, hX, hbl, hlocks, hgv⟩ := id C0
  have hts : ∀ w ∈ wsL_law, w.before #[Value.ref b] s = true := fun w h => hts0 w (wsL_law_in w h)
  have hbA : ¬ A b := fun h => absurd (hAl b h) (Nat.not_le.mpr hbl)
  have hown : s.vm.findClass RL = some m.cls := hown
  have hb : c.code = cL_law := hb
  refine lv_aload_n hx hb dL_law_1480 rfl (lv_at hl 3 rfl) ?_
  refine lv_aload_n hx hb dL_law_1481 rfl (lv_at hl 4 rfl) ?_
  refine lv_iload hx hb dL_law_1482 (lv_at hl 0 rfl) ?_
  refine lv_iconst (v := 1) hx hb dL_law_1484 (by decide) ?_
  refine lv_iadd hx hb dL_law_1485 ?_
  refine lv_topi (fun z_1 ez_1 => ?_)
  obtain rfl : z_1 = 1 := ez_1.trans (by decide)
  refine va_sld hx hb hX hbl hbA hS (by unfold vp_in; decide) dL_law_1486 ?_
  refine lv_aload_n hx hb dL_law_1487 rfl (lv_at hl 4 rfl) ?_
  refine lv_iload hx hb dL_law_1488 (lv_at hl 0 rfl) ?_
  refine lv_iconst (v := 2) hx hb dL_law_1490 (by decide) ?_
  refine lv_iadd hx hb dL_law_1491 ?_
  refine lv_topi (fun z_2 ez_2 => ?_)
  obtain rfl : z_2 = 2 := ez_2.trans (by decide)
  refine va_sld hx hb hX hbl hbA hS (by unfold vp_in; decide) dL_law_1492 ?_
  refine lv_aload_n hx hb dL_law_1493 rfl (lv_at hl 4 rfl) ?_
  refine lv_iload hx hb dL_law_1494 (lv_at hl 0 rfl) ?_
  refine lv_iconst (v := 3) hx hb dL_law_1496 (by decide) ?_
  refine lv_iadd hx hb dL_law_1497 ?_
  refine lv_topi (fun z_3 ez_3 => ?_)
  obtain rfl : z_3 = 3 := ez_3.trans (by decide)
  refine va_sld hx hb hX hbl hbA hS (by unfold vp_in; decide) dL_law_1498 ?_
  refine lv_aload_n hx hb dL_law_1499 rfl (lv_at hl 1 rfl) ?_
  have hF := va_free (wc := [(h0, .inr (11, [.ref x_studio, .ref x_script, .ref x_teller, .ref x_planner, .ref x_plan, .ref x_drifts, .ref x_floor, .ref x_trial, .ref x_tape, .int 0, .int (-1)])), (x_studio, .inr (8, [.ref s_puppets, .int 0, .ref s_shots, .int 0, .ref s_sounds, .ref s_rates, .ref s_dresses])), (s_shots, .inl (cT 5, 12, .inr (.inr (.inr (.inr (fun _ => none)))))), (s_rates, .inl (cT 0, 3, .inl fra)), (s_dresses, .inl (cT 0, 8, .inl fdr)), (o9, .inl (cT 2, 1, .inr (.inl fo)))]) hD hS hA [0, 1, 2, 3, 4, 8] rfl
  refine va_calli (vx_runSW (As := [.ref h0, .int (xs (Int32.toNatClampNeg 1)), .int (xs (Int32.toNatClampNeg 2)), .int (xs (Int32.toNatClampNeg 3)), .ref o9]) (rest := []) ⟨hx, hb, hml, hown, hts⟩ (c_L_set l hst D cT h0 (xs (Int32.toNatClampNeg 1)) (xs (Int32.toNatClampNeg 2)) (xs (Int32.toNatClampNeg 3)) o9 x_studio x_script x_teller x_planner x_plan x_drifts x_floor x_trial x_tape s_puppets s_shots s_sounds s_rates s_dresses fra fdr fo _ (by assumption) (by assumption)) (vx_cwSW 5 hts gL_law_L_set rfl rfl rfl (by decide +kernel) ⟨Nat.le_of_ble_eq_true rfl, Nat.le_of_ble_eq_true rfl⟩) (ps_z hP hD hK hG hZ hS hF [0, 1, 2, 3, 4, 8] rfl rfl rfl) rfl rfl hl.1 rfl (lv_room (Nat.le_of_ble_eq_true rfl)) dL_law_1500 ⟨Nat.le_of_ble_eq_true rfl, Nat.le_of_ble_eq_true rfl⟩) hS (fun q _ h => hF q h) hF (fun r_4 uu9 tt9 H locs ht hvm wr_4 hB hz1 hk1 hS => ?_)
  obtain ⟨go_5, k_6, hP1, hD1⟩ := hB
  rw [ht] at hP1
  obtain ⟨hP, hD⟩ := va_join (wr := [(m0, .inr (12, fs)), (m_rate, .inl (cT 0, 3, .inl mra)), (m_dress, .inl (cT 0, 8, .inl mdr))]) (w1 := [(o9, .inl (cT 2, 1, .inr (.inl go_5)))]) hP hD [0, 1, 2, 3, 4, 8] [5, 6, 7] rfl rfl (by decide) (by decide) hk1 hF hP1 hD1
  have hP : va_P D vwCl [(m0, .inr (12, fs)), (m_rate, .inl (cT 0, 3, .inl mra)), (m_dress, .inl (cT 0, 8, .inl mdr)), (o9, .inl (cT 2, 1, .inr (.inl go_5)))] _ := hP
  have hD : va_D A [(m0, .inr (12, fs)), (m_rate, .inl (cT 0, 3, .inl mra)), (m_dress, .inl (cT 0, 8, .inl mdr)), (o9, .inl (cT 2, 1, .inr (.inl go_5)))] := hD
  refine W.widen (k := 216) (n := 539460) (Nat.le_of_ble_eq_true rfl) (Nat.le_of_ble_eq_true rfl) ?_
  refine lv_istore (lv' := [(5, .int r_4), (4, .int 0), (3, .ref o9), (2, .ref m0), (1, .ref h0), (0, .ref b)]) hx hb dL_law_1503 hl (by decide) rfl (fun ls hl => ?_)
  refine lv_aload_n hx hb dL_law_1505 rfl (lv_at hl 3 rfl) ?_
  refine lv_aload_n hx hb dL_law_1506 rfl (lv_at hl 5 rfl) ?_
  refine lv_iload hx hb dL_law_1507 (lv_at hl 1 rfl) ?_
  refine lv_iconst (v := 1) hx hb dL_law_1509 (by decide) ?_
  refine lv_iadd hx hb dL_law_1510 ?_
  refine lv_topi (fun z_7 ez_7 => ?_)
  obtain rfl : z_7 = 1 := ez_7.trans (by decide)
  refine va_sld hx hb hX hbl hbA hS (by unfold vp_in; decide) dL_law_1511 ?_
  refine lv_aload_n hx hb dL_law_1512 rfl (lv_at hl 5 rfl) ?_
  refine lv_iload hx hb dL_law_1513 (lv_at hl 1 rfl) ?_
  refine lv_iconst (v := 2) hx hb dL_law_1515 (by decide) ?_
  refine lv_iadd hx hb dL_law_1516 ?_
  refine lv_topi (fun z_8 ez_8 => ?_)
  obtain rfl : z_8 = 2 := ez_8.trans (by decide)
  refine va_sld hx hb hX hbl hbA hS (by unfold vp_in; decide) dL_law_1517 ?_
  refine lv_aload_n hx hb dL_law_1518 rfl (lv_at hl 5 rfl) ?_
  refine lv_iload hx hb dL_law_1519 (lv_at hl 1 rfl) ?_
  refine lv_iconst (v := 3) hx hb dL_law_1521 (by decide) ?_
  refine lv_iadd hx hb dL_law_1522 ?_
  refine lv_topi (fun z_9 ez_9 => ?_)
  obtain rfl : z_9 = 3 := ez_9.trans (by decide)
  refine va_sld hx hb hX hbl hbA hS (by unfold vp_in; decide) dL_law_1523 ?_
  have hF := va_free (wc := [(m0, .inr (12, fs)), (m_rate, .inl (cT 0, 3, .inl mra)), (m_dress, .inl (cT 0, 8, .inl mdr))]) hD hS hA [0, 1, 2] rfl
  refine va_calli (va_runV (As := [.int (xs (Int32.toNatClampNeg 1)), .int (xs (Int32.toNatClampNeg 2)), .int (xs (Int32.toNatClampNeg 3))]) (rest := []) ⟨hx, hb, hml, hown, hts⟩ (c_X12_set l D cT m0 (xs (Int32.toNatClampNeg 1)) (xs (Int32.toNatClampNeg 2)) (xs (Int32.toNatClampNeg 3)) fs 0 m_rate m_dress mra mdr _ (by assumption) (by assumption) (hfs) (hfs_0) (hfs_38) (hfs_64) (hfs_65)) (cwV 3 hts gL_law_X12_set rfl rfl rfl (by decide +kernel) ⟨Nat.le_of_ble_eq_true rfl, Nat.le_of_ble_eq_true rfl⟩) (pv_w hP hD hK hG [0, 1, 2] rfl rfl rfl 0 rfl rfl) rfl rfl hl.1 rfl (lv_room (Nat.le_of_ble_eq_true rfl)) dL_law_1524 ⟨Nat.le_of_ble_eq_true rfl, Nat.le_of_ble_eq_true rfl⟩) hS (fun q _ h => hF q h) hF (fun r_10 uu9 tt9 H locs ht hvm wr_10 hB hz1 hk1 hS => ?_)
  obtain ⟨gs_11, tt_12, hgs_11, hgs_11_0, k_15, hP1, hD1⟩ := hB
  rw [ht] at hP1
  obtain ⟨hP, hD⟩ := va_join (wr := [(o9, .inl (cT 2, 1, .inr (.inl go_5)))]) (w1 := [(m0, .inr (12, gs_11))]) hP hD [0, 1, 2] [3] rfl rfl (by decide) (by decide) hk1 hF hP1 hD1
  have hP : va_P D vwCl [(o9, .inl (cT 2, 1, .inr (.inl go_5))), (m0, .inr (12, gs_11))] _ := hP
  have hD : va_D A [(o9, .inl (cT 2, 1, .inr (.inl go_5))), (m0, .inr (12, gs_11))] := hD
  refine lv_istore (lv' := [(6, .int r_10), (5, .int r_4), (4, .int 0), (3, .ref o9), (2, .ref m0), (1, .ref h0), (0, .ref b)]) hx hb dL_law_1527 hl (by decide) rfl (fun ls hl => ?_)
  refine lv_aload_n hx hb dL_law_1529 rfl (lv_at hl 4 rfl) ?_
  have hF := va_free (wc := [(m0, .inr (12, gs_11))]) hD hS hA [1] rfl
  refine va_calli (va_runV (As := []) (rest := []) ⟨hx, hb, hml, hown, hts⟩ (c_X12_thrown l D cT m0 gs_11 tt_12 _ (hgs_11) (hgs_11_0)) (cwV 0 hts gL_law_X12_thrown rfl rfl rfl (by decide +kernel) ⟨Nat.le_of_ble_eq_true rfl, Nat.le_of_ble_eq_true rfl⟩) (pv_w hP hD hK hG [1] rfl rfl rfl 1 rfl rfl) rfl rfl hl.1 rfl (lv_room (Nat.le_of_ble_eq_true rfl)) dL_law_1530 ⟨Nat.le_of_ble_eq_true rfl, Nat.le_of_ble_eq_true rfl⟩) hS (fun q _ h => hF q h) hF (fun r_16 uu9 tt9 H locs ht hvm wr_16 hB hz1 hk1 hS => ?_)
  obtain ⟨hP1, hD1⟩ := hB
  rw [ht] at hP1
  obtain ⟨hP, hD⟩ := va_join (wr := [(o9, .inl (cT 2, 1, .inr (.inl go_5)))]) (w1 := [(m0, .inr (12, gs_11))]) hP hD [1] [0] rfl rfl (by decide) (by decide) hk1 hF hP1 hD1
  have hP : va_P D vwCl [(o9, .inl (cT 2, 1, .inr (.inl go_5))), (m0, .inr (12, gs_11))] _ := hP
  have hD : va_D A [(o9, .inl (cT 2, 1, .inr (.inl go_5))), (m0, .inr (12, gs_11))] := hD
  refine lv_iload hx hb dL_law_1533 (lv_at hl 1 rfl) ?_
  refine lv_icmp_eq (tgt := 1540) hx hb dL_law_1535 (by decide) (fun c_17 => ?_) (fun c_17 => ((c_17 (Eq.trans (wr_16.trans k_15) (Eq.symm wr_4)) : False)).elim)
  refine lv_iload hx hb dL_law_1540 (lv_at hl 1 rfl) ?_
  refine lv_if_ne (tgt := 1557) hx hb dL_law_1542 (by decide) (fun c_18 => ?_) (fun c_18 => ?_)
  · refine lv_goto (tgt := 3043) hx hb dL_law_1557 (by decide) ?_
    exact law_end C0 hA hAl hS (lv_sub hl [2, 6] rfl) (Nat.le_of_ble_eq_true rfl) (Nat.le_of_ble_eq_true rfl)
  · refine lv_aload_n hx hb dL_law_1545 rfl (lv_at hl 3 rfl) ?_
    refine lv_iconst (v := 0) hx hb dL_law_1546 (by decide) ?_
    refine va_lald hx hb hK hP 0 2 rfl rfl (by unfold vp_in; decide) dL_law_1547 ?_
    refine lv_topl (fun j_19 ej_19 => ?_)
    refine lv_iload hx hb dL_law_1548 (lv_at hl 0 rfl) ?_
    obtain ⟨j_20, ej_20⟩ : ∃ y : Int64, y = (r_10).toInt64 := ⟨_, rfl⟩
    refine lv_i2l (v := j_20) hx hb dL_law_1550 ej_20.symm ?_
    refine W.lcmp hx hb dL_law_1551 ?_
    refine lv_topi (fun x_21 ex_21 => ?_)
    refine lv_if_eq (tgt := 1557) hx hb dL_law_1552 (by decide) (fun c_22 => ?_) (fun c_22 => ((c_22 (ex_21.trans ((congr (congrArg lg_cmp (ej_19.trans (k_6 (Eq.trans (Eq.symm wr_4) c_18)))) (ej_20.trans (congrArg Int32.toInt64 (wr_10 (Eq.trans (Eq.symm wr_4) c_18))))).trans (lcmp_self _))) : False)).elim)
    refine lv_goto (tgt := 3043) hx hb dL_law_1557 (by decide) ?_
    exact law_end C0 hA hAl hS (lv_sub hl [2, 6] rfl) (Nat.le_of_ble_eq_true rfl) (Nat.le_of_ble_eq_true rfl)
theorem dL_law_1560 : decode cL_law 1560 = .ok (.aload_n 1, 1) := by decide +kernel
theorem dL_law_1561 : decode cL_law 1561 = .ok (.aload_n 0, 1) := by decide +kernel
theorem dL_law_1562 : decode cL_law 1562 = .ok (.iload 4, 2) := by decide +kernel
theorem dL_law_1564 : decode cL_law 1564 = .ok (.iconst 1, 1) := by decide +kernel
theorem dL_law_1565 : decode cL_law 1565 = .ok (.iadd, 1) := by decide +kernel
theorem dL_law_1566 : decode cL_law 1566 = .ok (.iaload, 1) := by decide +kernel
theorem dL_law_1567 : decode cL_law 1567 = .ok (.aload_n 0, 1) := by decide +kernel
theorem dL_law_1568 : decode cL_law 1568 = .ok (.iload 4, 2) := by decide +kernel
theorem dL_law_1570 : decode cL_law 1570 = .ok (.iconst 2, 1) := by decide +kernel
theorem dL_law_1571 : decode cL_law 1571 = .ok (.iadd, 1) := by decide +kernel
theorem dL_law_1572 : decode cL_law 1572 = .ok (.iaload, 1) := by decide +kernel
theorem dL_law_1573 : decode cL_law 1573 = .ok (.aload_n 3, 1) := by decide +kernel
theorem dL_law_1574 : decode cL_law 1574 = .ok (.invokestatic 211, 3) := by decide +kernel
theorem dL_law_1577 : decode cL_law 1577 = .ok (.istore 5, 2) := by decide +kernel
theorem dL_law_1579 : decode cL_law 1579 = .ok (.aload_n 2, 1) := by decide +kernel
theorem dL_law_1580 : decode cL_law 1580 = .ok (.aload_n 0, 1) := by decide +kernel
theorem dL_law_1581 : decode cL_law 1581 = .ok (.iload 4, 2) := by decide +kernel
theorem dL_law_1583 : decode cL_law 1583 = .ok (.iconst 1, 1) := by decide +kernel
theorem dL_law_1584 : decode cL_law 1584 = .ok (.iadd, 1) := by decide +kernel
theorem dL_law_1585 : decode cL_law 1585 = .ok (.iaload, 1) := by decide +kernel
theorem dL_law_1586 : decode cL_law 1586 = .ok (.aload_n 0, 1) := by decide +kernel
theorem dL_law_1587 : decode cL_law 1587 = .ok (.iload 4, 2) := by decide +kernel
theorem dL_law_1589 : decode cL_law 1589 = .ok (.iconst 2, 1) := by decide +kernel
theorem dL_law_1590 : decode cL_law 1590 = .ok (.iadd, 1) := by decide +kernel
theorem dL_law_1591 : decode cL_law 1591 = .ok (.iaload, 1) := by decide +kernel
theorem dL_law_1592 : decode cL_law 1592 = .ok (.invokevirtual 213, 3) := by decide +kernel
theorem dL_law_1595 : decode cL_law 1595 = .ok (.istore 6, 2) := by decide +kernel
theorem dL_law_1597 : decode cL_law 1597 = .ok (.aload_n 2, 1) := by decide +kernel
theorem dL_law_1598 : decode cL_law 1598 = .ok (.invokevirtual 149, 3) := by decide +kernel
theorem dL_law_1601 : decode cL_law 1601 = .ok (.iload 5, 2) := by decide +kernel
theorem dL_law_1603 : decode cL_law 1603 = .ok (.if_icmp .eq 5, 3) := by decide +kernel
theorem dL_law_1608 : decode cL_law 1608 = .ok (.iload 5, 2) := by decide +kernel
theorem dL_law_1610 : decode cL_law 1610 = .ok (.ifCond .ne 15, 3) := by decide +kernel
theorem dL_law_1625 : decode cL_law 1625 = .ok (.goto 1418, 3) := by decide +kernel
set_option maxRecDepth 20000 in
theorem ggL_law_L_lasts : GoodIn wsL_law wsL_lasts := goodIn_ca (goodIn_ca (goodIn_r _ [1185, 878, 272, 1186, 1187, 1188, 2, 1189, 16, 887, 888, 889, 890, 891, 892, 893, 894, 895, 15, 896, 52, 298, 299, 300, 293, 294, 295, 296, 297, 1190, 1191, 1192, 1193, 1194, 1195, 1196, 1197, 1198, 55, 1199, 414, 411, 415, 678, 679, 1200, 1201, 1202, 1203, 1204, 1205, 623, 624, 625, 626, 627, 628, 1866, 1867, 1868, 1869, 1870, 1871, 1872, 1873, 1874, 1875, 1876, 1986, 1987, 1988, 1989, 1990, 1991, 1992, 2093, 2094, 2095, 2096, 2097, 2098, 2099, 2100, 2101, 2102, 2103, 2104, 2105, 2106, 2107] (by decide +kernel) (by decide +kernel)) (goodIn_sub (fun _ h => List.mem_append_right _ h) (by decide +kernel))) (goodIn_sub (fun _ h => List.mem_append_left _ (List.mem_append_left _ (List.mem_append_right _ h))) (by decide +kernel))
set_option maxRecDepth 20000 in
theorem gL_law_L_lasts : GoodIn wsL_law (va_wsS RL 211 yL_lasts wsL_lasts) := goodIn_app (goodIn_of _ (by decide +kernel)) ggL_law_L_lasts
set_option maxRecDepth 20000 in
theorem ggL_law_X12_lasts : GoodIn wsL_law wsX12_lasts := goodIn_r _ [1209, 265, 914, 915, 916, 5, 917, 733, 313, 314, 315, 316, 317, 318, 319, 1210, 1211, 1212, 1213, 185, 184, 202, 1214, 1215, 1216, 1877, 1878, 1879, 1880, 1881, 1882, 1883, 1884, 1885, 1886, 1887, 1888, 1889, 1890, 1891, 1892, 1893, 1894, 1895, 1896, 1897, 1898, 1899, 1900, 1901, 1902, 1903, 1904, 1905, 1906, 1907, 1908, 1909, 1910, 1911, 1912, 1913, 1914, 1915, 1916, 1917, 1918, 1919, 1920, 1921, 1922, 1923, 1924, 1925, 1926, 1927, 1928, 1929, 1930, 1931, 1932, 1933, 1934, 1935, 1936, 1937, 1938, 1939, 1940, 1941, 1942, 1943, 1944, 1945, 1946, 1947, 1948, 1949, 1950, 1951, 1952, 1953, 1954, 1955, 1956, 1957, 1958, 1959, 1960, 1961, 1962, 1963, 1964, 1965, 1966, 1967, 1968, 1969, 1970, 1971, 1972, 1973, 1974, 1975, 1976, 1977, 1978, 1979, 1980, 1981, 1982, 1983, 1984, 1985] (by decide +kernel) (by decide +kernel)
set_option maxRecDepth 20000 in
theorem gL_law_X12_lasts : GoodIn wsL_law (wsV RL 213 RX12 yX12_lasts wsX12_lasts) := goodIn_app (goodIn_of _ (by decide +kernel)) ggL_law_X12_lasts
set_option maxHeartbeats 8000000 in
set_option maxRecDepth 100000 in
/-- the law: lasts -/
theorem law_case_19 {p : Program} {l : Launch} {e : Env} {s : State} {m : MethodId} {below : List Frame} {meth : Method} {c : Code} {D : va_G} {cT : Nat → ClassId} {b : Nat} {xs : Nat → Int32} {A : Nat → Prop} (hst : l.stackTraces = false) (C0 : lw_At p s m meth c b 7 xs) (hA : ∀ q : Nat, s.heap.size ≤ q → A q) (hAl : ∀ q, A q → s.heap.size ≤ q) (hK : va_K D vwCl (TY cT) s) (hG : GW s) (hZ : GZ A s s.heap) {h0 : Nat} {m0 : Nat} {o9 : Nat} {x_studio : Nat} {x_script : Nat} {x_teller : Nat} {x_planner : Nat} {x_plan : Nat} {x_drifts : Nat} {x_floor : Nat} {x_trial : Nat} {x_tape : Nat} {s_puppets : Nat} {s_shots : Nat} {s_sounds : Nat} {s_rates : Nat} {s_dresses : Nat} {fs : List Value} (hfs : fs.length = 109) (hfs_0 : fs[0]? = some (.int 0)) (hfs_1 : fs[1]? = some (.int 0)) (hfs_38 : fs[38]? = some (.int 0)) {H : Heap} {locs : List Loc} (hP : va_P D vwCl [(h0, .inr (11, [.ref x_studio, .ref x_script, .ref x_teller, .ref x_planner, .ref x_plan, .ref x_drifts, .ref x_floor, .ref x_trial, .ref x_tape, .int 0, .int (-1)])), (x_studio, .inr (8, [.ref s_puppets, .int 0, .ref s_shots, .int 0, .ref s_sounds, .ref s_rates, .ref s_dresses])), (s_shots, .inl (cT 5, 12, .inr (.inr (.inr (.inr (fun _ => none)))))), (m0, .inr (12, fs))] H) (hD : va_D A [(h0, .inr (11, [.ref x_studio, .ref x_script, .ref x_teller, .ref x_planner, .ref x_plan, .ref x_drifts, .ref x_floor, .ref x_trial, .ref x_tape, .int 0, .int (-1)])), (x_studio, .inr (8, [.ref s_puppets, .int 0, .ref s_shots, .int 0, .ref s_sounds, .ref s_rates, .ref s_dresses])), (s_shots, .inl (cT 5, 12, .inr (.inr (.inr (.inr (fun _ => none)))))), (m0, .inr (12, fs))]) (hS : va_S A s.heap H locs) {ls : Array Slot} (hl : lv_has ls 7 [(4, .int 0), (3, .ref o9), (2, .ref m0), (1, .ref h0), (0, .ref b)]) : W p l e room_1 s m #[Value.ref b] below meth c H locs 215 539454 (lw_Z below #[Value.ref b] s) (F0 m 1560 ls []) := by
  obtain ⟨hx, hb, hr, hml, hown, hts0, hX, hbl, hlocks, hgv⟩ := id C0
  have hts : ∀ w ∈ wsL_law, w.before #[Value.ref b] s = true := fun w h => hts0 w (wsL_law_in w h)
  have hbA : ¬ A b := fun h => absurd (hAl b h) (Nat.not_le.mpr hbl)
  have hown : s.vm.findClass RL = some m.cls := hown
  have hb : c.code = cL_law := hb
  refine lv_aload_n hx hb dL_law_1560 rfl (lv_at hl 3 rfl) ?_
  refine lv_aload_n hx hb dL_law_1561 rfl (lv_at hl 4 rfl) ?_
  refine lv_iload hx hb dL_law_1562 (lv_at hl 0 rfl) ?_
  refine lv_iconst (v := 1) hx hb dL_law_1564 (by decide) ?_
  refine lv_iadd hx hb dL_law_1565 ?_
  refine lv_topi (fun z_1 ez_1 => ?_)
  obtain rfl : z_1 = 1 := ez_1.trans (by decide)
  refine va_sld hx hb hX hbl hbA hS (by unfold vp_in; decide) dL_law_1566 ?_
  refine lv_aload_n hx hb dL_law_1567 rfl (lv_at hl 4 rfl) ?_
  refine lv_iload hx hb dL_law_1568 (lv_at hl 0 rfl) ?_
  refine lv_iconst (v := 2) hx hb dL_law_1570 (by decide) ?_
  refine lv_iadd hx hb dL_law_1571 ?_
  refine lv_topi (fun z_2 ez_2 => ?_)
  obtain rfl : z_2 = 2 := ez_2.trans (by decide)
  refine va_sld hx hb hX hbl hbA hS (by unfold vp_in; decide) dL_law_1572 ?_
  refine lv_aload_n hx hb dL_law_1573 rfl (lv_at hl 1 rfl) ?_
  have hF := va_free (wc := [(h0, .inr (11, [.ref x_studio, .ref x_script, .ref x_teller, .ref x_planner, .ref x_plan, .ref x_drifts, .ref x_floor, .ref x_trial, .ref x_tape, .int 0, .int (-1)])), (x_studio, .inr (8, [.ref s_puppets, .int 0, .ref s_shots, .int 0, .ref s_sounds, .ref s_rates, .ref s_dresses])), (s_shots, .inl (cT 5, 12, .inr (.inr (.inr (.inr (fun _ => none))))))]) hD hS hA [0, 1, 2] rfl
  refine va_calli (vx_runSW (As := [.ref h0, .int (xs (Int32.toNatClampNeg 1)), .int (xs (Int32.toNatClampNeg 2)), .ref o9]) (rest := []) ⟨hx, hb, hml, hown, hts⟩ (c_L_lasts l hst D cT h0 (xs (Int32.toNatClampNeg 1)) (xs (Int32.toNatClampNeg 2)) o9 x_studio x_script x_teller x_planner x_plan x_drifts x_floor x_trial x_tape s_puppets s_shots s_sounds s_rates s_dresses _ ) (vx_cwSW 4 hts gL_law_L_lasts rfl rfl rfl (by decide +kernel) ⟨Nat.le_of_ble_eq_true rfl, Nat.le_of_ble_eq_true rfl⟩) (ps_z hP hD hK hG hZ hS hF [0, 1, 2] rfl rfl rfl) rfl rfl hl.1 rfl (lv_room (Nat.le_of_ble_eq_true rfl)) dL_law_1574 ⟨Nat.le_of_ble_eq_true rfl, Nat.le_of_ble_eq_true rfl⟩) hS (fun q _ h => hF q h) hF (fun r_3 uu9 tt9 H locs ht hvm wr_3 hB hz1 hk1 hS => ?_)
  obtain ⟨hP, hD⟩ := va_join (wr := [(m0, .inr (12, fs))]) (w1 := []) hP hD [0, 1, 2] [3] rfl rfl (by decide) (by decide) hk1 hF vp_nil vd_nil
  have hP : va_P D vwCl [(m0, .inr (12, fs))] _ := hP
  have hD : va_D A [(m0, .inr (12, fs))] := hD
  refine W.widen (k := 216) (n := 539460) (Nat.le_of_ble_eq_true rfl) (Nat.le_of_ble_eq_true rfl) ?_
  obtain rfl : r_3 = 1 := wr_3.trans (rfl)
  refine lv_istore (lv' := [(5, .int 1), (4, .int 0), (3, .ref o9), (2, .ref m0), (1, .ref h0), (0, .ref b)]) hx hb dL_law_1577 hl (by decide) rfl (fun ls hl => ?_)
  refine lv_aload_n hx hb dL_law_1579 rfl (lv_at hl 3 rfl) ?_
  refine lv_aload_n hx hb dL_law_1580 rfl (lv_at hl 5 rfl) ?_
  refine lv_iload hx hb dL_law_1581 (lv_at hl 1 rfl) ?_
  refine lv_iconst (v := 1) hx hb dL_law_1583 (by decide) ?_
  refine lv_iadd hx hb dL_law_1584 ?_
  refine lv_topi (fun z_4 ez_4 => ?_)
  obtain rfl : z_4 = 1 := ez_4.trans (by decide)
  refine va_sld hx hb hX hbl hbA hS (by unfold vp_in; decide) dL_law_1585 ?_
  refine lv_aload_n hx hb dL_law_1586 rfl (lv_at hl 5 rfl) ?_
  refine lv_iload hx hb dL_law_1587 (lv_at hl 1 rfl) ?_
  refine lv_iconst (v := 2) hx hb dL_law_1589 (by decide) ?_
  refine lv_iadd hx hb dL_law_1590 ?_
  refine lv_topi (fun z_5 ez_5 => ?_)
  obtain rfl : z_5 = 2 := ez_5.trans (by decide)
  refine va_sld hx hb hX hbl hbA hS (by unfold vp_in; decide) dL_law_1591 ?_
  have hF := va_free (wc := [(m0, .inr (12, fs))]) hD hS hA [0] rfl
  refine va_calli (va_runV (As := [.int (xs (Int32.toNatClampNeg 1)), .int (xs (Int32.toNatClampNeg 2))]) (rest := []) ⟨hx, hb, hml, hown, hts⟩ (c_X12_lasts l D cT m0 (xs (Int32.toNatClampNeg 1)) (xs (Int32.toNatClampNeg 2)) fs 0 _ (hfs) (hfs_0) (hfs_1) (hfs_38)) (cwV 2 hts gL_law_X12_lasts rfl rfl rfl (by decide +kernel) ⟨Nat.le_of_ble_eq_true rfl, Nat.le_of_ble_eq_true rfl⟩) (pv_w hP hD hK hG [0] rfl rfl rfl 0 rfl rfl) rfl rfl hl.1 rfl (lv_room (Nat.le_of_ble_eq_true rfl)) dL_law_1592 ⟨Nat.le_of_ble_eq_true rfl, Nat.le_of_ble_eq_true rfl⟩) hS (fun q _ h => hF q h) hF (fun r_6 uu9 tt9 H locs ht hvm wr_6 hB hz1 hk1 hS => ?_)
  obtain ⟨gs_7, hgs_7, hgs_7_0, hP1, hD1⟩ := hB
  rw [ht] at hP1
  obtain ⟨hP, hD⟩ := va_join (wr := []) (w1 := [(m0, .inr (12, gs_7))]) hP hD [0] [] rfl rfl (by decide) (by decide) hk1 hF hP1 hD1
  have hP : va_P D vwCl [(m0, .inr (12, gs_7))] _ := hP
  have hD : va_D A [(m0, .inr (12, gs_7))] := hD
  refine lv_istore (lv' := [(6, .int r_6), (5, .int 1), (4, .int 0), (3, .ref o9), (2, .ref m0), (1, .ref h0), (0, .ref b)]) hx hb dL_law_1595 hl (by decide) rfl (fun ls hl => ?_)
  refine lv_aload_n hx hb dL_law_1597 rfl (lv_at hl 4 rfl) ?_
  have hF := va_free (wc := [(m0, .inr (12, gs_7))]) hD hS hA [0] rfl
  refine va_calli (va_runV (As := []) (rest := []) ⟨hx, hb, hml, hown, hts⟩ (c_X12_thrown l D cT m0 gs_7 1 _ (hgs_7) (hgs_7_0)) (cwV 0 hts gL_law_X12_thrown rfl rfl rfl (by decide +kernel) ⟨Nat.le_of_ble_eq_true rfl, Nat.le_of_ble_eq_true rfl⟩) (pv_w hP hD hK hG [0] rfl rfl rfl 0 rfl rfl) rfl rfl hl.1 rfl (lv_room (Nat.le_of_ble_eq_true rfl)) dL_law_1598 ⟨Nat.le_of_ble_eq_true rfl, Nat.le_of_ble_eq_true rfl⟩) hS (fun q _ h => hF q h) hF (fun r_10 uu9 tt9 H locs ht hvm wr_10 hB hz1 hk1 hS => ?_)
  obtain ⟨hP1, hD1⟩ := hB
  rw [ht] at hP1
  obtain ⟨hP, hD⟩ := va_join (wr := []) (w1 := [(m0, .inr (12, gs_7))]) hP hD [0] [] rfl rfl (by decide) (by decide) hk1 hF hP1 hD1
  have hP : va_P D vwCl [(m0, .inr (12, gs_7))] _ := hP
  have hD : va_D A [(m0, .inr (12, gs_7))] := hD
  obtain rfl : r_10 = 1 := wr_10.trans (rfl)
  refine lv_iload hx hb dL_law_1601 (lv_at hl 1 rfl) ?_
  refine lv_icmp_eq (tgt := 1608) hx hb dL_law_1603 (by decide) (fun _ => ?_) (fun c9 => absurd c9 (by decide))
  refine lv_iload hx hb dL_law_1608 (lv_at hl 1 rfl) ?_
  refine lv_if_ne (tgt := 1625) hx hb dL_law_1610 (by decide) (fun _ => ?_) (fun c9 => absurd c9 (by decide))
  refine lv_goto (tgt := 3043) hx hb dL_law_1625 (by decide) ?_
  exact law_end C0 hA hAl hS (lv_sub hl [2, 6] rfl) (Nat.le_of_ble_eq_true rfl) (Nat.le_of_ble_eq_true rfl)
theorem dL_law_1628 : decode cL_law 1628 = .ok (.aload_n 1, 1) := by decide +kernel
theorem dL_law_1629 : decode cL_law 1629 = .ok (.aload_n 0, 1) := by decide +kernel
theorem dL_law_1630 : decode cL_law 1630 = .ok (.iload 4, 2) := by decide +kernel
theorem dL_law_1632 : decode cL_law 1632 = .ok (.iconst 1, 1) := by decide +kernel
theorem dL_law_1633 : decode cL_law 1633 = .ok (.iadd, 1) := by decide +kernel
theorem dL_law_1634 : decode cL_law 1634 = .ok (.iaload, 1) := by decide +kernel
theorem dL_law_1635 : decode cL_law 1635 = .ok (.aload_n 0, 1) := by decide +kernel
theorem dL_law_1636 : decode cL_law 1636 = .ok (.iload 4, 2) := by decide +kernel
theorem dL_law_1638 : decode cL_law 1638 = .ok (.iconst 2, 1) := by decide +kernel
theorem dL_law_1639 : decode cL_law 1639 = .ok (.iadd, 1) := by decide +kernel
theorem dL_law_1640 : decode cL_law 1640 = .ok (.iaload, 1) := by decide +kernel
theorem dL_law_1641 : decode cL_law 1641 = .ok (.aload_n 3, 1) := by decide +kernel
theorem dL_law_1642 : decode cL_law 1642 = .ok (.invokestatic 214, 3) := by decide +kernel
theorem dL_law_1645 : decode cL_law 1645 = .ok (.istore 5, 2) := by decide +kernel
theorem dL_law_1647 : decode cL_law 1647 = .ok (.aload_n 2, 1) := by decide +kernel
theorem dL_law_1648 : decode cL_law 1648 = .ok (.aload_n 0, 1) := by decide +kernel
theorem dL_law_1649 : decode cL_law 1649 = .ok (.iload 4, 2) := by decide +kernel
theorem dL_law_1651 : decode cL_law 1651 = .ok (.iconst 1, 1) := by decide +kernel
theorem dL_law_1652 : decode cL_law 1652 = .ok (.iadd, 1) := by decide +kernel
theorem dL_law_1653 : decode cL_law 1653 = .ok (.iaload, 1) := by decide +kernel
theorem dL_law_1654 : decode cL_law 1654 = .ok (.aload_n 0, 1) := by decide +kernel
theorem dL_law_1655 : decode cL_law 1655 = .ok (.iload 4, 2) := by decide +kernel
theorem dL_law_1657 : decode cL_law 1657 = .ok (.iconst 2, 1) := by decide +kernel
theorem dL_law_1658 : decode cL_law 1658 = .ok (.iadd, 1) := by decide +kernel
theorem dL_law_1659 : decode cL_law 1659 = .ok (.iaload, 1) := by decide +kernel
theorem dL_law_1660 : decode cL_law 1660 = .ok (.invokevirtual 216, 3) := by decide +kernel
theorem dL_law_1663 : decode cL_law 1663 = .ok (.istore 6, 2) := by decide +kernel
theorem dL_law_1665 : decode cL_law 1665 = .ok (.aload_n 2, 1) := by decide +kernel
theorem dL_law_1666 : decode cL_law 1666 = .ok (.invokevirtual 149, 3) := by decide +kernel
theorem dL_law_1669 : decode cL_law 1669 = .ok (.iload 5, 2) := by decide +kernel
theorem dL_law_1671 : decode cL_law 1671 = .ok (.if_icmp .eq 5, 3) := by decide +kernel
theorem dL_law_1676 : decode cL_law 1676 = .ok (.iload 5, 2) := by decide +kernel
theorem dL_law_1678 : decode cL_law 1678 = .ok (.ifCond .ne 22, 3) := by decide +kernel
theorem dL_law_1700 : decode cL_law 1700 = .ok (.goto 1343, 3) := by decide +kernel
set_option maxRecDepth 20000 in
theorem ggL_law_L_clash : GoodIn wsL_law wsL_clash := goodIn_ca (goodIn_r _ [1219, 878, 1220, 1221, 1222, 2, 1223, 16, 887, 888, 889, 890, 891, 892, 893, 894, 895, 15, 896, 52, 1224, 1225, 1226, 1227, 1228, 1204, 1229, 1230, 1231, 1232, 50, 1233, 1234, 1866, 1867, 1868, 1869, 1870, 1871, 1872, 1873, 1874, 1875, 1876, 1986, 1987, 1988, 1989, 1990, 1991, 1992, 2093, 2094, 2095, 2096, 2097, 2098, 2099, 2100, 2101, 2102, 2103, 2104, 2105, 2106, 2107, 2082, 2083, 2084, 2085, 2086, 2087, 2088, 2089, 2090, 2091, 2092] (by decide +kernel) (by decide +kernel)) (goodIn_sub (fun _ h => List.mem_append_right _ h) (by decide +kernel))
set_option maxRecDepth 20000 in
theorem gL_law_L_clash : GoodIn wsL_law (va_wsS RL 214 yL_clash wsL_clash) := goodIn_app (goodIn_of _ (by decide +kernel)) ggL_law_L_clash
set_option maxRecDepth 20000 in
theorem ggL_law_X12_clash : GoodIn wsL_law wsX12_clash := goodIn_r _ [1238, 265, 914, 915, 916, 5, 917, 733, 313, 314, 315, 316, 317, 318, 319, 1239, 1240, 1241, 1242, 187, 185, 186, 1243, 1244, 1245, 1246, 161, 1877, 1878, 1879, 1880, 1881, 1882, 1883, 1884, 1885, 1886, 1887, 1888, 1889, 1890, 1891, 1892, 1893, 1894, 1895, 1896, 1897, 1898, 1899, 1900, 1901, 1902, 1903, 1904, 1905, 1906, 1907, 1908, 1909, 1910, 1911, 1912, 1913, 1914, 1915, 1916, 1917, 1918, 1919, 1920, 1921, 1922, 1923, 1924, 1925, 1926, 1927, 1928, 1929, 1930, 1931, 1932, 1933, 1934, 1935, 1936, 1937, 1938, 1939, 1940, 1941, 1942, 1943, 1944, 1945, 1946, 1947, 1948, 1949, 1950, 1951, 1952, 1953, 1954, 1955, 1956, 1957, 1958, 1959, 1960, 1961, 1962, 1963, 1964, 1965, 1966, 1967, 1968, 1969, 1970, 1971, 1972, 1973, 1974, 1975, 1976, 1977, 1978, 1979, 1980, 1981, 1982, 1983, 1984, 1985] (by decide +kernel) (by decide +kernel)
set_option maxRecDepth 20000 in
theorem gL_law_X12_clash : GoodIn wsL_law (wsV RL 216 RX12 yX12_clash wsX12_clash) := goodIn_app (goodIn_of _ (by decide +kernel)) ggL_law_X12_clash
set_option maxHeartbeats 8000000 in
set_option maxRecDepth 100000 in
/-- the law: clash -/
theorem law_case_20 {p : Program} {l : Launch} {e : Env} {s : State} {m : MethodId} {below : List Frame} {meth : Method} {c : Code} {D : va_G} {cT : Nat → ClassId} {b : Nat} {xs : Nat → Int32} {A : Nat → Prop} (hst : l.stackTraces = false) (C0 : lw_At p s m meth c b 7 xs) (hA : ∀ q : Nat, s.heap.size ≤ q → A q) (hAl : ∀ q, A q → s.heap.size ≤ q) (hK : va_K D vwCl (TY cT) s) (hG : GW s) (hZ : GZ A s s.heap) {h0 : Nat} {m0 : Nat} {o9 : Nat} {x_studio : Nat} {x_script : Nat} {x_teller : Nat} {x_planner : Nat} {x_plan : Nat} {x_drifts : Nat} {x_floor : Nat} {x_trial : Nat} {x_tape : Nat} {s_puppets : Nat} {s_shots : Nat} {s_sounds : Nat} {s_rates : Nat} {s_dresses : Nat} {fs : List Value} (hfs : fs.length = 109) (hfs_0 : fs[0]? = some (.int 0)) (hfs_1 : fs[1]? = some (.int 0)) (hfs_38 : fs[38]? = some (.int 0)) {H : Heap} {locs : List Loc} (hP : va_P D vwCl [(h0, .inr (11, [.ref x_studio, .ref x_script, .ref x_teller, .ref x_planner, .ref x_plan, .ref x_drifts, .ref x_floor, .ref x_trial, .ref x_tape, .int 0, .int (-1)])), (x_studio, .inr (8, [.ref s_puppets, .int 0, .ref s_shots, .int 0, .ref s_sounds, .ref s_rates, .ref s_dresses])), (s_shots, .inl (cT 5, 12, .inr (.inr (.inr (.inr (fun _ => none)))))), (m0, .inr (12, fs))] H) (hD : va_D A [(h0, .inr (11, [.ref x_studio, .ref x_script, .ref x_teller, .ref x_planner, .ref x_plan, .ref x_drifts, .ref x_floor, .ref x_trial, .ref x_tape, .int 0, .int (-1)])), (x_studio, .inr (8, [.ref s_puppets, .int 0, .ref s_shots, .int 0, .ref s_sounds, .ref s_rates, .ref s_dresses])), (s_shots, .inl (cT 5, 12, .inr (.inr (.inr (.inr (fun _ => none)))))), (m0, .inr (12, fs))]) (hS : va_S A s.heap H locs) {ls : Array Slot} (hl : lv_has ls 7 [(4, .int 0), (3, .ref o9), (2, .ref m0), (1, .ref h0), (0, .ref b)]) : W p l e room_1 s m #[Value.ref b] below meth c H locs 215 539454 (lw_Z below #[Value.ref b] s) (F0 m 1628 ls []) := by
  obtain ⟨hx, hb, hr, hml, hown, hts0, hX, hbl, hlocks, hgv⟩ := id C0
  have hts : ∀ w ∈ wsL_law, w.before #[Value.ref b] s = true := fun w h => hts0 w (wsL_law_in w h)
  have hbA : ¬ A b := fun h => absurd (hAl b h) (Nat.not_le.mpr hbl)
  have hown : s.vm.findClass RL = some m.cls := hown
  have hb : c.code = cL_law := hb
  refine lv_aload_n hx hb dL_law_1628 rfl (lv_at hl 3 rfl) ?_
  refine lv_aload_n hx hb dL_law_1629 rfl (lv_at hl 4 rfl) ?_
  refine lv_iload hx hb dL_law_1630 (lv_at hl 0 rfl) ?_
  refine lv_iconst (v := 1) hx hb dL_law_1632 (by decide) ?_
  refine lv_iadd hx hb dL_law_1633 ?_
  refine lv_topi (fun z_1 ez_1 => ?_)
  obtain rfl : z_1 = 1 := ez_1.trans (by decide)
  refine va_sld hx hb hX hbl hbA hS (by unfold vp_in; decide) dL_law_1634 ?_
  refine lv_aload_n hx hb dL_law_1635 rfl (lv_at hl 4 rfl) ?_
  refine lv_iload hx hb dL_law_1636 (lv_at hl 0 rfl) ?_
  refine lv_iconst (v := 2) hx hb dL_law_1638 (by decide) ?_
  refine lv_iadd hx hb dL_law_1639 ?_
  refine lv_topi (fun z_2 ez_2 => ?_)
  obtain rfl : z_2 = 2 := ez_2.trans (by decide)
  refine va_sld hx hb hX hbl hbA hS (by unfold vp_in; decide) dL_law_1640 ?_
  refine lv_aload_n hx hb dL_law_1641 rfl (lv_at hl 1 rfl) ?_
  have hF := va_free (wc := [(h0, .inr (11, [.ref x_studio, .ref x_script, .ref x_teller, .ref x_planner, .ref x_plan, .ref x_drifts, .ref x_floor, .ref x_trial, .ref x_tape, .int 0, .int (-1)])), (x_studio, .inr (8, [.ref s_puppets, .int 0, .ref s_shots, .int 0, .ref s_sounds, .ref s_rates, .ref s_dresses])), (s_shots, .inl (cT 5, 12, .inr (.inr (.inr (.inr (fun _ => none))))))]) hD hS hA [0, 1, 2] rfl
  refine va_calli (vx_runSW (As := [.ref h0, .int (xs (Int32.toNatClampNeg 1)), .int (xs (Int32.toNatClampNeg 2)), .ref o9]) (rest := []) ⟨hx, hb, hml, hown, hts⟩ (c_L_clash l hst D cT h0 (xs (Int32.toNatClampNeg 1)) (xs (Int32.toNatClampNeg 2)) o9 x_studio x_script x_teller x_planner x_plan x_drifts x_floor x_trial x_tape s_puppets s_shots s_sounds s_rates s_dresses _ ) (vx_cwSW 4 hts gL_law_L_clash rfl rfl rfl (by decide +kernel) ⟨Nat.le_of_ble_eq_true rfl, Nat.le_of_ble_eq_true rfl⟩) (ps_z hP hD hK hG hZ hS hF [0, 1, 2] rfl rfl rfl) rfl rfl hl.1 rfl (lv_room (Nat.le_of_ble_eq_true rfl)) dL_law_1642 ⟨Nat.le_of_ble_eq_true rfl, Nat.le_of_ble_eq_true rfl⟩) hS (fun q _ h => hF q h) hF (fun r_3 uu9 tt9 H locs ht hvm wr_3 hB hz1 hk1 hS => ?_)
  obtain ⟨hP, hD⟩ := va_join (wr := [(m0, .inr (12, fs))]) (w1 := []) hP hD [0, 1, 2] [3] rfl rfl (by decide) (by decide) hk1 hF vp_nil vd_nil
  have hP : va_P D vwCl [(m0, .inr (12, fs))] _ := hP
  have hD : va_D A [(m0, .inr (12, fs))] := hD
  refine W.widen (k := 216) (n := 539460) (Nat.le_of_ble_eq_true rfl) (Nat.le_of_ble_eq_true rfl) ?_
  obtain rfl : r_3 = 1 := wr_3.trans (rfl)
  refine lv_istore (lv' := [(5, .int 1), (4, .int 0), (3, .ref o9), (2, .ref m0), (1, .ref h0), (0, .ref b)]) hx hb dL_law_1645 hl (by decide) rfl (fun ls hl => ?_)
  refine lv_aload_n hx hb dL_law_1647 rfl (lv_at hl 3 rfl) ?_
  refine lv_aload_n hx hb dL_law_1648 rfl (lv_at hl 5 rfl) ?_
  refine lv_iload hx hb dL_law_1649 (lv_at hl 1 rfl) ?_
  refine lv_iconst (v := 1) hx hb dL_law_1651 (by decide) ?_
  refine lv_iadd hx hb dL_law_1652 ?_
  refine lv_topi (fun z_4 ez_4 => ?_)
  obtain rfl : z_4 = 1 := ez_4.trans (by decide)
  refine va_sld hx hb hX hbl hbA hS (by unfold vp_in; decide) dL_law_1653 ?_
  refine lv_aload_n hx hb dL_law_1654 rfl (lv_at hl 5 rfl) ?_
  refine lv_iload hx hb dL_law_1655 (lv_at hl 1 rfl) ?_
  refine lv_iconst (v := 2) hx hb dL_law_1657 (by decide) ?_
  refine lv_iadd hx hb dL_law_1658 ?_
  refine lv_topi (fun z_5 ez_5 => ?_)
  obtain rfl : z_5 = 2 := ez_5.trans (by decide)
  refine va_sld hx hb hX hbl hbA hS (by unfold vp_in; decide) dL_law_1659 ?_
  have hF := va_free (wc := [(m0, .inr (12, fs))]) hD hS hA [0] rfl
  refine va_calli (va_runV (As := [.int (xs (Int32.toNatClampNeg 1)), .int (xs (Int32.toNatClampNeg 2))]) (rest := []) ⟨hx, hb, hml, hown, hts⟩ (c_X12_clash l D cT m0 (xs (Int32.toNatClampNeg 1)) (xs (Int32.toNatClampNeg 2)) fs 0 _ (hfs) (hfs_0) (hfs_1) (hfs_38)) (cwV 2 hts gL_law_X12_clash rfl rfl rfl (by decide +kernel) ⟨Nat.le_of_ble_eq_true rfl, Nat.le_of_ble_eq_true rfl⟩) (pv_w hP hD hK hG [0] rfl rfl rfl 0 rfl rfl) rfl rfl hl.1 rfl (lv_room (Nat.le_of_ble_eq_true rfl)) dL_law_1660 ⟨Nat.le_of_ble_eq_true rfl, Nat.le_of_ble_eq_true rfl⟩) hS (fun q _ h => hF q h) hF (fun r_6 uu9 tt9 H locs ht hvm wr_6 hB hz1 hk1 hS => ?_)
  obtain ⟨gs_7, hgs_7, hgs_7_0, hP1, hD1⟩ := hB
  rw [ht] at hP1
  obtain ⟨hP, hD⟩ := va_join (wr := []) (w1 := [(m0, .inr (12, gs_7))]) hP hD [0] [] rfl rfl (by decide) (by decide) hk1 hF hP1 hD1
  have hP : va_P D vwCl [(m0, .inr (12, gs_7))] _ := hP
  have hD : va_D A [(m0, .inr (12, gs_7))] := hD
  refine lv_istore (lv' := [(6, .int r_6), (5, .int 1), (4, .int 0), (3, .ref o9), (2, .ref m0), (1, .ref h0), (0, .ref b)]) hx hb dL_law_1663 hl (by decide) rfl (fun ls hl => ?_)
  refine lv_aload_n hx hb dL_law_1665 rfl (lv_at hl 4 rfl) ?_
  have hF := va_free (wc := [(m0, .inr (12, gs_7))]) hD hS hA [0] rfl
  refine va_calli (va_runV (As := []) (rest := []) ⟨hx, hb, hml, hown, hts⟩ (c_X12_thrown l D cT m0 gs_7 1 _ (hgs_7) (hgs_7_0)) (cwV 0 hts gL_law_X12_thrown rfl rfl rfl (by decide +kernel) ⟨Nat.le_of_ble_eq_true rfl, Nat.le_of_ble_eq_true rfl⟩) (pv_w hP hD hK hG [0] rfl rfl rfl 0 rfl rfl) rfl rfl hl.1 rfl (lv_room (Nat.le_of_ble_eq_true rfl)) dL_law_1666 ⟨Nat.le_of_ble_eq_true rfl, Nat.le_of_ble_eq_true rfl⟩) hS (fun q _ h => hF q h) hF (fun r_10 uu9 tt9 H locs ht hvm wr_10 hB hz1 hk1 hS => ?_)
  obtain ⟨hP1, hD1⟩ := hB
  rw [ht] at hP1
  obtain ⟨hP, hD⟩ := va_join (wr := []) (w1 := [(m0, .inr (12, gs_7))]) hP hD [0] [] rfl rfl (by decide) (by decide) hk1 hF hP1 hD1
  have hP : va_P D vwCl [(m0, .inr (12, gs_7))] _ := hP
  have hD : va_D A [(m0, .inr (12, gs_7))] := hD
  obtain rfl : r_10 = 1 := wr_10.trans (rfl)
  refine lv_iload hx hb dL_law_1669 (lv_at hl 1 rfl) ?_
  refine lv_icmp_eq (tgt := 1676) hx hb dL_law_1671 (by decide) (fun _ => ?_) (fun c9 => absurd c9 (by decide))
  refine lv_iload hx hb dL_law_1676 (lv_at hl 1 rfl) ?_
  refine lv_if_ne (tgt := 1700) hx hb dL_law_1678 (by decide) (fun _ => ?_) (fun c9 => absurd c9 (by decide))
  refine lv_goto (tgt := 3043) hx hb dL_law_1700 (by decide) ?_
  exact law_end C0 hA hAl hS (lv_sub hl [2, 6] rfl) (Nat.le_of_ble_eq_true rfl) (Nat.le_of_ble_eq_true rfl)
theorem dL_law_1703 : decode cL_law 1703 = .ok (.aload_n 1, 1) := by decide +kernel
theorem dL_law_1704 : decode cL_law 1704 = .ok (.aload_n 0, 1) := by decide +kernel
theorem dL_law_1705 : decode cL_law 1705 = .ok (.iload 4, 2) := by decide +kernel
theorem dL_law_1707 : decode cL_law 1707 = .ok (.iconst 1, 1) := by decide +kernel
theorem dL_law_1708 : decode cL_law 1708 = .ok (.iadd, 1) := by decide +kernel
theorem dL_law_1709 : decode cL_law 1709 = .ok (.iaload, 1) := by decide +kernel
theorem dL_law_1710 : decode cL_law 1710 = .ok (.aload_n 0, 1) := by decide +kernel
theorem dL_law_1711 : decode cL_law 1711 = .ok (.iload 4, 2) := by decide +kernel
theorem dL_law_1713 : decode cL_law 1713 = .ok (.iconst 2, 1) := by decide +kernel
theorem dL_law_1714 : decode cL_law 1714 = .ok (.iadd, 1) := by decide +kernel
theorem dL_law_1715 : decode cL_law 1715 = .ok (.iaload, 1) := by decide +kernel
theorem dL_law_1716 : decode cL_law 1716 = .ok (.aload_n 0, 1) := by decide +kernel
theorem dL_law_1717 : decode cL_law 1717 = .ok (.iload 4, 2) := by decide +kernel
theorem dL_law_1719 : decode cL_law 1719 = .ok (.iconst 3, 1) := by decide +kernel
theorem dL_law_1720 : decode cL_law 1720 = .ok (.iadd, 1) := by decide +kernel
theorem dL_law_1721 : decode cL_law 1721 = .ok (.iaload, 1) := by decide +kernel
theorem dL_law_1722 : decode cL_law 1722 = .ok (.aload_n 3, 1) := by decide +kernel
theorem dL_law_1723 : decode cL_law 1723 = .ok (.invokestatic 217, 3) := by decide +kernel
theorem dL_law_1726 : decode cL_law 1726 = .ok (.istore 5, 2) := by decide +kernel
theorem dL_law_1728 : decode cL_law 1728 = .ok (.aload_n 2, 1) := by decide +kernel
theorem dL_law_1729 : decode cL_law 1729 = .ok (.aload_n 0, 1) := by decide +kernel
theorem dL_law_1730 : decode cL_law 1730 = .ok (.iload 4, 2) := by decide +kernel
theorem dL_law_1732 : decode cL_law 1732 = .ok (.iconst 1, 1) := by decide +kernel
theorem dL_law_1733 : decode cL_law 1733 = .ok (.iadd, 1) := by decide +kernel
theorem dL_law_1734 : decode cL_law 1734 = .ok (.iaload, 1) := by decide +kernel
theorem dL_law_1735 : decode cL_law 1735 = .ok (.aload_n 0, 1) := by decide +kernel
theorem dL_law_1736 : decode cL_law 1736 = .ok (.iload 4, 2) := by decide +kernel
theorem dL_law_1738 : decode cL_law 1738 = .ok (.iconst 2, 1) := by decide +kernel
theorem dL_law_1739 : decode cL_law 1739 = .ok (.iadd, 1) := by decide +kernel
theorem dL_law_1740 : decode cL_law 1740 = .ok (.iaload, 1) := by decide +kernel
theorem dL_law_1741 : decode cL_law 1741 = .ok (.aload_n 0, 1) := by decide +kernel
theorem dL_law_1742 : decode cL_law 1742 = .ok (.iload 4, 2) := by decide +kernel
theorem dL_law_1744 : decode cL_law 1744 = .ok (.iconst 3, 1) := by decide +kernel
theorem dL_law_1745 : decode cL_law 1745 = .ok (.iadd, 1) := by decide +kernel
theorem dL_law_1746 : decode cL_law 1746 = .ok (.iaload, 1) := by decide +kernel
theorem dL_law_1747 : decode cL_law 1747 = .ok (.invokevirtual 219, 3) := by decide +kernel
theorem dL_law_1750 : decode cL_law 1750 = .ok (.istore 6, 2) := by decide +kernel
theorem dL_law_1752 : decode cL_law 1752 = .ok (.aload_n 2, 1) := by decide +kernel
theorem dL_law_1753 : decode cL_law 1753 = .ok (.invokevirtual 149, 3) := by decide +kernel
theorem dL_law_1756 : decode cL_law 1756 = .ok (.iload 5, 2) := by decide +kernel
theorem dL_law_1758 : decode cL_law 1758 = .ok (.if_icmp .eq 5, 3) := by decide +kernel
theorem dL_law_1763 : decode cL_law 1763 = .ok (.iload 5, 2) := by decide +kernel
theorem dL_law_1765 : decode cL_law 1765 = .ok (.ifCond .ne 15, 3) := by decide +kernel
theorem dL_law_1780 : decode cL_law 1780 = .ok (.goto 1263, 3) := by decide +kernel
set_option maxRecDepth 20000 in
theorem ggL_law_L_best : GoodIn wsL_law wsL_best := goodIn_ca (goodIn_r _ [1249, 272, 1250, 1251, 1252, 2, 1253, 16, 388, 28, 1254, 1255, 293, 294, 295, 296, 297, 1256, 623, 624, 625, 626, 627, 628, 298, 299, 300, 1257, 1258, 1259, 27, 1260, 1261, 1262, 1263, 1264, 111, 112, 1265, 1266, 1267, 1268, 1269, 1270, 1271, 104, 1272, 647, 648, 1273, 1274, 1275, 1276, 358, 359, 1277, 1278, 1279, 1280, 115, 105, 1281, 106, 107, 1282, 410, 411, 412, 108, 109, 678, 679, 1283, 894, 895, 15, 896, 52, 1284, 1285, 1286, 1287, 56, 1288, 1191, 1192, 1193, 1194, 1195, 1196, 1197, 1198, 55, 1199, 414, 415, 1200, 1201, 1202, 1203, 1204, 1205, 1289, 1225, 1226, 1227, 1228, 1229, 1230, 1231, 1232, 50, 1233, 1234, 1290, 58, 59, 60, 1291, 1292, 1293, 1294, 1295, 1296, 1297, 1298, 113, 114, 1299, 418, 419, 420, 1300, 1301, 1302, 1303, 1304, 1305, 1306, 1307, 1308, 1309, 1310, 1311, 1312, 110, 1313, 1314, 1315, 1316, 1317, 1318, 1319, 1320, 1321, 1322, 1323, 1324, 1325, 1326, 1327, 1328, 1329, 1330, 1331, 1332, 1333, 1334, 1335, 1336, 1337, 1338, 1339, 1340, 1341, 1866, 1867, 1868, 1869, 1870, 1871, 1872, 1873, 1874, 1875, 1876, 1986, 1987, 1988, 1989, 1990, 1991, 1992, 2020, 2021, 2022, 2023, 2024, 2025, 2026, 2027, 2028, 2029, 2030, 2031, 2032, 2033, 2034, 2035, 2036, 2037, 2038, 2093, 2094, 2095, 2096, 2097, 2098, 2099, 2100, 2101, 2102, 2103, 2104, 2105, 2106, 2107, 2082, 2083, 2084, 2085, 2086, 2087, 2088, 2089, 2090, 2091, 2092] (by decide +kernel) (by decide +kernel)) (goodIn_sub (fun _ h => List.mem_append_left _ (List.mem_append_left _ (List.mem_append_right _ h))) (by decide +kernel))
set_option maxRecDepth 20000 in
theorem gL_law_L_best : GoodIn wsL_law (va_wsS RL 217 yL_best wsL_best) := goodIn_app (goodIn_of _ (by decide +kernel)) ggL_law_L_best
set_option maxRecDepth 20000 in
theorem ggL_law_X12_best : GoodIn wsL_law wsX12_best := goodIn_r _ [1345, 265, 733, 1346, 1347, 1348, 1349, 208, 209, 210, 211, 313, 314, 5, 315, 316, 317, 318, 319, 1350, 1351, 1352, 1353, 207, 204, 205, 206, 1354, 1355, 1356, 1357, 187, 203, 1239, 1240, 1241, 1242, 185, 186, 1243, 1244, 1245, 1246, 161, 1210, 1211, 1212, 1213, 184, 202, 1214, 1215, 1216, 1877, 1878, 1879, 1880, 1881, 1882, 1883, 1884, 1885, 1886, 1887, 1888, 1889, 1890, 1891, 1892, 1893, 1894, 1895, 1896, 1897, 1898, 1899, 1900, 1901, 1902, 1903, 1904, 1905, 1906, 1907, 1908, 1909, 1910, 1911, 1912, 1913, 1914, 1915, 1916, 1917, 1918, 1919, 1920, 1921, 1922, 1923, 1924, 1925, 1926, 1927, 1928, 1929, 1930, 1931, 1932, 1933, 1934, 1935, 1936, 1937, 1938, 1939, 1940, 1941, 1942, 1943, 1944, 1945, 1946, 1947, 1948, 1949, 1950, 1951, 1952, 1953, 1954, 1955, 1956, 1957, 1958, 1959, 1960, 1961, 1962, 1963, 1964, 1965, 1966, 1967, 1968, 1969, 1970, 1971, 1972, 1973, 1974, 1975, 1976, 1977, 1978, 1979, 1980, 1981, 1982, 1983, 1984, 1985] (by decide +kernel) (by decide +kernel)
set_option maxRecDepth 20000 in
theorem gL_law_X12_best : GoodIn wsL_law (wsV RL 219 RX12 yX12_best wsX12_best) := goodIn_app (goodIn_of _ (by decide +kernel)) ggL_law_X12_best
set_option maxHeartbeats 8000000 in
set_option maxRecDepth 100000 in
/-- the law: best -/
theorem law_case_21 {p : Program} {l : Launch} {e : Env} {s : State} {m : MethodId} {below : List Frame} {meth : Method} {c : Code} {D : va_G} {cT : Nat → ClassId} {b : Nat} {xs : Nat → Int32} {A : Nat → Prop} (hst : l.stackTraces = false) (C0 : lw_At p s m meth c b 7 xs) (hA : ∀ q : Nat, s.heap.size ≤ q → A q) (hAl : ∀ q, A q → s.heap.size ≤ q) (hK : va_K D vwCl (TY cT) s) (hG : GW s) (hZ : GZ A s s.heap) {h0 : Nat} {m0 : Nat} {o9 : Nat} {x_studio : Nat} {x_script : Nat} {x_teller : Nat} {x_planner : Nat} {x_plan : Nat} {x_drifts : Nat} {x_floor : Nat} {x_trial : Nat} {x_tape : Nat} {s_puppets : Nat} {s_shots : Nat} {s_sounds : Nat} {s_rates : Nat} {s_dresses : Nat} {fs : List Value} (hfs : fs.length = 109) (hfs_0 : fs[0]? = some (.int 0)) (hfs_38 : fs[38]? = some (.int 0)) {H : Heap} {locs : List Loc} (hP : va_P D vwCl [(h0, .inr (11, [.ref x_studio, .ref x_script, .ref x_teller, .ref x_planner, .ref x_plan, .ref x_drifts, .ref x_floor, .ref x_trial, .ref x_tape, .int 0, .int (-1)])), (x_studio, .inr (8, [.ref s_puppets, .int 0, .ref s_shots, .int 0, .ref s_sounds, .ref s_rates, .ref s_dresses])), (m0, .inr (12, fs))] H) (hD : va_D A [(h0, .inr (11, [.ref x_studio, .ref x_script, .ref x_teller, .ref x_planner, .ref x_plan, .ref x_drifts, .ref x_floor, .ref x_trial, .ref x_tape, .int 0, .int (-1)])), (x_studio, .inr (8, [.ref s_puppets, .int 0, .ref s_shots, .int 0, .ref s_sounds, .ref s_rates, .ref s_dresses])), (m0, .inr (12, fs))]) (hS : va_S A s.heap H locs) {ls : Array Slot} (hl : lv_has ls 7 [(4, .int 0), (3, .ref o9), (2, .ref m0), (1, .ref h0), (0, .ref b)]) : W p l e room_1 s m #[Value.ref b] below meth c H locs 215 539454 (lw_Z below #[Value.ref b] s) (F0 m 1703 ls []) := by
  obtain ⟨hx, hb, hr, hml, hown, hts0, hX, hbl, hlocks, hgv⟩ := id C0
  have hts : ∀ w ∈ wsL_law, w.before #[Value.ref b] s = true := fun w h => hts0 w (wsL_law_in w h)
  have hbA : ¬ A b := fun h => absurd (hAl b h) (Nat.not_le.mpr hbl)
  have hown : s.vm.findClass RL = some m.cls := hown
  have hb : c.code = cL_law := hb
  refine lv_aload_n hx hb dL_law_1703 rfl (lv_at hl 3 rfl) ?_
  refine lv_aload_n hx hb dL_law_1704 rfl (lv_at hl 4 rfl) ?_
  refine lv_iload hx hb dL_law_1705 (lv_at hl 0 rfl) ?_
  refine lv_iconst (v := 1) hx hb dL_law_1707 (by decide) ?_
  refine lv_iadd hx hb dL_law_1708 ?_
  refine lv_topi (fun z_1 ez_1 => ?_)
  obtain rfl : z_1 = 1 := ez_1.trans (by decide)
  refine va_sld hx hb hX hbl hbA hS (by unfold vp_in; decide) dL_law_1709 ?_
  refine lv_aload_n hx hb dL_law_1710 rfl (lv_at hl 4 rfl) ?_
  refine lv_iload hx hb dL_law_1711 (lv_at hl 0 rfl) ?_
  refine lv_iconst (v := 2) hx hb dL_law_1713 (by decide) ?_
  refine lv_iadd hx hb dL_law_1714 ?_
  refine lv_topi (fun z_2 ez_2 => ?_)
  obtain rfl : z_2 = 2 := ez_2.trans (by decide)
  refine va_sld hx hb hX hbl hbA hS (by unfold vp_in; decide) dL_law_1715 ?_
  refine lv_aload_n hx hb dL_law_1716 rfl (lv_at hl 4 rfl) ?_
  refine lv_iload hx hb dL_law_1717 (lv_at hl 0 rfl) ?_
  refine lv_iconst (v := 3) hx hb dL_law_1719 (by decide) ?_
  refine lv_iadd hx hb dL_law_1720 ?_
  refine lv_topi (fun z_3 ez_3 => ?_)
  obtain rfl : z_3 = 3 := ez_3.trans (by decide)
  refine va_sld hx hb hX hbl hbA hS (by unfold vp_in; decide) dL_law_1721 ?_
  refine lv_aload_n hx hb dL_law_1722 rfl (lv_at hl 1 rfl) ?_
  have hF := va_free (wc := [(h0, .inr (11, [.ref x_studio, .ref x_script, .ref x_teller, .ref x_planner, .ref x_plan, .ref x_drifts, .ref x_floor, .ref x_trial, .ref x_tape, .int 0, .int (-1)])), (x_studio, .inr (8, [.ref s_puppets, .int 0, .ref s_shots, .int 0, .ref s_sounds, .ref s_rates, .ref s_dresses]))]) hD hS hA [0, 1] rfl
  refine va_calli (vx_runSW (As := [.ref h0, .int (xs (Int32.toNatClampNeg 1)), .int (xs (Int32.toNatClampNeg 2)), .int (xs (Int32.toNatClampNeg 3)), .ref o9]) (rest := []) ⟨hx, hb, hml, hown, hts⟩ (c_L_best l hst D cT h0 (xs (Int32.toNatClampNeg 1)) (xs (Int32.toNatClampNeg 2)) (xs (Int32.toNatClampNeg 3)) o9 x_studio x_script x_teller x_planner x_plan x_drifts x_floor x_trial x_tape s_puppets s_shots s_sounds s_rates s_dresses _ ) (vx_cwSW 5 hts gL_law_L_best rfl rfl rfl (by decide +kernel) ⟨Nat.le_of_ble_eq_true rfl, Nat.le_of_ble_eq_true rfl⟩) (ps_z hP hD hK hG hZ hS hF [0, 1] rfl rfl rfl) rfl rfl hl.1 rfl (lv_room (Nat.le_of_ble_eq_true rfl)) dL_law_1723 ⟨Nat.le_of_ble_eq_true rfl, Nat.le_of_ble_eq_true rfl⟩) hS (fun q _ h => hF q h) hF (fun r_4 uu9 tt9 H locs ht hvm wr_4 hB hz1 hk1 hS => ?_)
  obtain ⟨hP, hD⟩ := va_join (wr := [(m0, .inr (12, fs))]) (w1 := []) hP hD [0, 1] [2] rfl rfl (by decide) (by decide) hk1 hF vp_nil vd_nil
  have hP : va_P D vwCl [(m0, .inr (12, fs))] _ := hP
  have hD : va_D A [(m0, .inr (12, fs))] := hD
  refine W.widen (k := 216) (n := 539460) (Nat.le_of_ble_eq_true rfl) (Nat.le_of_ble_eq_true rfl) ?_
  obtain rfl : r_4 = 1 := wr_4.trans (rfl)
  refine lv_istore (lv' := [(5, .int 1), (4, .int 0), (3, .ref o9), (2, .ref m0), (1, .ref h0), (0, .ref b)]) hx hb dL_law_1726 hl (by decide) rfl (fun ls hl => ?_)
  refine lv_aload_n hx hb dL_law_1728 rfl (lv_at hl 3 rfl) ?_
  refine lv_aload_n hx hb dL_law_1729 rfl (lv_at hl 5 rfl) ?_
  refine lv_iload hx hb dL_law_1730 (lv_at hl 1 rfl) ?_
  refine lv_iconst (v := 1) hx hb dL_law_1732 (by decide) ?_
  refine lv_iadd hx hb dL_law_1733 ?_
  refine lv_topi (fun z_5 ez_5 => ?_)
  obtain rfl : z_5 = 1 := ez_5.trans (by decide)
  refine va_sld hx hb hX hbl hbA hS (by unfold vp_in; decide) dL_law_1734 ?_
  refine lv_aload_n hx hb dL_law_1735 rfl (lv_at hl 5 rfl) ?_
  refine lv_iload hx hb dL_law_1736 (lv_at hl 1 rfl) ?_
  refine lv_iconst (v := 2) hx hb dL_law_1738 (by decide) ?_
  refine lv_iadd hx hb dL_law_1739 ?_
  refine lv_topi (fun z_6 ez_6 => ?_)
  obtain rfl : z_6 = 2 := ez_6.trans (by decide)
  refine va_sld hx hb hX hbl hbA hS (by unfold vp_in; decide) dL_law_1740 ?_
  refine lv_aload_n hx hb dL_law_1741 rfl (lv_at hl 5 rfl) ?_
  refine lv_iload hx hb dL_law_1742 (lv_at hl 1 rfl) ?_
  refine lv_iconst (v := 3) hx hb dL_law_1744 (by decide) ?_
  refine lv_iadd hx hb dL_law_1745 ?_
  refine lv_topi (fun z_7 ez_7 => ?_)
  obtain rfl : z_7 = 3 := ez_7.trans (by decide)
  refine va_sld hx hb hX hbl hbA hS (by unfold vp_in; decide) dL_law_1746 ?_
  have hF := va_free (wc := [(m0, .inr (12, fs))]) hD hS hA [0] rfl
  refine va_calli (va_runV (As := [.int (xs (Int32.toNatClampNeg 1)), .int (xs (Int32.toNatClampNeg 2)), .int (xs (Int32.toNatClampNeg 3))]) (rest := []) ⟨hx, hb, hml, hown, hts⟩ (c_X12_best l D cT m0 (xs (Int32.toNatClampNeg 1)) (xs (Int32.toNatClampNeg 2)) (xs (Int32.toNatClampNeg 3)) fs 0 _ (hfs) (hfs_0) (hfs_38)) (cwV 3 hts gL_law_X12_best rfl rfl rfl (by decide +kernel) ⟨Nat.le_of_ble_eq_true rfl, Nat.le_of_ble_eq_true rfl⟩) (pv_w hP hD hK hG [0] rfl rfl rfl 0 rfl rfl) rfl rfl hl.1 rfl (lv_room (Nat.le_of_ble_eq_true rfl)) dL_law_1747 ⟨Nat.le_of_ble_eq_true rfl, Nat.le_of_ble_eq_true rfl⟩) hS (fun q _ h => hF q h) hF (fun r_8 uu9 tt9 H locs ht hvm wr_8 hB hz1 hk1 hS => ?_)
  obtain ⟨gs_9, hgs_9, hgs_9_0, hP1, hD1⟩ := hB
  rw [ht] at hP1
  obtain ⟨hP, hD⟩ := va_join (wr := []) (w1 := [(m0, .inr (12, gs_9))]) hP hD [0] [] rfl rfl (by decide) (by decide) hk1 hF hP1 hD1
  have hP : va_P D vwCl [(m0, .inr (12, gs_9))] _ := hP
  have hD : va_D A [(m0, .inr (12, gs_9))] := hD
  refine lv_istore (lv' := [(6, .int r_8), (5, .int 1), (4, .int 0), (3, .ref o9), (2, .ref m0), (1, .ref h0), (0, .ref b)]) hx hb dL_law_1750 hl (by decide) rfl (fun ls hl => ?_)
  refine lv_aload_n hx hb dL_law_1752 rfl (lv_at hl 4 rfl) ?_
  have hF := va_free (wc := [(m0, .inr (12, gs_9))]) hD hS hA [0] rfl
  refine va_calli (va_runV (As := []) (rest := []) ⟨hx, hb, hml, hown, hts⟩ (c_X12_thrown l D cT m0 gs_9 1 _ (hgs_9) (hgs_9_0)) (cwV 0 hts gL_law_X12_thrown rfl rfl rfl (by decide +kernel) ⟨Nat.le_of_ble_eq_true rfl, Nat.le_of_ble_eq_true rfl⟩) (pv_w hP hD hK hG [0] rfl rfl rfl 0 rfl rfl) rfl rfl hl.1 rfl (lv_room (Nat.le_of_ble_eq_true rfl)) dL_law_1753 ⟨Nat.le_of_ble_eq_true rfl, Nat.le_of_ble_eq_true rfl⟩) hS (fun q _ h => hF q h) hF (fun r_12 uu9 tt9 H locs ht hvm wr_12 hB hz1 hk1 hS => ?_)
  obtain ⟨hP1, hD1⟩ := hB
  rw [ht] at hP1
  obtain ⟨hP, hD⟩ := va_join (wr := []) (w1 := [(m0, .inr (12, gs_9))]) hP hD [0] [] rfl rfl (by decide) (by decide) hk1 hF hP1 hD1
  have hP : va_P D vwCl [(m0, .inr (12, gs_9))] _ := hP
  have hD : va_D A [(m0, .inr (12, gs_9))] := hD
  obtain rfl : r_12 = 1 := wr_12.trans (rfl)
  refine lv_iload hx hb dL_law_1756 (lv_at hl 1 rfl) ?_
  refine lv_icmp_eq (tgt := 1763) hx hb dL_law_1758 (by decide) (fun _ => ?_) (fun c9 => absurd c9 (by decide))
  refine lv_iload hx hb dL_law_1763 (lv_at hl 1 rfl) ?_
  refine lv_if_ne (tgt := 1780) hx hb dL_law_1765 (by decide) (fun _ => ?_) (fun c9 => absurd c9 (by decide))
  refine lv_goto (tgt := 3043) hx hb dL_law_1780 (by decide) ?_
  exact law_end C0 hA hAl hS (lv_sub hl [2, 6] rfl) (Nat.le_of_ble_eq_true rfl) (Nat.le_of_ble_eq_true rfl)
