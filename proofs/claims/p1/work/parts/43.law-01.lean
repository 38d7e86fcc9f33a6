theorem dL_law_1014 : decode cL_law 1014 = .ok (.goto 2029, 3) := by decide +kernel
theorem dL_law_937 : decode cL_law 937 = .ok (.aload_n 1, 1) := by decide +kernel
theorem dL_law_938 : decode cL_law 938 = .ok (.aload_n 0, 1) := by decide +kernel
theorem dL_law_939 : decode cL_law 939 = .ok (.iload 4, 2) := by decide +kernel
theorem dL_law_941 : decode cL_law 941 = .ok (.iconst 1, 1) := by decide +kernel
theorem dL_law_942 : decode cL_law 942 = .ok (.iadd, 1) := by decide +kernel
theorem dL_law_943 : decode cL_law 943 = .ok (.iaload, 1) := by decide +kernel
theorem dL_law_944 : decode cL_law 944 = .ok (.aload_n 0, 1) := by decide +kernel
theorem dL_law_945 : decode cL_law 945 = .ok (.iload 4, 2) := by decide +kernel
theorem dL_law_947 : decode cL_law 947 = .ok (.iconst 2, 1) := by decide +kernel
theorem dL_law_948 : decode cL_law 948 = .ok (.iadd, 1) := by decide +kernel
theorem dL_law_949 : decode cL_law 949 = .ok (.iaload, 1) := by decide +kernel
theorem dL_law_950 : decode cL_law 950 = .ok (.aload_n 0, 1) := by decide +kernel
theorem dL_law_951 : decode cL_law 951 = .ok (.iload 4, 2) := by decide +kernel
theorem dL_law_953 : decode cL_law 953 = .ok (.iconst 3, 1) := by decide +kernel
theorem dL_law_954 : decode cL_law 954 = .ok (.iadd, 1) := by decide +kernel
theorem dL_law_955 : decode cL_law 955 = .ok (.iaload, 1) := by decide +kernel
theorem dL_law_956 : decode cL_law 956 = .ok (.aload_n 3, 1) := by decide +kernel
theorem dL_law_957 : decode cL_law 957 = .ok (.invokestatic 187, 3) := by decide +kernel
theorem dL_law_960 : decode cL_law 960 = .ok (.istore 5, 2) := by decide +kernel
theorem dL_law_962 : decode cL_law 962 = .ok (.aload_n 2, 1) := by decide +kernel
theorem dL_law_963 : decode cL_law 963 = .ok (.aload_n 0, 1) := by decide +kernel
theorem dL_law_964 : decode cL_law 964 = .ok (.iload 4, 2) := by decide +kernel
theorem dL_law_966 : decode cL_law 966 = .ok (.iconst 1, 1) := by decide +kernel
theorem dL_law_967 : decode cL_law 967 = .ok (.iadd, 1) := by decide +kernel
theorem dL_law_968 : decode cL_law 968 = .ok (.iaload, 1) := by decide +kernel
theorem dL_law_969 : decode cL_law 969 = .ok (.aload_n 0, 1) := by decide +kernel
theorem dL_law_970 : decode cL_law 970 = .ok (.iload 4, 2) := by decide +kernel
theorem dL_law_972 : decode cL_law 972 = .ok (.iconst 2, 1) := by decide +kernel
theorem dL_law_973 : decode cL_law 973 = .ok (.iadd, 1) := by decide +kernel
theorem dL_law_974 : decode cL_law 974 = .ok (.iaload, 1) := by decide +kernel
theorem dL_law_975 : decode cL_law 975 = .ok (.aload_n 0, 1) := by decide +kernel
theorem dL_law_976 : decode cL_law 976 = .ok (.iload 4, 2) := by decide +kernel
theorem dL_law_978 : decode cL_law 978 = .ok (.iconst 3, 1) := by decide +kernel
theorem dL_law_979 : decode cL_law 979 = .ok (.iadd, 1) := by decide +kernel
theorem dL_law_980 : decode cL_law 980 = .ok (.iaload, 1) := by decide +kernel
theorem dL_law_981 : decode cL_law 981 = .ok (.invokevirtual 189, 3) := by decide +kernel
theorem dL_law_984 : decode cL_law 984 = .ok (.istore 6, 2) := by decide +kernel
theorem dL_law_986 : decode cL_law 986 = .ok (.aload_n 2, 1) := by decide +kernel
theorem dL_law_987 : decode cL_law 987 = .ok (.invokevirtual 149, 3) := by decide +kernel
theorem dL_law_990 : decode cL_law 990 = .ok (.iload 5, 2) := by decide +kernel
theorem dL_law_992 : decode cL_law 992 = .ok (.if_icmp .eq 5, 3) := by decide +kernel
theorem dL_law_997 : decode cL_law 997 = .ok (.iload 5, 2) := by decide +kernel
theorem dL_law_999 : decode cL_law 999 = .ok (.ifCond .ne 15, 3) := by decide +kernel
set_option maxRecDepth 100000 in
theorem zgL_law_L_camera_187_w : GoodIn lw_tbl zsL_camera := goodIn_app (goodIn_sub (ws := [.codeWith yL_camera cL_camera 6 (some .int) [(0, 12, 15, 37)]]) (fun _ h9 => List.mem_singleton.mp h9 ▸ List.mem_of_getElem? (i := 1433) rfl) (by decide +kernel)) (goodIn_app (goodIn_app (goodIn_app (goodIn_sub (ws := [.methodLink RL 47 yX11_camera, .instanceMethod yX11_camera, .selects RX11 yX11_camera yX11_camera, .initialized RX11, .code yX11_camera cX11_camera 5 (some .int), .classLink RL 37 "java/util/NoSuchElementException", .methodLink RX11 166 yX11_needShot, .instanceMethod yX11_needShot, .selects RX11 yX11_needShot yX11_needShot, .code yX11_needShot cX11_needShot 3 (some (.object "PuppetFilm$Shot")), .classLink RX11 408 "java/util/NoSuchElementException", .initialized "java/util/NoSuchElementException", .fieldLink RX11 10 "PuppetFilm" "studio" "LPuppetFilm$Studio;", .methodLink RX11 271 yX8_shotAt, .instanceMethod yX8_shotAt, .selects RX8 yX8_shotAt yX8_shotAt, .initialized RX8, .code yX8_shotAt cX8_shotAt 2 (some (.object "PuppetFilm$Shot")), .fieldLink RX8 19 "PuppetFilm$Studio" "shots" "[LPuppetFilm$Shot;"]) (mem_ps [1434, 1435, 1436, 118, 1437, 1357, 1362, 1364, 45, 1365, 1367, 145, 554, 1366, 669, 670, 119, 671, 171] (by decide +kernel)) (by decide +kernel)) zgC_X11) zgC_X8) zgZ)
set_option maxRecDepth 100000 in
theorem zgL_law_L_camera_187 : GoodIn lw_tbl (va_wsS RL 187 yL_camera zsL_camera) := goodIn_app (goodIn_sub (mem_ps [1431, 1432, 117] (by decide +kernel)) (by decide +kernel)) zgL_law_L_camera_187_w
set_option maxRecDepth 100000 in
theorem zgL_law_X12_camera_189_w : GoodIn lw_tbl wsX12_camera := goodIn_app (goodIn_sub (ws := [.code yX12_camera cX12_camera 4 (some .int)]) (fun _ h9 => List.mem_singleton.mp h9 ▸ List.mem_of_getElem? (i := 2408) rfl) (by decide +kernel)) (goodIn_app (goodIn_sub (ws := [.fieldLink RX12 1 "PuppetFilmModel" "thrown" "I", .fieldLink RX12 95 "PuppetFilmModel" "axes" "[I", .methodLink RX12 436 yX12_isShot, .instanceMethod yX12_isShot, .selects RX12 yX12_isShot yX12_isShot, .initialized RX12, .code yX12_isShot cX12_isShot 2 (some .boolean), .fieldLink RX12 398 "PuppetFilmModel" "shots" "I", .methodLink RX12 267 yX12_within, .static yX12_within, .code yX12_within cX12_within 3 (some .boolean), .methodLink RX12 271 yX12_may, .instanceMethod yX12_may, .selects RX12 yX12_may yX12_may, .code yX12_may cX12_may 3 (some .boolean), .methodLink RX12 442 yX12_isFrame, .instanceMethod yX12_isFrame, .selects RX12 yX12_isFrame yX12_isFrame, .code yX12_isFrame cX12_isFrame 3 (some .boolean), .fieldLink RX12 104 "PuppetFilmModel" "frames" "[I", .methodLink RX12 404 yX12_place, .static yX12_place, .code yX12_place cX12_place 2 (some .int)]) (mem_ps [1882, 1923, 2376, 2378, 86, 129, 2379, 1920, 2222, 2223, 2224, 2225, 2227, 63, 2228, 2388, 2390, 88, 2391, 1926, 2345, 2346, 2347] (by decide +kernel)) (by decide +kernel)) zgC_X12)
set_option maxRecDepth 100000 in
theorem zgL_law_X12_camera_189 : GoodIn lw_tbl (wsV RL 189 RX12 yX12_camera wsX12_camera) := goodIn_app (goodIn_sub (mem_ps [2405, 2406, 2407, 129] (by decide +kernel)) (by decide +kernel)) zgL_law_X12_camera_189_w
set_option maxHeartbeats 8000000 in
set_option maxRecDepth 100000 in
/-- the law: camera -/
theorem law_case_11 {p : Program} {l : Launch} {e : Env} {s : State} {m : MethodId} {below : List Frame} {meth : Method} {c : Code} {D : va_G} {cT : Nat → ClassId} {b : Nat} {xs : Nat → Int32} {A : Nat → Prop} (hst : l.stackTraces = false) (C0 : lw_At p s m meth c b 7 xs) (hA : ∀ q : Nat, s.heap.size ≤ q → A q) (hAl : ∀ q, A q → s.heap.size ≤ q) (hK : va_K D vwCl (TY cT) s) (hG : GW s) (hZ : GZ A s s.heap) {h0 : Nat} {m0 : Nat} {o9 : Nat} {x_studio : Nat} {x_script : Nat} {x_teller : Nat} {x_planner : Nat} {x_plan : Nat} {x_drifts : Nat} {x_floor : Nat} {x_trial : Nat} {x_tape : Nat} {s_puppets : Nat} {s_shots : Nat} {s_sounds : Nat} {s_rates : Nat} {s_dresses : Nat} {fs : List Value} (hfs : fs.length = 109) (hfs_0 : fs[0]? = some (.int 0)) (hfs_1 : fs[1]? = some (.int 0)) (hfs_38 : fs[38]? = some (.int 0)) {H : Heap} {locs : List Loc} (hP : va_P D vwCl [(h0, .inr (11, [.ref x_studio, .ref x_script, .ref x_teller, .ref x_planner, .ref x_plan, .ref x_drifts, .ref x_floor, .ref x_trial, .ref x_tape, .int 0, .int (-1)])), (x_studio, .inr (8, [.ref s_puppets, .int 0, .ref s_shots, .int 0, .ref s_sounds, .ref s_rates, .ref s_dresses])), (s_shots, .inl (cT 5, 12, .inr (.inr (.inr (.inr (fun _ => none)))))), (m0, .inr (12, fs))] H) (hD : va_D A [(h0, .inr (11, [.ref x_studio, .ref x_script, .ref x_teller, .ref x_planner, .ref x_plan, .ref x_drifts, .ref x_floor, .ref x_trial, .ref x_tape, .int 0, .int (-1)])), (x_studio, .inr (8, [.ref s_puppets, .int 0, .ref s_shots, .int 0, .ref s_sounds, .ref s_rates, .ref s_dresses])), (s_shots, .inl (cT 5, 12, .inr (.inr (.inr (.inr (fun _ => none)))))), (m0, .inr (12, fs))]) (hS : va_S A s.heap H locs) {ls : Array Slot} (hl : lv_has ls 7 [(4, .int 0), (3, .ref o9), (2, .ref m0), (1, .ref h0), (0, .ref b)]) : W p l e room_1 s m #[Value.ref b] below meth c H locs 215 539454 (lw_Z below #[Value.ref b] s) (F0 m 937 ls []) := by
  obtain ⟨hx, hb, hr, hml, hown, hts0, hX, hbl, hlocks, hgv⟩ := id C0
  have hts := hts0
  have hbA : ¬ A b := fun h => absurd (hAl b h) (Nat.not_le.mpr hbl)
  have hown : s.vm.findClass RL = some m.cls := hown
  have hb : c.code = cL_law := hb
  refine lv_aload_n hx hb dL_law_937 rfl (lv_at hl 3 rfl) ?_
  refine lv_aload_n hx hb dL_law_938 rfl (lv_at hl 4 rfl) ?_
  refine lv_iload hx hb dL_law_939 (lv_at hl 0 rfl) ?_
  refine lv_iconst (v := 1) hx hb dL_law_941 (by decide) ?_
  refine lv_iadd hx hb dL_law_942 ?_
  refine lv_topi (fun z_1 ez_1 => ?_)
  obtain rfl : z_1 = 1 := ez_1.trans (by decide)
  refine va_sld hx hb hX hbl hbA hS (by unfold vp_in; decide) dL_law_943 ?_
  refine lv_aload_n hx hb dL_law_944 rfl (lv_at hl 4 rfl) ?_
  refine lv_iload hx hb dL_law_945 (lv_at hl 0 rfl) ?_
  refine lv_iconst (v := 2) hx hb dL_law_947 (by decide) ?_
  refine lv_iadd hx hb dL_law_948 ?_
  refine lv_topi (fun z_2 ez_2 => ?_)
  obtain rfl : z_2 = 2 := ez_2.trans (by decide)
  refine va_sld hx hb hX hbl hbA hS (by unfold vp_in; decide) dL_law_949 ?_
  refine lv_aload_n hx hb dL_law_950 rfl (lv_at hl 4 rfl) ?_
  refine lv_iload hx hb dL_law_951 (lv_at hl 0 rfl) ?_
  refine lv_iconst (v := 3) hx hb dL_law_953 (by decide) ?_
  refine lv_iadd hx hb dL_law_954 ?_
  refine lv_topi (fun z_3 ez_3 => ?_)
  obtain rfl : z_3 = 3 := ez_3.trans (by decide)
  refine va_sld hx hb hX hbl hbA hS (by unfold vp_in; decide) dL_law_955 ?_
  refine lv_aload_n hx hb dL_law_956 rfl (lv_at hl 1 rfl) ?_
  have hF := va_free (wc := [(h0, .inr (11, [.ref x_studio, .ref x_script, .ref x_teller, .ref x_planner, .ref x_plan, .ref x_drifts, .ref x_floor, .ref x_trial, .ref x_tape, .int 0, .int (-1)])), (x_studio, .inr (8, [.ref s_puppets, .int 0, .ref s_shots, .int 0, .ref s_sounds, .ref s_rates, .ref s_dresses])), (s_shots, .inl (cT 5, 12, .inr (.inr (.inr (.inr (fun _ => none))))))]) hD hS hA [0, 1, 2] rfl
  refine va_calli (vx_runSW (As := [.ref h0, .int (xs (Int32.toNatClampNeg 1)), .int (xs (Int32.toNatClampNeg 2)), .int (xs (Int32.toNatClampNeg 3)), .ref o9]) (rest := []) ⟨hx, hb, hml, hown, hts⟩ (c_L_camera l hst D cT h0 (xs (Int32.toNatClampNeg 1)) (xs (Int32.toNatClampNeg 2)) (xs (Int32.toNatClampNeg 3)) o9 x_studio x_script x_teller x_planner x_plan x_drifts x_floor x_trial x_tape s_puppets s_shots s_sounds s_rates s_dresses _ ) (vx_cwSW 5 hts zgL_law_L_camera_187 rfl rfl rfl (by decide +kernel) ⟨Nat.le_of_ble_eq_true rfl, Nat.le_of_ble_eq_true rfl⟩) (ps_z hP hD hK hG hZ hS hF [0, 1, 2] rfl rfl rfl) rfl rfl hl.1 rfl (lv_room (Nat.le_of_ble_eq_true rfl)) dL_law_957 ⟨Nat.le_of_ble_eq_true rfl, Nat.le_of_ble_eq_true rfl⟩) hS (fun q _ h => hF q h) hF (fun r_4 uu9 tt9 H locs ht hvm wr_4 hB hz1 hk1 hS => ?_)
  obtain ⟨hP, hD⟩ := va_join (wr := [(m0, .inr (12, fs))]) (w1 := []) hP hD [0, 1, 2] [3] rfl rfl (by decide) (by decide) hk1 hF vp_nil vd_nil
  have hP : va_P D vwCl [(m0, .inr (12, fs))] _ := hP
  have hD : va_D A [(m0, .inr (12, fs))] := hD
  refine W.widen (k := 216) (n := 539460) (Nat.le_of_ble_eq_true rfl) (Nat.le_of_ble_eq_true rfl) ?_
  obtain rfl : r_4 = 1 := wr_4.trans (rfl)
  refine lv_istore (lv' := [(5, .int 1), (4, .int 0), (3, .ref o9), (2, .ref m0), (1, .ref h0), (0, .ref b)]) hx hb dL_law_960 hl (by decide) rfl (fun ls hl => ?_)
  refine lv_aload_n hx hb dL_law_962 rfl (lv_at hl 3 rfl) ?_
  refine lv_aload_n hx hb dL_law_963 rfl (lv_at hl 5 rfl) ?_
  refine lv_iload hx hb dL_law_964 (lv_at hl 1 rfl) ?_
  refine lv_iconst (v := 1) hx hb dL_law_966 (by decide) ?_
  refine lv_iadd hx hb dL_law_967 ?_
  refine lv_topi (fun z_5 ez_5 => ?_)
  obtain rfl : z_5 = 1 := ez_5.trans (by decide)
  refine va_sld hx hb hX hbl hbA hS (by unfold vp_in; decide) dL_law_968 ?_
  refine lv_aload_n hx hb dL_law_969 rfl (lv_at hl 5 rfl) ?_
  refine lv_iload hx hb dL_law_970 (lv_at hl 1 rfl) ?_
  refine lv_iconst (v := 2) hx hb dL_law_972 (by decide) ?_
  refine lv_iadd hx hb dL_law_973 ?_
  refine lv_topi (fun z_6 ez_6 => ?_)
  obtain rfl : z_6 = 2 := ez_6.trans (by decide)
  refine va_sld hx hb hX hbl hbA hS (by unfold vp_in; decide) dL_law_974 ?_
  refine lv_aload_n hx hb dL_law_975 rfl (lv_at hl 5 rfl) ?_
  refine lv_iload hx hb dL_law_976 (lv_at hl 1 rfl) ?_
  refine lv_iconst (v := 3) hx hb dL_law_978 (by decide) ?_
  refine lv_iadd hx hb dL_law_979 ?_
  refine lv_topi (fun z_7 ez_7 => ?_)
  obtain rfl : z_7 = 3 := ez_7.trans (by decide)
  refine va_sld hx hb hX hbl hbA hS (by unfold vp_in; decide) dL_law_980 ?_
  have hF := va_free (wc := [(m0, .inr (12, fs))]) hD hS hA [0] rfl
  refine va_calli (va_runV (As := [.int (xs (Int32.toNatClampNeg 1)), .int (xs (Int32.toNatClampNeg 2)), .int (xs (Int32.toNatClampNeg 3))]) (rest := []) ⟨hx, hb, hml, hown, hts⟩ (c_X12_camera l D cT m0 (xs (Int32.toNatClampNeg 1)) (xs (Int32.toNatClampNeg 2)) (xs (Int32.toNatClampNeg 3)) fs 0 _ (hfs) (hfs_0) (hfs_1) (hfs_38)) (cwV 3 hts zgL_law_X12_camera_189 rfl rfl rfl (by decide +kernel) ⟨Nat.le_of_ble_eq_true rfl, Nat.le_of_ble_eq_true rfl⟩) (pv_w hP hD hK hG [0] rfl rfl rfl 0 rfl rfl) rfl rfl hl.1 rfl (lv_room (Nat.le_of_ble_eq_true rfl)) dL_law_981 ⟨Nat.le_of_ble_eq_true rfl, Nat.le_of_ble_eq_true rfl⟩) hS (fun q _ h => hF q h) hF (fun r_8 uu9 tt9 H locs ht hvm wr_8 hB hz1 hk1 hS => ?_)
  obtain ⟨gs_9, hgs_9, hgs_9_0, hP1, hD1⟩ := hB
  rw [ht] at hP1
  obtain ⟨hP, hD⟩ := va_join (wr := []) (w1 := [(m0, .inr (12, gs_9))]) hP hD [0] [] rfl rfl (by decide) (by decide) hk1 hF hP1 hD1
  have hP : va_P D vwCl [(m0, .inr (12, gs_9))] _ := hP
  have hD : va_D A [(m0, .inr (12, gs_9))] := hD
  refine lv_istore (lv' := [(6, .int r_8), (5, .int 1), (4, .int 0), (3, .ref o9), (2, .ref m0), (1, .ref h0), (0, .ref b)]) hx hb dL_law_984 hl (by decide) rfl (fun ls hl => ?_)
  refine lv_aload_n hx hb dL_law_986 rfl (lv_at hl 4 rfl) ?_
  have hF := va_free (wc := [(m0, .inr (12, gs_9))]) hD hS hA [0] rfl
  refine va_calli (va_runV (As := []) (rest := []) ⟨hx, hb, hml, hown, hts⟩ (c_X12_thrown l D cT m0 gs_9 1 _ (hgs_9) (hgs_9_0)) (cwV 0 hts zgL_law_X12_thrown_149 rfl rfl rfl (by decide +kernel) ⟨Nat.le_of_ble_eq_true rfl, Nat.le_of_ble_eq_true rfl⟩) (pv_w hP hD hK hG [0] rfl rfl rfl 0 rfl rfl) rfl rfl hl.1 rfl (lv_room (Nat.le_of_ble_eq_true rfl)) dL_law_987 ⟨Nat.le_of_ble_eq_true rfl, Nat.le_of_ble_eq_true rfl⟩) hS (fun q _ h => hF q h) hF (fun r_12 uu9 tt9 H locs ht hvm wr_12 hB hz1 hk1 hS => ?_)
  obtain ⟨hP1, hD1⟩ := hB
  rw [ht] at hP1
  obtain ⟨hP, hD⟩ := va_join (wr := []) (w1 := [(m0, .inr (12, gs_9))]) hP hD [0] [] rfl rfl (by decide) (by decide) hk1 hF hP1 hD1
  have hP : va_P D vwCl [(m0, .inr (12, gs_9))] _ := hP
  have hD : va_D A [(m0, .inr (12, gs_9))] := hD
  obtain rfl : r_12 = 1 := wr_12.trans (rfl)
  refine lv_iload hx hb dL_law_990 (lv_at hl 1 rfl) ?_
  refine lv_icmp_eq (tgt := 997) hx hb dL_law_992 (by decide) (fun _ => ?_) (fun c9 => absurd c9 (by decide))
  refine lv_iload hx hb dL_law_997 (lv_at hl 1 rfl) ?_
  refine lv_if_ne (tgt := 1014) hx hb dL_law_999 (by decide) (fun _ => ?_) (fun c9 => absurd c9 (by decide))
  refine lv_goto (tgt := 3043) hx hb dL_law_1014 (by decide) ?_
  exact law_end C0 hA hAl hS (lv_sub hl [2, 6] rfl) (Nat.le_of_ble_eq_true rfl) (Nat.le_of_ble_eq_true rfl)
theorem dL_law_1017 : decode cL_law 1017 = .ok (.aload_n 1, 1) := by decide +kernel
theorem dL_law_1018 : decode cL_law 1018 = .ok (.aload_n 0, 1) := by decide +kernel
theorem dL_law_1019 : decode cL_law 1019 = .ok (.iload 4, 2) := by decide +kernel
theorem dL_law_1021 : decode cL_law 1021 = .ok (.iconst 1, 1) := by decide +kernel
theorem dL_law_1022 : decode cL_law 1022 = .ok (.iadd, 1) := by decide +kernel
theorem dL_law_1023 : decode cL_law 1023 = .ok (.iaload, 1) := by decide +kernel
theorem dL_law_1024 : decode cL_law 1024 = .ok (.aload_n 0, 1) := by decide +kernel
theorem dL_law_1025 : decode cL_law 1025 = .ok (.iload 4, 2) := by decide +kernel
theorem dL_law_1027 : decode cL_law 1027 = .ok (.iconst 2, 1) := by decide +kernel
theorem dL_law_1028 : decode cL_law 1028 = .ok (.iadd, 1) := by decide +kernel
theorem dL_law_1029 : decode cL_law 1029 = .ok (.iaload, 1) := by decide +kernel
theorem dL_law_1030 : decode cL_law 1030 = .ok (.aload_n 0, 1) := by decide +kernel
theorem dL_law_1031 : decode cL_law 1031 = .ok (.iload 4, 2) := by decide +kernel
theorem dL_law_1033 : decode cL_law 1033 = .ok (.iconst 3, 1) := by decide +kernel
theorem dL_law_1034 : decode cL_law 1034 = .ok (.iadd, 1) := by decide +kernel
theorem dL_law_1035 : decode cL_law 1035 = .ok (.iaload, 1) := by decide +kernel
theorem dL_law_1036 : decode cL_law 1036 = .ok (.aload_n 3, 1) := by decide +kernel
theorem dL_law_1037 : decode cL_law 1037 = .ok (.invokestatic 190, 3) := by decide +kernel
theorem dL_law_1040 : decode cL_law 1040 = .ok (.istore 5, 2) := by decide +kernel
theorem dL_law_1042 : decode cL_law 1042 = .ok (.aload_n 2, 1) := by decide +kernel
theorem dL_law_1043 : decode cL_law 1043 = .ok (.aload_n 0, 1) := by decide +kernel
theorem dL_law_1044 : decode cL_law 1044 = .ok (.iload 4, 2) := by decide +kernel
theorem dL_law_1046 : decode cL_law 1046 = .ok (.iconst 1, 1) := by decide +kernel
theorem dL_law_1047 : decode cL_law 1047 = .ok (.iadd, 1) := by decide +kernel
theorem dL_law_1048 : decode cL_law 1048 = .ok (.iaload, 1) := by decide +kernel
theorem dL_law_1049 : decode cL_law 1049 = .ok (.aload_n 0, 1) := by decide +kernel
theorem dL_law_1050 : decode cL_law 1050 = .ok (.iload 4, 2) := by decide +kernel
theorem dL_law_1052 : decode cL_law 1052 = .ok (.iconst 2, 1) := by decide +kernel
theorem dL_law_1053 : decode cL_law 1053 = .ok (.iadd, 1) := by decide +kernel
theorem dL_law_1054 : decode cL_law 1054 = .ok (.iaload, 1) := by decide +kernel
theorem dL_law_1055 : decode cL_law 1055 = .ok (.aload_n 0, 1) := by decide +kernel
theorem dL_law_1056 : decode cL_law 1056 = .ok (.iload 4, 2) := by decide +kernel
theorem dL_law_1058 : decode cL_law 1058 = .ok (.iconst 3, 1) := by decide +kernel
theorem dL_law_1059 : decode cL_law 1059 = .ok (.iadd, 1) := by decide +kernel
theorem dL_law_1060 : decode cL_law 1060 = .ok (.iaload, 1) := by decide +kernel
theorem dL_law_1061 : decode cL_law 1061 = .ok (.invokevirtual 192, 3) := by decide +kernel
theorem dL_law_1064 : decode cL_law 1064 = .ok (.istore 6, 2) := by decide +kernel
theorem dL_law_1066 : decode cL_law 1066 = .ok (.aload_n 2, 1) := by decide +kernel
theorem dL_law_1067 : decode cL_law 1067 = .ok (.invokevirtual 149, 3) := by decide +kernel
theorem dL_law_1070 : decode cL_law 1070 = .ok (.iload 5, 2) := by decide +kernel
theorem dL_law_1072 : decode cL_law 1072 = .ok (.if_icmp .eq 5, 3) := by decide +kernel
theorem dL_law_1077 : decode cL_law 1077 = .ok (.iload 5, 2) := by decide +kernel
theorem dL_law_1079 : decode cL_law 1079 = .ok (.ifCond .ne 15, 3) := by decide +kernel
theorem dL_law_1094 : decode cL_law 1094 = .ok (.goto 1949, 3) := by decide +kernel
set_option maxRecDepth 100000 in
theorem zgL_law_L_state_190_w : GoodIn lw_tbl zsL_state := goodIn_app (goodIn_sub (ws := [.codeWith yL_state cL_state 6 (some .int) [(0, 12, 15, 37)]]) (fun _ h9 => List.mem_singleton.mp h9 ▸ List.mem_of_getElem? (i := 1444) rfl) (by decide +kernel)) (goodIn_app (goodIn_app (goodIn_app (goodIn_sub (ws := [.methodLink RL 50 yX11_state, .instanceMethod yX11_state, .selects RX11 yX11_state yX11_state, .initialized RX11, .code yX11_state cX11_state 7 (some .int), .classLink RL 37 "java/util/NoSuchElementException", .methodLink RX11 166 yX11_needShot, .instanceMethod yX11_needShot, .selects RX11 yX11_needShot yX11_needShot, .code yX11_needShot cX11_needShot 3 (some (.object "PuppetFilm$Shot")), .classLink RX11 408 "java/util/NoSuchElementException", .initialized "java/util/NoSuchElementException", .fieldLink RX11 10 "PuppetFilm" "studio" "LPuppetFilm$Studio;", .methodLink RX11 271 yX8_shotAt, .instanceMethod yX8_shotAt, .selects RX8 yX8_shotAt yX8_shotAt, .initialized RX8, .code yX8_shotAt cX8_shotAt 2 (some (.object "PuppetFilm$Shot")), .fieldLink RX8 19 "PuppetFilm$Studio" "shots" "[LPuppetFilm$Shot;"]) (mem_ps [1445, 1446, 1447, 118, 1448, 1357, 1362, 1364, 45, 1365, 1367, 145, 554, 1366, 669, 670, 119, 671, 171] (by decide +kernel)) (by decide +kernel)) zgC_X11) zgC_X8) zgZ)
set_option maxRecDepth 100000 in
theorem zgL_law_L_state_190 : GoodIn lw_tbl (va_wsS RL 190 yL_state zsL_state) := goodIn_app (goodIn_sub (mem_ps [1442, 1443, 117] (by decide +kernel)) (by decide +kernel)) zgL_law_L_state_190_w
set_option maxRecDepth 100000 in
theorem zgL_law_wsX12_state_r1 : GoodIn lw_tbl wsX12_state_r1 := goodIn_sub (mem_ps [1882, 1883, 1925, 2376, 2378, 86, 129, 2379, 1920, 2222, 2223, 2224, 2225, 2227, 63, 2228, 2388, 2390, 88, 2391, 1926, 2345, 2346, 2347] rfl) (by decide +kernel)
set_option maxRecDepth 100000 in
theorem zgL_law_wsX12_state_r2 : GoodIn lw_tbl wsX12_state_r2 := goodIn_sub (mem_ps [2413, 2415, 91, 2416, 1924, 2417, 2419, 92, 2420, 1884, 1885, 1944, 1945, 1888, 1889, 2393, 2395, 89, 2396, 1921, 2421, 2422, 2423, 2424] rfl) (by decide +kernel)
set_option maxRecDepth 100000 in
theorem zgL_law_wsX12_state_r3 : GoodIn lw_tbl wsX12_state_r3 := goodIn_sub (mem_ps [2426, 93, 2427, 1890, 1891] rfl) (by decide +kernel)
set_option maxRecDepth 100000 in
theorem zgL_law_X12_state_192_w : GoodIn lw_tbl wsX12_state := goodIn_app (goodIn_sub (ws := [.code yX12_state cX12_state 5 (some .int)]) (fun _ h9 => List.mem_singleton.mp h9 ▸ List.mem_of_getElem? (i := 2412) rfl) (by decide +kernel)) (goodIn_app (goodIn_app zgL_law_wsX12_state_r1 (goodIn_app zgL_law_wsX12_state_r2 zgL_law_wsX12_state_r3)) zgC_X12)
set_option maxRecDepth 100000 in
theorem zgL_law_X12_state_192 : GoodIn lw_tbl (wsV RL 192 RX12 yX12_state wsX12_state) := goodIn_app (goodIn_sub (mem_ps [2409, 2410, 2411, 129] (by decide +kernel)) (by decide +kernel)) zgL_law_X12_state_192_w
set_option maxHeartbeats 8000000 in
set_option maxRecDepth 100000 in
/-- the law: state -/
theorem law_case_12 {p : Program} {l : Launch} {e : Env} {s : State} {m : MethodId} {below : List Frame} {meth : Method} {c : Code} {D : va_G} {cT : Nat → ClassId} {b : Nat} {xs : Nat → Int32} {A : Nat → Prop} (hst : l.stackTraces = false) (C0 : lw_At p s m meth c b 7 xs) (hA : ∀ q : Nat, s.heap.size ≤ q → A q) (hAl : ∀ q, A q → s.heap.size ≤ q) (hK : va_K D vwCl (TY cT) s) (hG : GW s) (hZ : GZ A s s.heap) {h0 : Nat} {m0 : Nat} {o9 : Nat} {x_studio : Nat} {x_script : Nat} {x_teller : Nat} {x_planner : Nat} {x_plan : Nat} {x_drifts : Nat} {x_floor : Nat} {x_trial : Nat} {x_tape : Nat} {s_puppets : Nat} {s_shots : Nat} {s_sounds : Nat} {s_rates : Nat} {s_dresses : Nat} {fs : List Value} (hfs : fs.length = 109) (hfs_0 : fs[0]? = some (.int 0)) (hfs_1 : fs[1]? = some (.int 0)) (hfs_38 : fs[38]? = some (.int 0)) {H : Heap} {locs : List Loc} (hP : va_P D vwCl [(h0, .inr (11, [.ref x_studio, .ref x_script, .ref x_teller, .ref x_planner, .ref x_plan, .ref x_drifts, .ref x_floor, .ref x_trial, .ref x_tape, .int 0, .int (-1)])), (x_studio, .inr (8, [.ref s_puppets, .int 0, .ref s_shots, .int 0, .ref s_sounds, .ref s_rates, .ref s_dresses])), (s_shots, .inl (cT 5, 12, .inr (.inr (.inr (.inr (fun _ => none)))))), (m0, .inr (12, fs))] H) (hD : va_D A [(h0, .inr (11, [.ref x_studio, .ref x_script, .ref x_teller, .ref x_planner, .ref x_plan, .ref x_drifts, .ref x_floor, .ref x_trial, .ref x_tape, .int 0, .int (-1)])), (x_studio, .inr (8, [.ref s_puppets, .int 0, .ref s_shots, .int 0, .ref s_sounds, .ref s_rates, .ref s_dresses])), (s_shots, .inl (cT 5, 12, .inr (.inr (.inr (.inr (fun _ => none)))))), (m0, .inr (12, fs))]) (hS : va_S A s.heap H locs) {ls : Array Slot} (hl : lv_has ls 7 [(4, .int 0), (3, .ref o9), (2, .ref m0), (1, .ref h0), (0, .ref b)]) : W p l e room_1 s m #[Value.ref b] below meth c H locs 215 539454 (lw_Z below #[Value.ref b] s) (F0 m 1017 ls []) := by
  obtain ⟨hx, hb, hr, hml, hown, hts0, hX, hbl, hlocks, hgv⟩ := id C0
  have hts := hts0
  have hbA : ¬ A b := fun h => absurd (hAl b h) (Nat.not_le.mpr hbl)
  have hown : s.vm.findClass RL = some m.cls := hown
  have hb : c.code = cL_law := hb
  refine lv_aload_n hx hb dL_law_1017 rfl (lv_at hl 3 rfl) ?_
  refine lv_aload_n hx hb dL_law_1018 rfl (lv_at hl 4 rfl) ?_
  refine lv_iload hx hb dL_law_1019 (lv_at hl 0 rfl) ?_
  refine lv_iconst (v := 1) hx hb dL_law_1021 (by decide) ?_
  refine lv_iadd hx hb dL_law_1022 ?_
  refine lv_topi (fun z_1 ez_1 => ?_)
  obtain rfl : z_1 = 1 := ez_1.trans (by decide)
  refine va_sld hx hb hX hbl hbA hS (by unfold vp_in; decide) dL_law_1023 ?_
  refine lv_aload_n hx hb dL_law_1024 rfl (lv_at hl 4 rfl) ?_
  refine lv_iload hx hb dL_law_1025 (lv_at hl 0 rfl) ?_
  refine lv_iconst (v := 2) hx hb dL_law_1027 (by decide) ?_
  refine lv_iadd hx hb dL_law_1028 ?_
  refine lv_topi (fun z_2 ez_2 => ?_)
  obtain rfl : z_2 = 2 := ez_2.trans (by decide)
  refine va_sld hx hb hX hbl hbA hS (by unfold vp_in; decide) dL_law_1029 ?_
  refine lv_aload_n hx hb dL_law_1030 rfl (lv_at hl 4 rfl) ?_
  refine lv_iload hx hb dL_law_1031 (lv_at hl 0 rfl) ?_
  refine lv_iconst (v := 3) hx hb dL_law_1033 (by decide) ?_
  refine lv_iadd hx hb dL_law_1034 ?_
  refine lv_topi (fun z_3 ez_3 => ?_)
  obtain rfl : z_3 = 3 := ez_3.trans (by decide)
  refine va_sld hx hb hX hbl hbA hS (by unfold vp_in; decide) dL_law_1035 ?_
  refine lv_aload_n hx hb dL_law_1036 rfl (lv_at hl 1 rfl) ?_
  have hF := va_free (wc := [(h0, .inr (11, [.ref x_studio, .ref x_script, .ref x_teller, .ref x_planner, .ref x_plan, .ref x_drifts, .ref x_floor, .ref x_trial, .ref x_tape, .int 0, .int (-1)])), (x_studio, .inr (8, [.ref s_puppets, .int 0, .ref s_shots, .int 0, .ref s_sounds, .ref s_rates, .ref s_dresses])), (s_shots, .inl (cT 5, 12, .inr (.inr (.inr (.inr (fun _ => none))))))]) hD hS hA [0, 1, 2] rfl
  refine va_calli (vx_runSW (As := [.ref h0, .int (xs (Int32.toNatClampNeg 1)), .int (xs (Int32.toNatClampNeg 2)), .int (xs (Int32.toNatClampNeg 3)), .ref o9]) (rest := []) ⟨hx, hb, hml, hown, hts⟩ (c_L_state l hst D cT h0 (xs (Int32.toNatClampNeg 1)) (xs (Int32.toNatClampNeg 2)) (xs (Int32.toNatClampNeg 3)) o9 x_studio x_script x_teller x_planner x_plan x_drifts x_floor x_trial x_tape s_puppets s_shots s_sounds s_rates s_dresses _ ) (vx_cwSW 5 hts zgL_law_L_state_190 rfl rfl rfl (by decide +kernel) ⟨Nat.le_of_ble_eq_true rfl, Nat.le_of_ble_eq_true rfl⟩) (ps_z hP hD hK hG hZ hS hF [0, 1, 2] rfl rfl rfl) rfl rfl hl.1 rfl (lv_room (Nat.le_of_ble_eq_true rfl)) dL_law_1037 ⟨Nat.le_of_ble_eq_true rfl, Nat.le_of_ble_eq_true rfl⟩) hS (fun q _ h => hF q h) hF (fun r_4 uu9 tt9 H locs ht hvm wr_4 hB hz1 hk1 hS => ?_)
  obtain ⟨hP, hD⟩ := va_join (wr := [(m0, .inr (12, fs))]) (w1 := []) hP hD [0, 1, 2] [3] rfl rfl (by decide) (by decide) hk1 hF vp_nil vd_nil
  have hP : va_P D vwCl [(m0, .inr (12, fs))] _ := hP
  have hD : va_D A [(m0, .inr (12, fs))] := hD
  refine W.widen (k := 216) (n := 539460) (Nat.le_of_ble_eq_true rfl) (Nat.le_of_ble_eq_true rfl) ?_
  obtain rfl : r_4 = 1 := wr_4.trans (rfl)
  refine lv_istore (lv' := [(5, .int 1), (4, .int 0), (3, .ref o9), (2, .ref m0), (1, .ref h0), (0, .ref b)]) hx hb dL_law_1040 hl (by decide) rfl (fun ls hl => ?_)
  refine lv_aload_n hx hb dL_law_1042 rfl (lv_at hl 3 rfl) ?_
  refine lv_aload_n hx hb dL_law_1043 rfl (lv_at hl 5 rfl) ?_
  refine lv_iload hx hb dL_law_1044 (lv_at hl 1 rfl) ?_
  refine lv_iconst (v := 1) hx hb dL_law_1046 (by decide) ?_
  refine lv_iadd hx hb dL_law_1047 ?_
  refine lv_topi (fun z_5 ez_5 => ?_)
  obtain rfl : z_5 = 1 := ez_5.trans (by decide)
  refine va_sld hx hb hX hbl hbA hS (by unfold vp_in; decide) dL_law_1048 ?_
  refine lv_aload_n hx hb dL_law_1049 rfl (lv_at hl 5 rfl) ?_
  refine lv_iload hx hb dL_law_1050 (lv_at hl 1 rfl) ?_
  refine lv_iconst (v := 2) hx hb dL_law_1052 (by decide) ?_
  refine lv_iadd hx hb dL_law_1053 ?_
  refine lv_topi (fun z_6 ez_6 => ?_)
  obtain rfl : z_6 = 2 := ez_6.trans (by decide)
  refine va_sld hx hb hX hbl hbA hS (by unfold vp_in; decide) dL_law_1054 ?_
  refine lv_aload_n hx hb dL_law_1055 rfl (lv_at hl 5 rfl) ?_
  refine lv_iload hx hb dL_law_1056 (lv_at hl 1 rfl) ?_
  refine lv_iconst (v := 3) hx hb dL_law_1058 (by decide) ?_
  refine lv_iadd hx hb dL_law_1059 ?_
  refine lv_topi (fun z_7 ez_7 => ?_)
  obtain rfl : z_7 = 3 := ez_7.trans (by decide)
  refine va_sld hx hb hX hbl hbA hS (by unfold vp_in; decide) dL_law_1060 ?_
  have hF := va_free (wc := [(m0, .inr (12, fs))]) hD hS hA [0] rfl
  refine va_calli (va_runV (As := [.int (xs (Int32.toNatClampNeg 1)), .int (xs (Int32.toNatClampNeg 2)), .int (xs (Int32.toNatClampNeg 3))]) (rest := []) ⟨hx, hb, hml, hown, hts⟩ (c_X12_state l D cT m0 (xs (Int32.toNatClampNeg 1)) (xs (Int32.toNatClampNeg 2)) (xs (Int32.toNatClampNeg 3)) fs 0 _ (hfs) (hfs_0) (hfs_1) (hfs_38)) (cwV 3 hts zgL_law_X12_state_192 rfl rfl rfl (by decide +kernel) ⟨Nat.le_of_ble_eq_true rfl, Nat.le_of_ble_eq_true rfl⟩) (pv_w hP hD hK hG [0] rfl rfl rfl 0 rfl rfl) rfl rfl hl.1 rfl (lv_room (Nat.le_of_ble_eq_true rfl)) dL_law_1061 ⟨Nat.le_of_ble_eq_true rfl, Nat.le_of_ble_eq_true rfl⟩) hS (fun q _ h => hF q h) hF (fun r_8 uu9 tt9 H locs ht hvm wr_8 hB hz1 hk1 hS => ?_)
  obtain ⟨gs_9, hgs_9, hgs_9_0, hP1, hD1⟩ := hB
  rw [ht] at hP1
  obtain ⟨hP, hD⟩ := va_join (wr := []) (w1 := [(m0, .inr (12, gs_9))]) hP hD [0] [] rfl rfl (by decide) (by decide) hk1 hF hP1 hD1
  have hP : va_P D vwCl [(m0, .inr (12, gs_9))] _ := hP
  have hD : va_D A [(m0, .inr (12, gs_9))] := hD
  refine lv_istore (lv' := [(6, .int r_8), (5, .int 1), (4, .int 0), (3, .ref o9), (2, .ref m0), (1, .ref h0), (0, .ref b)]) hx hb dL_law_1064 hl (by decide) rfl (fun ls hl => ?_)
  refine lv_aload_n hx hb dL_law_1066 rfl (lv_at hl 4 rfl) ?_
  have hF := va_free (wc := [(m0, .inr (12, gs_9))]) hD hS hA [0] rfl
  refine va_calli (va_runV (As := []) (rest := []) ⟨hx, hb, hml, hown, hts⟩ (c_X12_thrown l D cT m0 gs_9 1 _ (hgs_9) (hgs_9_0)) (cwV 0 hts zgL_law_X12_thrown_149 rfl rfl rfl (by decide +kernel) ⟨Nat.le_of_ble_eq_true rfl, Nat.le_of_ble_eq_true rfl⟩) (pv_w hP hD hK hG [0] rfl rfl rfl 0 rfl rfl) rfl rfl hl.1 rfl (lv_room (Nat.le_of_ble_eq_true rfl)) dL_law_1067 ⟨Nat.le_of_ble_eq_true rfl, Nat.le_of_ble_eq_true rfl⟩) hS (fun q _ h => hF q h) hF (fun r_12 uu9 tt9 H locs ht hvm wr_12 hB hz1 hk1 hS => ?_)
  obtain ⟨hP1, hD1⟩ := hB
  rw [ht] at hP1
  obtain ⟨hP, hD⟩ := va_join (wr := []) (w1 := [(m0, .inr (12, gs_9))]) hP hD [0] [] rfl rfl (by decide) (by decide) hk1 hF hP1 hD1
  have hP : va_P D vwCl [(m0, .inr (12, gs_9))] _ := hP
  have hD : va_D A [(m0, .inr (12, gs_9))] := hD
  obtain rfl : r_12 = 1 := wr_12.trans (rfl)
  refine lv_iload hx hb dL_law_1070 (lv_at hl 1 rfl) ?_
  refine lv_icmp_eq (tgt := 1077) hx hb dL_law_1072 (by decide) (fun _ => ?_) (fun c9 => absurd c9 (by decide))
  refine lv_iload hx hb dL_law_1077 (lv_at hl 1 rfl) ?_
  refine lv_if_ne (tgt := 1094) hx hb dL_law_1079 (by decide) (fun _ => ?_) (fun c9 => absurd c9 (by decide))
  refine lv_goto (tgt := 3043) hx hb dL_law_1094 (by decide) ?_
  exact law_end C0 hA hAl hS (lv_sub hl [2, 6] rfl) (Nat.le_of_ble_eq_true rfl) (Nat.le_of_ble_eq_true rfl)
theorem dL_law_1097 : decode cL_law 1097 = .ok (.aload_n 1, 1) := by decide +kernel
theorem dL_law_1098 : decode cL_law 1098 = .ok (.aload_n 0, 1) := by decide +kernel
theorem dL_law_1099 : decode cL_law 1099 = .ok (.iload 4, 2) := by decide +kernel
theorem dL_law_1101 : decode cL_law 1101 = .ok (.iconst 1, 1) := by decide +kernel
theorem dL_law_1102 : decode cL_law 1102 = .ok (.iadd, 1) := by decide +kernel
theorem dL_law_1103 : decode cL_law 1103 = .ok (.iaload, 1) := by decide +kernel
theorem dL_law_1104 : decode cL_law 1104 = .ok (.aload_n 0, 1) := by decide +kernel
theorem dL_law_1105 : decode cL_law 1105 = .ok (.iload 4, 2) := by decide +kernel
theorem dL_law_1107 : decode cL_law 1107 = .ok (.iconst 2, 1) := by decide +kernel
theorem dL_law_1108 : decode cL_law 1108 = .ok (.iadd, 1) := by decide +kernel
theorem dL_law_1109 : decode cL_law 1109 = .ok (.iaload, 1) := by decide +kernel
theorem dL_law_1110 : decode cL_law 1110 = .ok (.aload_n 0, 1) := by decide +kernel
theorem dL_law_1111 : decode cL_law 1111 = .ok (.iload 4, 2) := by decide +kernel
theorem dL_law_1113 : decode cL_law 1113 = .ok (.iconst 3, 1) := by decide +kernel
theorem dL_law_1114 : decode cL_law 1114 = .ok (.iadd, 1) := by decide +kernel
theorem dL_law_1115 : decode cL_law 1115 = .ok (.iaload, 1) := by decide +kernel
theorem dL_law_1116 : decode cL_law 1116 = .ok (.aload_n 3, 1) := by decide +kernel
theorem dL_law_1117 : decode cL_law 1117 = .ok (.invokestatic 193, 3) := by decide +kernel
theorem dL_law_1120 : decode cL_law 1120 = .ok (.istore 5, 2) := by decide +kernel
theorem dL_law_1122 : decode cL_law 1122 = .ok (.aload_n 2, 1) := by decide +kernel
theorem dL_law_1123 : decode cL_law 1123 = .ok (.aload_n 0, 1) := by decide +kernel
theorem dL_law_1124 : decode cL_law 1124 = .ok (.iload 4, 2) := by decide +kernel
theorem dL_law_1126 : decode cL_law 1126 = .ok (.iconst 1, 1) := by decide +kernel
theorem dL_law_1127 : decode cL_law 1127 = .ok (.iadd, 1) := by decide +kernel
theorem dL_law_1128 : decode cL_law 1128 = .ok (.iaload, 1) := by decide +kernel
theorem dL_law_1129 : decode cL_law 1129 = .ok (.aload_n 0, 1) := by decide +kernel
theorem dL_law_1130 : decode cL_law 1130 = .ok (.iload 4, 2) := by decide +kernel
theorem dL_law_1132 : decode cL_law 1132 = .ok (.iconst 2, 1) := by decide +kernel
theorem dL_law_1133 : decode cL_law 1133 = .ok (.iadd, 1) := by decide +kernel
theorem dL_law_1134 : decode cL_law 1134 = .ok (.iaload, 1) := by decide +kernel
theorem dL_law_1135 : decode cL_law 1135 = .ok (.aload_n 0, 1) := by decide +kernel
theorem dL_law_1136 : decode cL_law 1136 = .ok (.iload 4, 2) := by decide +kernel
theorem dL_law_1138 : decode cL_law 1138 = .ok (.iconst 3, 1) := by decide +kernel
theorem dL_law_1139 : decode cL_law 1139 = .ok (.iadd, 1) := by decide +kernel
theorem dL_law_1140 : decode cL_law 1140 = .ok (.iaload, 1) := by decide +kernel
theorem dL_law_1141 : decode cL_law 1141 = .ok (.invokevirtual 195, 3) := by decide +kernel
theorem dL_law_1144 : decode cL_law 1144 = .ok (.istore 6, 2) := by decide +kernel
theorem dL_law_1146 : decode cL_law 1146 = .ok (.aload_n 2, 1) := by decide +kernel
theorem dL_law_1147 : decode cL_law 1147 = .ok (.invokevirtual 149, 3) := by decide +kernel
theorem dL_law_1150 : decode cL_law 1150 = .ok (.iload 5, 2) := by decide +kernel
theorem dL_law_1152 : decode cL_law 1152 = .ok (.if_icmp .eq 5, 3) := by decide +kernel
theorem dL_law_1157 : decode cL_law 1157 = .ok (.iload 5, 2) := by decide +kernel
theorem dL_law_1159 : decode cL_law 1159 = .ok (.ifCond .ne 15, 3) := by decide +kernel
theorem dL_law_1174 : decode cL_law 1174 = .ok (.goto 1869, 3) := by decide +kernel
set_option maxRecDepth 100000 in
theorem zgL_law_L_lean_193_w : GoodIn lw_tbl zsL_lean := goodIn_app (goodIn_sub (ws := [.codeWith yL_lean cL_lean 6 (some .int) [(0, 12, 15, 37)]]) (fun _ h9 => List.mem_singleton.mp h9 ▸ List.mem_of_getElem? (i := 1472) rfl) (by decide +kernel)) (goodIn_app (goodIn_app (goodIn_app (goodIn_sub (ws := [.methodLink RL 53 yX11_lean, .instanceMethod yX11_lean, .selects RX11 yX11_lean yX11_lean, .initialized RX11, .code yX11_lean cX11_lean 6 (some .int), .classLink RL 37 "java/util/NoSuchElementException", .methodLink RX11 166 yX11_needShot, .instanceMethod yX11_needShot, .selects RX11 yX11_needShot yX11_needShot, .code yX11_needShot cX11_needShot 3 (some (.object "PuppetFilm$Shot")), .classLink RX11 408 "java/util/NoSuchElementException", .initialized "java/util/NoSuchElementException", .fieldLink RX11 10 "PuppetFilm" "studio" "LPuppetFilm$Studio;", .methodLink RX11 271 yX8_shotAt, .instanceMethod yX8_shotAt, .selects RX8 yX8_shotAt yX8_shotAt, .initialized RX8, .code yX8_shotAt cX8_shotAt 2 (some (.object "PuppetFilm$Shot")), .fieldLink RX8 19 "PuppetFilm$Studio" "shots" "[LPuppetFilm$Shot;"]) (mem_ps [1473, 1474, 1475, 118, 1476, 1357, 1362, 1364, 45, 1365, 1367, 145, 554, 1366, 669, 670, 119, 671, 171] (by decide +kernel)) (by decide +kernel)) zgC_X11) zgC_X8) zgZ)
set_option maxRecDepth 100000 in
theorem zgL_law_L_lean_193 : GoodIn lw_tbl (va_wsS RL 193 yL_lean zsL_lean) := goodIn_app (goodIn_sub (mem_ps [1470, 1471, 117] (by decide +kernel)) (by decide +kernel)) zgL_law_L_lean_193_w
set_option maxRecDepth 100000 in
theorem zgL_law_wsX12_lean_r1 : GoodIn lw_tbl wsX12_lean_r1 := goodIn_sub (mem_ps [1882, 1883, 2392, 2376, 2378, 86, 129, 2379, 1920, 2222, 2223, 2224, 2225, 2227, 63, 2228, 2388, 2390, 88, 2391, 1926, 2417, 2419, 92] rfl) (by decide +kernel)
set_option maxRecDepth 100000 in
theorem zgL_law_wsX12_lean_r2 : GoodIn lw_tbl wsX12_lean_r2 := goodIn_sub (mem_ps [2420, 1884, 1885, 1944, 1945, 1888, 1889, 2393, 2395, 89, 2396, 1921, 2345, 2346, 2347, 2421, 2422, 2423] rfl) (by decide +kernel)
set_option maxRecDepth 100000 in
theorem zgL_law_X12_lean_195_w : GoodIn lw_tbl wsX12_lean := goodIn_app (goodIn_sub (ws := [.code yX12_lean cX12_lean 4 (some .int)]) (fun _ h9 => List.mem_singleton.mp h9 ▸ List.mem_of_getElem? (i := 2431) rfl) (by decide +kernel)) (goodIn_app (goodIn_app zgL_law_wsX12_lean_r1 zgL_law_wsX12_lean_r2) zgC_X12)
set_option maxRecDepth 100000 in
theorem zgL_law_X12_lean_195 : GoodIn lw_tbl (wsV RL 195 RX12 yX12_lean wsX12_lean) := goodIn_app (goodIn_sub (mem_ps [2428, 2429, 2430, 129] (by decide +kernel)) (by decide +kernel)) zgL_law_X12_lean_195_w
set_option maxHeartbeats 8000000 in
set_option maxRecDepth 100000 in
/-- the law: lean -/
theorem law_case_13 {p : Program} {l : Launch} {e : Env} {s : State} {m : MethodId} {below : List Frame} {meth : Method} {c : Code} {D : va_G} {cT : Nat → ClassId} {b : Nat} {xs : Nat → Int32} {A : Nat → Prop} (hst : l.stackTraces = false) (C0 : lw_At p s m meth c b 7 xs) (hA : ∀ q : Nat, s.heap.size ≤ q → A q) (hAl : ∀ q, A q → s.heap.size ≤ q) (hK : va_K D vwCl (TY cT) s) (hG : GW s) (hZ : GZ A s s.heap) {h0 : Nat} {m0 : Nat} {o9 : Nat} {x_studio : Nat} {x_script : Nat} {x_teller : Nat} {x_planner : Nat} {x_plan : Nat} {x_drifts : Nat} {x_floor : Nat} {x_trial : Nat} {x_tape : Nat} {s_puppets : Nat} {s_shots : Nat} {s_sounds : Nat} {s_rates : Nat} {s_dresses : Nat} {fs : List Value} (hfs : fs.length = 109) (hfs_0 : fs[0]? = some (.int 0)) (hfs_1 : fs[1]? = some (.int 0)) (hfs_38 : fs[38]? = some (.int 0)) {H : Heap} {locs : List Loc} (hP : va_P D vwCl [(h0, .inr (11, [.ref x_studio, .ref x_script, .ref x_teller, .ref x_planner, .ref x_plan, .ref x_drifts, .ref x_floor, .ref x_trial, .ref x_tape, .int 0, .int (-1)])), (x_studio, .inr (8, [.ref s_puppets, .int 0, .ref s_shots, .int 0, .ref s_sounds, .ref s_rates, .ref s_dresses])), (s_shots, .inl (cT 5, 12, .inr (.inr (.inr (.inr (fun _ => none)))))), (m0, .inr (12, fs))] H) (hD : va_D A [(h0, .inr (11, [.ref x_studio, .ref x_script, .ref x_teller, .ref x_planner, .ref x_plan, .ref x_drifts, .ref x_floor, .ref x_trial, .ref x_tape, .int 0, .int (-1)])), (x_studio, .inr (8, [.ref s_puppets, .int 0, .ref s_shots, .int 0, .ref s_sounds, .ref s_rates, .ref s_dresses])), (s_shots, .inl (cT 5, 12, .inr (.inr (.inr (.inr (fun _ => none)))))), (m0, .inr (12, fs))]) (hS : va_S A s.heap H locs) {ls : Array Slot} (hl : lv_has ls 7 [(4, .int 0), (3, .ref o9), (2, .ref m0), (1, .ref h0), (0, .ref b)]) : W p l e room_1 s m #[Value.ref b] below meth c H locs 215 539454 (lw_Z below #[Value.ref b] s) (F0 m 1097 ls []) := by
  obtain ⟨hx, hb, hr, hml, hown, hts0, hX, hbl, hlocks, hgv⟩ := id C0
  have hts := hts0
  have hbA : ¬ A b := fun h => absurd (hAl b h) (Nat.not_le.mpr hbl)
  have hown : s.vm.findClass RL = some m.cls := hown
  have hb : c.code = cL_law := hb
  refine lv_aload_n hx hb dL_law_1097 rfl (lv_at hl 3 rfl) ?_
  refine lv_aload_n hx hb dL_law_1098 rfl (lv_at hl 4 rfl) ?_
  refine lv_iload hx hb dL_law_1099 (lv_at hl 0 rfl) ?_
  refine lv_iconst (v := 1) hx hb dL_law_1101 (by decide) ?_
  refine lv_iadd hx hb dL_law_1102 ?_
  refine lv_topi (fun z_1 ez_1 => ?_)
  obtain rfl : z_1 = 1 := ez_1.trans (by decide)
  refine va_sld hx hb hX hbl hbA hS (by unfold vp_in; decide) dL_law_1103 ?_
  refine lv_aload_n hx hb dL_law_1104 rfl (lv_at hl 4 rfl) ?_
  refine lv_iload hx hb dL_law_1105 (lv_at hl 0 rfl) ?_
  refine lv_iconst (v := 2) hx hb dL_law_1107 (by decide) ?_
  refine lv_iadd hx hb dL_law_1108 ?_
  refine lv_topi (fun z_2 ez_2 => ?_)
  obtain rfl : z_2 = 2 := ez_2.trans (by decide)
  refine va_sld hx hb hX hbl hbA hS (by unfold vp_in; decide) dL_law_1109 ?_
  refine lv_aload_n hx hb dL_law_1110 rfl (lv_at hl 4 rfl) ?_
  refine lv_iload hx hb dL_law_1111 (lv_at hl 0 rfl) ?_
  refine lv_iconst (v := 3) hx hb dL_law_1113 (by decide) ?_
  refine lv_iadd hx hb dL_law_1114 ?_
  refine lv_topi (fun z_3 ez_3 => ?_)
  obtain rfl : z_3 = 3 := ez_3.trans (by decide)
  refine va_sld hx hb hX hbl hbA hS (by unfold vp_in; decide) dL_law_1115 ?_
  refine lv_aload_n hx hb dL_law_1116 rfl (lv_at hl 1 rfl) ?_
  have hF := va_free (wc := [(h0, .inr (11, [.ref x_studio, .ref x_script, .ref x_teller, .ref x_planner, .ref x_plan, .ref x_drifts, .ref x_floor, .ref x_trial, .ref x_tape, .int 0, .int (-1)])), (x_studio, .inr (8, [.ref s_puppets, .int 0, .ref s_shots, .int 0, .ref s_sounds, .ref s_rates, .ref s_dresses])), (s_shots, .inl (cT 5, 12, .inr (.inr (.inr (.inr (fun _ => none))))))]) hD hS hA [0, 1, 2] rfl
  refine va_calli (vx_runSW (As := [.ref h0, .int (xs (Int32.toNatClampNeg 1)), .int (xs (Int32.toNatClampNeg 2)), .int (xs (Int32.toNatClampNeg 3)), .ref o9]) (rest := []) ⟨hx, hb, hml, hown, hts⟩ (c_L_lean l hst D cT h0 (xs (Int32.toNatClampNeg 1)) (xs (Int32.toNatClampNeg 2)) (xs (Int32.toNatClampNeg 3)) o9 x_studio x_script x_teller x_planner x_plan x_drifts x_floor x_trial x_tape s_puppets s_shots s_sounds s_rates s_dresses _ ) (vx_cwSW 5 hts zgL_law_L_lean_193 rfl rfl rfl (by decide +kernel) ⟨Nat.le_of_ble_eq_true rfl, Nat.le_of_ble_eq_true rfl⟩) (ps_z hP hD hK hG hZ hS hF [0, 1, 2] rfl rfl rfl) rfl rfl hl.1 rfl (lv_room (Nat.le_of_ble_eq_true rfl)) dL_law_1117 ⟨Nat.le_of_ble_eq_true rfl, Nat.le_of_ble_eq_true rfl⟩) hS (fun q _ h => hF q h) hF (fun r_4 uu9 tt9 H locs ht hvm wr_4 hB hz1 hk1 hS => ?_)
  obtain ⟨hP, hD⟩ := va_join (wr := [(m0, .inr (12, fs))]) (w1 := []) hP hD [0, 1, 2] [3] rfl rfl (by decide) (by decide) hk1 hF vp_nil vd_nil
  have hP : va_P D vwCl [(m0, .inr (12, fs))] _ := hP
  have hD : va_D A [(m0, .inr (12, fs))] := hD
  refine W.widen (k := 216) (n := 539460) (Nat.le_of_ble_eq_true rfl) (Nat.le_of_ble_eq_true rfl) ?_
  obtain rfl : r_4 = 1 := wr_4.trans (rfl)
  refine lv_istore (lv' := [(5, .int 1), (4, .int 0), (3, .ref o9), (2, .ref m0), (1, .ref h0), (0, .ref b)]) hx hb dL_law_1120 hl (by decide) rfl (fun ls hl => ?_)
  refine lv_aload_n hx hb dL_law_1122 rfl (lv_at hl 3 rfl) ?_
  refine lv_aload_n hx hb dL_law_1123 rfl (lv_at hl 5 rfl) ?_
  refine lv_iload hx hb dL_law_1124 (lv_at hl 1 rfl) ?_
  refine lv_iconst (v := 1) hx hb dL_law_1126 (by decide) ?_
  refine lv_iadd hx hb dL_law_1127 ?_
  refine lv_topi (fun z_5 ez_5 => ?_)
  obtain rfl : z_5 = 1 := ez_5.trans (by decide)
  refine va_sld hx hb hX hbl hbA hS (by unfold vp_in; decide) dL_law_1128 ?_
  refine lv_aload_n hx hb dL_law_1129 rfl (lv_at hl 5 rfl) ?_
  refine lv_iload hx hb dL_law_1130 (lv_at hl 1 rfl) ?_
  refine lv_iconst (v := 2) hx hb dL_law_1132 (by decide) ?_
  refine lv_iadd hx hb dL_law_1133 ?_
  refine lv_topi (fun z_6 ez_6 => ?_)
  obtain rfl : z_6 = 2 := ez_6.trans (by decide)
  refine va_sld hx hb hX hbl hbA hS (by unfold vp_in; decide) dL_law_1134 ?_
  refine lv_aload_n hx hb dL_law_1135 rfl (lv_at hl 5 rfl) ?_
  refine lv_iload hx hb dL_law_1136 (lv_at hl 1 rfl) ?_
  refine lv_iconst (v := 3) hx hb dL_law_1138 (by decide) ?_
  refine lv_iadd hx hb dL_law_1139 ?_
  refine lv_topi (fun z_7 ez_7 => ?_)
  obtain rfl : z_7 = 3 := ez_7.trans (by decide)
  refine va_sld hx hb hX hbl hbA hS (by unfold vp_in; decide) dL_law_1140 ?_
  have hF := va_free (wc := [(m0, .inr (12, fs))]) hD hS hA [0] rfl
  refine va_calli (va_runV (As := [.int (xs (Int32.toNatClampNeg 1)), .int (xs (Int32.toNatClampNeg 2)), .int (xs (Int32.toNatClampNeg 3))]) (rest := []) ⟨hx, hb, hml, hown, hts⟩ (c_X12_lean l D cT m0 (xs (Int32.toNatClampNeg 1)) (xs (Int32.toNatClampNeg 2)) (xs (Int32.toNatClampNeg 3)) fs 0 _ (hfs) (hfs_0) (hfs_1) (hfs_38)) (cwV 3 hts zgL_law_X12_lean_195 rfl rfl rfl (by decide +kernel) ⟨Nat.le_of_ble_eq_true rfl, Nat.le_of_ble_eq_true rfl⟩) (pv_w hP hD hK hG [0] rfl rfl rfl 0 rfl rfl) rfl rfl hl.1 rfl (lv_room (Nat.le_of_ble_eq_true rfl)) dL_law_1141 ⟨Nat.le_of_ble_eq_true rfl, Nat.le_of_ble_eq_true rfl⟩) hS (fun q _ h => hF q h) hF (fun r_8 uu9 tt9 H locs ht hvm wr_8 hB hz1 hk1 hS => ?_)
  obtain ⟨gs_9, hgs_9, hgs_9_0, hP1, hD1⟩ := hB
  rw [ht] at hP1
  obtain ⟨hP, hD⟩ := va_join (wr := []) (w1 := [(m0, .inr (12, gs_9))]) hP hD [0] [] rfl rfl (by decide) (by decide) hk1 hF hP1 hD1
  have hP : va_P D vwCl [(m0, .inr (12, gs_9))] _ := hP
  have hD : va_D A [(m0, .inr (12, gs_9))] := hD
  refine lv_istore (lv' := [(6, .int r_8), (5, .int 1), (4, .int 0), (3, .ref o9), (2, .ref m0), (1, .ref h0), (0, .ref b)]) hx hb dL_law_1144 hl (by decide) rfl (fun ls hl => ?_)
  refine lv_aload_n hx hb dL_law_1146 rfl (lv_at hl 4 rfl) ?_
  have hF := va_free (wc := [(m0, .inr (12, gs_9))]) hD hS hA [0] rfl
  refine va_calli (va_runV (As := []) (rest := []) ⟨hx, hb, hml, hown, hts⟩ (c_X12_thrown l D cT m0 gs_9 1 _ (hgs_9) (hgs_9_0)) (cwV 0 hts zgL_law_X12_thrown_149 rfl rfl rfl (by decide +kernel) ⟨Nat.le_of_ble_eq_true rfl, Nat.le_of_ble_eq_true rfl⟩) (pv_w hP hD hK hG [0] rfl rfl rfl 0 rfl rfl) rfl rfl hl.1 rfl (lv_room (Nat.le_of_ble_eq_true rfl)) dL_law_1147 ⟨Nat.le_of_ble_eq_true rfl, Nat.le_of_ble_eq_true rfl⟩) hS (fun q _ h => hF q h) hF (fun r_12 uu9 tt9 H locs ht hvm wr_12 hB hz1 hk1 hS => ?_)
  obtain ⟨hP1, hD1⟩ := hB
  rw [ht] at hP1
  obtain ⟨hP, hD⟩ := va_join (wr := []) (w1 := [(m0, .inr (12, gs_9))]) hP hD [0] [] rfl rfl (by decide) (by decide) hk1 hF hP1 hD1
  have hP : va_P D vwCl [(m0, .inr (12, gs_9))] _ := hP
  have hD : va_D A [(m0, .inr (12, gs_9))] := hD
  obtain rfl : r_12 = 1 := wr_12.trans (rfl)
  refine lv_iload hx hb dL_law_1150 (lv_at hl 1 rfl) ?_
  refine lv_icmp_eq (tgt := 1157) hx hb dL_law_1152 (by decide) (fun _ => ?_) (fun c9 => absurd c9 (by decide))
  refine lv_iload hx hb dL_law_1157 (lv_at hl 1 rfl) ?_
  refine lv_if_ne (tgt := 1174) hx hb dL_law_1159 (by decide) (fun _ => ?_) (fun c9 => absurd c9 (by decide))
  refine lv_goto (tgt := 3043) hx hb dL_law_1174 (by decide) ?_
  exact law_end C0 hA hAl hS (lv_sub hl [2, 6] rfl) (Nat.le_of_ble_eq_true rfl) (Nat.le_of_ble_eq_true rfl)
theorem dL_law_1177 : decode cL_law 1177 = .ok (.aload_n 1, 1) := by decide +kernel
theorem dL_law_1178 : decode cL_law 1178 = .ok (.aload_n 0, 1) := by decide +kernel
theorem dL_law_1179 : decode cL_law 1179 = .ok (.iload 4, 2) := by decide +kernel
theorem dL_law_1181 : decode cL_law 1181 = .ok (.iconst 1, 1) := by decide +kernel
theorem dL_law_1182 : decode cL_law 1182 = .ok (.iadd, 1) := by decide +kernel
theorem dL_law_1183 : decode cL_law 1183 = .ok (.iaload, 1) := by decide +kernel
theorem dL_law_1184 : decode cL_law 1184 = .ok (.aload_n 0, 1) := by decide +kernel
theorem dL_law_1185 : decode cL_law 1185 = .ok (.iload 4, 2) := by decide +kernel
theorem dL_law_1187 : decode cL_law 1187 = .ok (.iconst 2, 1) := by decide +kernel
theorem dL_law_1188 : decode cL_law 1188 = .ok (.iadd, 1) := by decide +kernel
theorem dL_law_1189 : decode cL_law 1189 = .ok (.iaload, 1) := by decide +kernel
theorem dL_law_1190 : decode cL_law 1190 = .ok (.aload_n 3, 1) := by decide +kernel
theorem dL_law_1191 : decode cL_law 1191 = .ok (.invokestatic 196, 3) := by decide +kernel
theorem dL_law_1194 : decode cL_law 1194 = .ok (.istore 5, 2) := by decide +kernel
theorem dL_law_1196 : decode cL_law 1196 = .ok (.aload_n 2, 1) := by decide +kernel
theorem dL_law_1197 : decode cL_law 1197 = .ok (.aload_n 0, 1) := by decide +kernel
theorem dL_law_1198 : decode cL_law 1198 = .ok (.iload 4, 2) := by decide +kernel
theorem dL_law_1200 : decode cL_law 1200 = .ok (.iconst 1, 1) := by decide +kernel
theorem dL_law_1201 : decode cL_law 1201 = .ok (.iadd, 1) := by decide +kernel
theorem dL_law_1202 : decode cL_law 1202 = .ok (.iaload, 1) := by decide +kernel
theorem dL_law_1203 : decode cL_law 1203 = .ok (.aload_n 0, 1) := by decide +kernel
theorem dL_law_1204 : decode cL_law 1204 = .ok (.iload 4, 2) := by decide +kernel
theorem dL_law_1206 : decode cL_law 1206 = .ok (.iconst 2, 1) := by decide +kernel
theorem dL_law_1207 : decode cL_law 1207 = .ok (.iadd, 1) := by decide +kernel
theorem dL_law_1208 : decode cL_law 1208 = .ok (.iaload, 1) := by decide +kernel
theorem dL_law_1209 : decode cL_law 1209 = .ok (.invokevirtual 198, 3) := by decide +kernel
theorem dL_law_1212 : decode cL_law 1212 = .ok (.istore 6, 2) := by decide +kernel
theorem dL_law_1214 : decode cL_law 1214 = .ok (.aload_n 2, 1) := by decide +kernel
theorem dL_law_1215 : decode cL_law 1215 = .ok (.invokevirtual 149, 3) := by decide +kernel
theorem dL_law_1218 : decode cL_law 1218 = .ok (.iload 5, 2) := by decide +kernel
theorem dL_law_1220 : decode cL_law 1220 = .ok (.if_icmp .eq 5, 3) := by decide +kernel
theorem dL_law_1225 : decode cL_law 1225 = .ok (.iload 5, 2) := by decide +kernel
theorem dL_law_1227 : decode cL_law 1227 = .ok (.ifCond .ne 15, 3) := by decide +kernel
theorem dL_law_1242 : decode cL_law 1242 = .ok (.goto 1801, 3) := by decide +kernel
set_option maxRecDepth 100000 in
theorem zgL_law_L_breach_196_w : GoodIn lw_tbl zsL_breach := goodIn_app (goodIn_sub (ws := [.codeWith yL_breach cL_breach 5 (some .int) [(0, 10, 13, 37), (0, 10, 17, 15)]]) (fun _ h9 => List.mem_singleton.mp h9 ▸ List.mem_of_getElem? (i := 1480) rfl) (by decide +kernel)) (goodIn_app (goodIn_app (goodIn_app (goodIn_sub (ws := [.methodLink RL 56 yX11_breach, .instanceMethod yX11_breach, .selects RX11 yX11_breach yX11_breach, .initialized RX11, .code yX11_breach cX11_breach 6 (some .int), .classLink RL 37 "java/util/NoSuchElementException", .classLink RL 15 "java/lang/IllegalArgumentException", .methodLink RX11 166 yX11_needShot, .instanceMethod yX11_needShot, .selects RX11 yX11_needShot yX11_needShot, .code yX11_needShot cX11_needShot 3 (some (.object "PuppetFilm$Shot")), .classLink RX11 408 "java/util/NoSuchElementException", .initialized "java/util/NoSuchElementException", .fieldLink RX11 10 "PuppetFilm" "studio" "LPuppetFilm$Studio;", .methodLink RX11 271 yX8_shotAt, .instanceMethod yX8_shotAt, .selects RX8 yX8_shotAt yX8_shotAt, .initialized RX8, .code yX8_shotAt cX8_shotAt 2 (some (.object "PuppetFilm$Shot")), .fieldLink RX8 19 "PuppetFilm$Studio" "shots" "[LPuppetFilm$Shot;"]) (mem_ps [1481, 1482, 1483, 118, 1484, 1357, 849, 1362, 1364, 45, 1365, 1367, 145, 554, 1366, 669, 670, 119, 671, 171] (by decide +kernel)) (by decide +kernel)) zgC_X11) zgC_X8) zgZ)
set_option maxRecDepth 100000 in
theorem zgL_law_L_breach_196 : GoodIn lw_tbl (va_wsS RL 196 yL_breach zsL_breach) := goodIn_app (goodIn_sub (mem_ps [1478, 1479, 117] (by decide +kernel)) (by decide +kernel)) zgL_law_L_breach_196_w
set_option maxRecDepth 100000 in
theorem zgL_law_wsX12_breach_r1 : GoodIn lw_tbl wsX12_breach_r1 := goodIn_sub (mem_ps [1882, 1926, 1883, 1884, 1886, 1887, 2376, 2378, 86, 129, 2379, 1920, 2222, 2223, 2224, 2225, 2227, 63, 2228, 2393, 2395, 89, 2396, 1921] rfl) (by decide +kernel)
set_option maxRecDepth 100000 in
theorem zgL_law_wsX12_breach_r2 : GoodIn lw_tbl wsX12_breach_r2 := goodIn_sub (mem_ps [2345, 2346, 2347] rfl) (by decide +kernel)
set_option maxRecDepth 100000 in
theorem zgL_law_X12_breach_198_w : GoodIn lw_tbl wsX12_breach := goodIn_app (goodIn_sub (ws := [.code yX12_breach cX12_breach 6 (some .int)]) (fun _ h9 => List.mem_singleton.mp h9 ▸ List.mem_of_getElem? (i := 2435) rfl) (by decide +kernel)) (goodIn_app (goodIn_app zgL_law_wsX12_breach_r1 zgL_law_wsX12_breach_r2) zgC_X12)
set_option maxRecDepth 100000 in
theorem zgL_law_X12_breach_198 : GoodIn lw_tbl (wsV RL 198 RX12 yX12_breach wsX12_breach) := goodIn_app (goodIn_sub (mem_ps [2432, 2433, 2434, 129] (by decide +kernel)) (by decide +kernel)) zgL_law_X12_breach_198_w
set_option maxHeartbeats 8000000 in
set_option maxRecDepth 100000 in
/-- the law: breach -/
theorem law_case_14 {p : Program} {l : Launch} {e : Env} {s : State} {m : MethodId} {below : List Frame} {meth : Method} {c : Code} {D : va_G} {cT : Nat → ClassId} {b : Nat} {xs : Nat → Int32} {A : Nat → Prop} (hst : l.stackTraces = false) (C0 : lw_At p s m meth c b 7 xs) (hA : ∀ q : Nat, s.heap.size ≤ q → A q) (hAl : ∀ q, A q → s.heap.size ≤ q) (hK : va_K D vwCl (TY cT) s) (hG : GW s) (hZ : GZ A s s.heap) {h0 : Nat} {m0 : Nat} {o9 : Nat} {x_studio : Nat} {x_script : Nat} {x_teller : Nat} {x_planner : Nat} {x_plan : Nat} {x_drifts : Nat} {x_floor : Nat} {x_trial : Nat} {x_tape : Nat} {s_puppets : Nat} {s_shots : Nat} {s_sounds : Nat} {s_rates : Nat} {s_dresses : Nat} {fs : List Value} (hfs : fs.length = 109) (hfs_0 : fs[0]? = some (.int 0)) (hfs_1 : fs[1]? = some (.int 0)) (hfs_38 : fs[38]? = some (.int 0)) {H : Heap} {locs : List Loc} (hP : va_P D vwCl [(h0, .inr (11, [.ref x_studio, .ref x_script, .ref x_teller, .ref x_planner, .ref x_plan, .ref x_drifts, .ref x_floor, .ref x_trial, .ref x_tape, .int 0, .int (-1)])), (x_studio, .inr (8, [.ref s_puppets, .int 0, .ref s_shots, .int 0, .ref s_sounds, .ref s_rates, .ref s_dresses])), (s_shots, .inl (cT 5, 12, .inr (.inr (.inr (.inr (fun _ => none)))))), (m0, .inr (12, fs))] H) (hD : va_D A [(h0, .inr (11, [.ref x_studio, .ref x_script, .ref x_teller, .ref x_planner, .ref x_plan, .ref x_drifts, .ref x_floor, .ref x_trial, .ref x_tape, .int 0, .int (-1)])), (x_studio, .inr (8, [.ref s_puppets, .int 0, .ref s_shots, .int 0, .ref s_sounds, .ref s_rates, .ref s_dresses])), (s_shots, .inl (cT 5, 12, .inr (.inr (.inr (.inr (fun _ => none)))))), (m0, .inr (12, fs))]) (hS : va_S A s.heap H locs) {ls : Array Slot} (hl : lv_has ls 7 [(4, .int 0), (3, .ref o9), (2, .ref m0), (1, .ref h0), (0, .ref b)]) : W p l e room_1 s m #[Value.ref b] below meth c H locs 215 539454 (lw_Z below #[Value.ref b] s) (F0 m 1177 ls []) := by
  obtain ⟨hx, hb, hr, hml, hown, hts0, hX, hbl, hlocks, hgv⟩ := id C0
  have hts := hts0
  have hbA : ¬ A b := fun h => absurd (hAl b h) (Nat.not_le.mpr hbl)
  have hown : s.vm.findClass RL = some m.cls := hown
  have hb : c.code = cL_law := hb
  refine lv_aload_n hx hb dL_law_1177 rfl (lv_at hl 3 rfl) ?_
  refine lv_aload_n hx hb dL_law_1178 rfl (lv_at hl 4 rfl) ?_
  refine lv_iload hx hb dL_law_1179 (lv_at hl 0 rfl) ?_
  refine lv_iconst (v := 1) hx hb dL_law_1181 (by decide) ?_
  refine lv_iadd hx hb dL_law_1182 ?_
  refine lv_topi (fun z_1 ez_1 => ?_)
  obtain rfl : z_1 = 1 := ez_1.trans (by decide)
  refine va_sld hx hb hX hbl hbA hS (by unfold vp_in; decide) dL_law_1183 ?_
  refine lv_aload_n hx hb dL_law_1184 rfl (lv_at hl 4 rfl) ?_
  refine lv_iload hx hb dL_law_1185 (lv_at hl 0 rfl) ?_
  refine lv_iconst (v := 2) hx hb dL_law_1187 (by decide) ?_
  refine lv_iadd hx hb dL_law_1188 ?_
  refine lv_topi (fun z_2 ez_2 => ?_)
  obtain rfl : z_2 = 2 := ez_2.trans (by decide)
  refine va_sld hx hb hX hbl hbA hS (by unfold vp_in; decide) dL_law_1189 ?_
  refine lv_aload_n hx hb dL_law_1190 rfl (lv_at hl 1 rfl) ?_
  have hF := va_free (wc := [(h0, .inr (11, [.ref x_studio, .ref x_script, .ref x_teller, .ref x_planner, .ref x_plan, .ref x_drifts, .ref x_floor, .ref x_trial, .ref x_tape, .int 0, .int (-1)])), (x_studio, .inr (8, [.ref s_puppets, .int 0, .ref s_shots, .int 0, .ref s_sounds, .ref s_rates, .ref s_dresses])), (s_shots, .inl (cT 5, 12, .inr (.inr (.inr (.inr (fun _ => none))))))]) hD hS hA [0, 1, 2] rfl
  refine va_calli (vx_runSW (As := [.ref h0, .int (xs (Int32.toNatClampNeg 1)), .int (xs (Int32.toNatClampNeg 2)), .ref o9]) (rest := []) ⟨hx, hb, hml, hown, hts⟩ (c_L_breach l hst D cT h0 (xs (Int32.toNatClampNeg 1)) (xs (Int32.toNatClampNeg 2)) o9 x_studio x_script x_teller x_planner x_plan x_drifts x_floor x_trial x_tape s_puppets s_shots s_sounds s_rates s_dresses _ ) (vx_cwSW 4 hts zgL_law_L_breach_196 rfl rfl rfl (by decide +kernel) ⟨Nat.le_of_ble_eq_true rfl, Nat.le_of_ble_eq_true rfl⟩) (ps_z hP hD hK hG hZ hS hF [0, 1, 2] rfl rfl rfl) rfl rfl hl.1 rfl (lv_room (Nat.le_of_ble_eq_true rfl)) dL_law_1191 ⟨Nat.le_of_ble_eq_true rfl, Nat.le_of_ble_eq_true rfl⟩) hS (fun q _ h => hF q h) hF (fun r_3 uu9 tt9 H locs ht hvm wr_3 hB hz1 hk1 hS => ?_)
  obtain ⟨hP, hD⟩ := va_join (wr := [(m0, .inr (12, fs))]) (w1 := []) hP hD [0, 1, 2] [3] rfl rfl (by decide) (by decide) hk1 hF vp_nil vd_nil
  have hP : va_P D vwCl [(m0, .inr (12, fs))] _ := hP
  have hD : va_D A [(m0, .inr (12, fs))] := hD
  refine W.widen (k := 216) (n := 539460) (Nat.le_of_ble_eq_true rfl) (Nat.le_of_ble_eq_true rfl) ?_
  obtain rfl : r_3 = 1 := wr_3.trans (rfl)
  refine lv_istore (lv' := [(5, .int 1), (4, .int 0), (3, .ref o9), (2, .ref m0), (1, .ref h0), (0, .ref b)]) hx hb dL_law_1194 hl (by decide) rfl (fun ls hl => ?_)
  refine lv_aload_n hx hb dL_law_1196 rfl (lv_at hl 3 rfl) ?_
  refine lv_aload_n hx hb dL_law_1197 rfl (lv_at hl 5 rfl) ?_
  refine lv_iload hx hb dL_law_1198 (lv_at hl 1 rfl) ?_
  refine lv_iconst (v := 1) hx hb dL_law_1200 (by decide) ?_
  refine lv_iadd hx hb dL_law_1201 ?_
  refine lv_topi (fun z_4 ez_4 => ?_)
  obtain rfl : z_4 = 1 := ez_4.trans (by decide)
  refine va_sld hx hb hX hbl hbA hS (by unfold vp_in; decide) dL_law_1202 ?_
  refine lv_aload_n hx hb dL_law_1203 rfl (lv_at hl 5 rfl) ?_
  refine lv_iload hx hb dL_law_1204 (lv_at hl 1 rfl) ?_
  refine lv_iconst (v := 2) hx hb dL_law_1206 (by decide) ?_
  refine lv_iadd hx hb dL_law_1207 ?_
  refine lv_topi (fun z_5 ez_5 => ?_)
  obtain rfl : z_5 = 2 := ez_5.trans (by decide)
  refine va_sld hx hb hX hbl hbA hS (by unfold vp_in; decide) dL_law_1208 ?_
  have hF := va_free (wc := [(m0, .inr (12, fs))]) hD hS hA [0] rfl
  refine va_calli (va_runV (As := [.int (xs (Int32.toNatClampNeg 1)), .int (xs (Int32.toNatClampNeg 2))]) (rest := []) ⟨hx, hb, hml, hown, hts⟩ (c_X12_breach l D cT m0 (xs (Int32.toNatClampNeg 1)) (xs (Int32.toNatClampNeg 2)) fs 0 _ (hfs) (hfs_0) (hfs_1) (hfs_38)) (cwV 2 hts zgL_law_X12_breach_198 rfl rfl rfl (by decide +kernel) ⟨Nat.le_of_ble_eq_true rfl, Nat.le_of_ble_eq_true rfl⟩) (pv_w hP hD hK hG [0] rfl rfl rfl 0 rfl rfl) rfl rfl hl.1 rfl (lv_room (Nat.le_of_ble_eq_true rfl)) dL_law_1209 ⟨Nat.le_of_ble_eq_true rfl, Nat.le_of_ble_eq_true rfl⟩) hS (fun q _ h => hF q h) hF (fun r_6 uu9 tt9 H locs ht hvm wr_6 hB hz1 hk1 hS => ?_)
  obtain ⟨gs_7, hgs_7, hgs_7_0, hP1, hD1⟩ := hB
  rw [ht] at hP1
  obtain ⟨hP, hD⟩ := va_join (wr := []) (w1 := [(m0, .inr (12, gs_7))]) hP hD [0] [] rfl rfl (by decide) (by decide) hk1 hF hP1 hD1
  have hP : va_P D vwCl [(m0, .inr (12, gs_7))] _ := hP
  have hD : va_D A [(m0, .inr (12, gs_7))] := hD
  refine lv_istore (lv' := [(6, .int r_6), (5, .int 1), (4, .int 0), (3, .ref o9), (2, .ref m0), (1, .ref h0), (0, .ref b)]) hx hb dL_law_1212 hl (by decide) rfl (fun ls hl => ?_)
  refine lv_aload_n hx hb dL_law_1214 rfl (lv_at hl 4 rfl) ?_
  have hF := va_free (wc := [(m0, .inr (12, gs_7))]) hD hS hA [0] rfl
  refine va_calli (va_runV (As := []) (rest := []) ⟨hx, hb, hml, hown, hts⟩ (c_X12_thrown l D cT m0 gs_7 1 _ (hgs_7) (hgs_7_0)) (cwV 0 hts zgL_law_X12_thrown_149 rfl rfl rfl (by decide +kernel) ⟨Nat.le_of_ble_eq_true rfl, Nat.le_of_ble_eq_true rfl⟩) (pv_w hP hD hK hG [0] rfl rfl rfl 0 rfl rfl) rfl rfl hl.1 rfl (lv_room (Nat.le_of_ble_eq_true rfl)) dL_law_1215 ⟨Nat.le_of_ble_eq_true rfl, Nat.le_of_ble_eq_true rfl⟩) hS (fun q _ h => hF q h) hF (fun r_10 uu9 tt9 H locs ht hvm wr_10 hB hz1 hk1 hS => ?_)
  obtain ⟨hP1, hD1⟩ := hB
  rw [ht] at hP1
  obtain ⟨hP, hD⟩ := va_join (wr := []) (w1 := [(m0, .inr (12, gs_7))]) hP hD [0] [] rfl rfl (by decide) (by decide) hk1 hF hP1 hD1
  have hP : va_P D vwCl [(m0, .inr (12, gs_7))] _ := hP
  have hD : va_D A [(m0, .inr (12, gs_7))] := hD
  obtain rfl : r_10 = 1 := wr_10.trans (rfl)
  refine lv_iload hx hb dL_law_1218 (lv_at hl 1 rfl) ?_
  refine lv_icmp_eq (tgt := 1225) hx hb dL_law_1220 (by decide) (fun _ => ?_) (fun c9 => absurd c9 (by decide))
  refine lv_iload hx hb dL_law_1225 (lv_at hl 1 rfl) ?_
  refine lv_if_ne (tgt := 1242) hx hb dL_law_1227 (by decide) (fun _ => ?_) (fun c9 => absurd c9 (by decide))
  refine lv_goto (tgt := 3043) hx hb dL_law_1242 (by decide) ?_
  exact law_end C0 hA hAl hS (lv_sub hl [2, 6] rfl) (Nat.le_of_ble_eq_true rfl) (Nat.le_of_ble_eq_true rfl)
theorem dL_law_1245 : decode cL_law 1245 = .ok (.aload_n 1, 1) := by decide +kernel
theorem dL_law_1246 : decode cL_law 1246 = .ok (.aload_n 0, 1) := by decide +kernel
theorem dL_law_1247 : decode cL_law 1247 = .ok (.iload 4, 2) := by decide +kernel
theorem dL_law_1249 : decode cL_law 1249 = .ok (.iconst 1, 1) := by decide +kernel
theorem dL_law_1250 : decode cL_law 1250 = .ok (.iadd, 1) := by decide +kernel
theorem dL_law_1251 : decode cL_law 1251 = .ok (.iaload, 1) := by decide +kernel
theorem dL_law_1252 : decode cL_law 1252 = .ok (.aload_n 0, 1) := by decide +kernel
theorem dL_law_1253 : decode cL_law 1253 = .ok (.iload 4, 2) := by decide +kernel
theorem dL_law_1255 : decode cL_law 1255 = .ok (.iconst 2, 1) := by decide +kernel
theorem dL_law_1256 : decode cL_law 1256 = .ok (.iadd, 1) := by decide +kernel
theorem dL_law_1257 : decode cL_law 1257 = .ok (.iaload, 1) := by decide +kernel
theorem dL_law_1258 : decode cL_law 1258 = .ok (.aload_n 3, 1) := by decide +kernel
theorem dL_law_1259 : decode cL_law 1259 = .ok (.invokestatic 199, 3) := by decide +kernel
theorem dL_law_1262 : decode cL_law 1262 = .ok (.istore 5, 2) := by decide +kernel
theorem dL_law_1264 : decode cL_law 1264 = .ok (.aload_n 2, 1) := by decide +kernel
theorem dL_law_1265 : decode cL_law 1265 = .ok (.aload_n 0, 1) := by decide +kernel
theorem dL_law_1266 : decode cL_law 1266 = .ok (.iload 4, 2) := by decide +kernel
theorem dL_law_1268 : decode cL_law 1268 = .ok (.iconst 1, 1) := by decide +kernel
theorem dL_law_1269 : decode cL_law 1269 = .ok (.iadd, 1) := by decide +kernel
theorem dL_law_1270 : decode cL_law 1270 = .ok (.iaload, 1) := by decide +kernel
theorem dL_law_1271 : decode cL_law 1271 = .ok (.aload_n 0, 1) := by decide +kernel
theorem dL_law_1272 : decode cL_law 1272 = .ok (.iload 4, 2) := by decide +kernel
theorem dL_law_1274 : decode cL_law 1274 = .ok (.iconst 2, 1) := by decide +kernel
theorem dL_law_1275 : decode cL_law 1275 = .ok (.iadd, 1) := by decide +kernel
theorem dL_law_1276 : decode cL_law 1276 = .ok (.iaload, 1) := by decide +kernel
theorem dL_law_1277 : decode cL_law 1277 = .ok (.invokevirtual 201, 3) := by decide +kernel
theorem dL_law_1280 : decode cL_law 1280 = .ok (.istore 6, 2) := by decide +kernel
theorem dL_law_1282 : decode cL_law 1282 = .ok (.aload_n 2, 1) := by decide +kernel
theorem dL_law_1283 : decode cL_law 1283 = .ok (.invokevirtual 149, 3) := by decide +kernel
theorem dL_law_1286 : decode cL_law 1286 = .ok (.iload 5, 2) := by decide +kernel
theorem dL_law_1288 : decode cL_law 1288 = .ok (.if_icmp .eq 5, 3) := by decide +kernel
theorem dL_law_1293 : decode cL_law 1293 = .ok (.iload 5, 2) := by decide +kernel
theorem dL_law_1295 : decode cL_law 1295 = .ok (.ifCond .ne 15, 3) := by decide +kernel
theorem dL_law_1310 : decode cL_law 1310 = .ok (.goto 1733, 3) := by decide +kernel
set_option maxRecDepth 100000 in
theorem zgL_law_L_fall_199_w : GoodIn lw_tbl zsL_fall := goodIn_app (goodIn_sub (ws := [.codeWith yL_fall cL_fall 5 (some .int) [(0, 10, 13, 37), (0, 10, 17, 15)]]) (fun _ h9 => List.mem_singleton.mp h9 ▸ List.mem_of_getElem? (i := 1499) rfl) (by decide +kernel)) (goodIn_app (goodIn_app (goodIn_app (goodIn_sub (ws := [.methodLink RL 59 yX11_fall, .instanceMethod yX11_fall, .selects RX11 yX11_fall yX11_fall, .initialized RX11, .code yX11_fall cX11_fall 6 (some .int), .classLink RL 37 "java/util/NoSuchElementException", .classLink RL 15 "java/lang/IllegalArgumentException", .methodLink RX11 166 yX11_needShot, .instanceMethod yX11_needShot, .selects RX11 yX11_needShot yX11_needShot, .code yX11_needShot cX11_needShot 3 (some (.object "PuppetFilm$Shot")), .classLink RX11 408 "java/util/NoSuchElementException", .initialized "java/util/NoSuchElementException", .fieldLink RX11 10 "PuppetFilm" "studio" "LPuppetFilm$Studio;", .methodLink RX11 271 yX8_shotAt, .instanceMethod yX8_shotAt, .selects RX8 yX8_shotAt yX8_shotAt, .initialized RX8, .code yX8_shotAt cX8_shotAt 2 (some (.object "PuppetFilm$Shot")), .fieldLink RX8 19 "PuppetFilm$Studio" "shots" "[LPuppetFilm$Shot;"]) (mem_ps [1500, 1501, 1502, 118, 1503, 1357, 849, 1362, 1364, 45, 1365, 1367, 145, 554, 1366, 669, 670, 119, 671, 171] (by decide +kernel)) (by decide +kernel)) zgC_X11) zgC_X8) zgZ)
set_option maxRecDepth 100000 in
theorem zgL_law_L_fall_199 : GoodIn lw_tbl (va_wsS RL 199 yL_fall zsL_fall) := goodIn_app (goodIn_sub (mem_ps [1497, 1498, 117] (by decide +kernel)) (by decide +kernel)) zgL_law_L_fall_199_w
set_option maxRecDepth 100000 in
theorem zgL_law_wsX12_fall_r1 : GoodIn lw_tbl wsX12_fall_r1 := goodIn_sub (mem_ps [1882, 1926, 1883, 1927, 2376, 2378, 86, 129, 2379, 1920, 2222, 2223, 2224, 2225, 2227, 63, 2228, 2413, 2415, 91, 2416, 1924, 2345, 2346] rfl) (by decide +kernel)
set_option maxRecDepth 100000 in
theorem zgL_law_wsX12_fall_r2 : GoodIn lw_tbl wsX12_fall_r2 := goodIn_sub (mem_ps [2347, 2417, 2419, 92, 2420, 1884, 1885, 1944, 1945, 1888, 1889, 2393, 2395, 89, 2396, 1921, 2421, 2422, 2423, 2424, 2426, 93, 2427, 1890] rfl) (by decide +kernel)
set_option maxRecDepth 100000 in
theorem zgL_law_wsX12_fall_r3 : GoodIn lw_tbl wsX12_fall_r3 := goodIn_sub (mem_ps [1891] rfl) (by decide +kernel)
set_option maxRecDepth 100000 in
theorem zgL_law_X12_fall_201_w : GoodIn lw_tbl wsX12_fall := goodIn_app (goodIn_sub (ws := [.code yX12_fall cX12_fall 5 (some .int)]) (fun _ h9 => List.mem_singleton.mp h9 ▸ List.mem_of_getElem? (i := 2439) rfl) (by decide +kernel)) (goodIn_app (goodIn_app zgL_law_wsX12_fall_r1 (goodIn_app zgL_law_wsX12_fall_r2 zgL_law_wsX12_fall_r3)) zgC_X12)
set_option maxRecDepth 100000 in
theorem zgL_law_X12_fall_201 : GoodIn lw_tbl (wsV RL 201 RX12 yX12_fall wsX12_fall) := goodIn_app (goodIn_sub (mem_ps [2436, 2437, 2438, 129] (by decide +kernel)) (by decide +kernel)) zgL_law_X12_fall_201_w
set_option maxHeartbeats 8000000 in
set_option maxRecDepth 100000 in
/-- the law: fall -/
theorem law_case_15 {p : Program} {l : Launch} {e : Env} {s : State} {m : MethodId} {below : List Frame} {meth : Method} {c : Code} {D : va_G} {cT : Nat → ClassId} {b : Nat} {xs : Nat → Int32} {A : Nat → Prop} (hst : l.stackTraces = false) (C0 : lw_At p s m meth c b 7 xs) (hA : ∀ q : Nat, s.heap.size ≤ q → A q) (hAl : ∀ q, A q → s.heap.size ≤ q) (hK : va_K D vwCl (TY cT) s) (hG : GW s) (hZ : GZ A s s.heap) {h0 : Nat} {m0 : Nat} {o9 : Nat} {x_studio : Nat} {x_script : Nat} {x_teller : Nat} {x_planner : Nat} {x_plan : Nat} {x_drifts : Nat} {x_floor : Nat} {x_trial : Nat} {x_tape : Nat} {s_puppets : Nat} {s_shots : Nat} {s_sounds : Nat} {s_rates : Nat} {s_dresses : Nat} {fs : List Value} (hfs : fs.length = 109) (hfs_0 : fs[0]? = some (.int 0)) (hfs_1 : fs[1]? = some (.int 0)) (hfs_38 : fs[38]? = some (.int 0)) {H : Heap} {locs : List Loc} (hP : va_P D vwCl [(h0, .inr (11, [.ref x_studio, .ref x_script, .ref x_teller, .ref x_planner, .ref x_plan, .ref x_drifts, .ref x_floor, .ref x_trial, .ref x_tape, .int 0, .int (-1)])), (x_studio, .inr (8, [.ref s_puppets, .int 0, .ref s_shots, .int 0, .ref s_sounds, .ref s_rates, .ref s_dresses])), (s_shots, .inl (cT 5, 12, .inr (.inr (.inr (.inr (fun _ => none)))))), (m0, .inr (12, fs))] H) (hD : va_D A [(h0, .inr (11, [.ref x_studio, .ref x_script, .ref x_teller, .ref x_planner, .ref x_plan, .ref x_drifts, .ref x_floor, .ref x_trial, .ref x_tape, .int 0, .int (-1)])), (x_studio, .inr (8, [.ref s_puppets, .int 0, .ref s_shots, .int 0, .ref s_sounds, .ref s_rates, .ref s_dresses])), (s_shots, .inl (cT 5, 12, .inr (.inr (.inr (.inr (fun _ => none)))))), (m0, .inr (12, fs))]) (hS : va_S A s.heap H locs) {ls : Array Slot} (hl : lv_has ls 7 [(4, .int 0), (3, .ref o9), (2, .ref m0), (1, .ref h0), (0, .ref b)]) : W p l e room_1 s m #[Value.ref b] below meth c H locs 215 539454 (lw_Z below #[Value.ref b] s) (F0 m 1245 ls []) := by
  obtain ⟨hx, hb, hr, hml, hown, hts0, hX, hbl, hlocks, hgv⟩ := id C0
  have hts := hts0
  have hbA : ¬ A b := fun h => absurd (hAl b h) (Nat.not_le.mpr hbl)
  have hown : s.vm.findClass RL = some m.cls := hown
  have hb : c.code = cL_law := hb
  refine lv_aload_n hx hb dL_law_1245 rfl (lv_at hl 3 rfl) ?_
  refine lv_aload_n hx hb dL_law_1246 rfl (lv_at hl 4 rfl) ?_
  refine lv_iload hx hb dL_law_1247 (lv_at hl 0 rfl) ?_
  refine lv_iconst (v := 1) hx hb dL_law_1249 (by decide) ?_
  refine lv_iadd hx hb dL_law_1250 ?_
  refine lv_topi (fun z_1 ez_1 => ?_)
  obtain rfl : z_1 = 1 := ez_1.trans (by decide)
  refine va_sld hx hb hX hbl hbA hS (by unfold vp_in; decide) dL_law_1251 ?_
  refine lv_aload_n hx hb dL_law_1252 rfl (lv_at hl 4 rfl) ?_
  refine lv_iload hx hb dL_law_1253 (lv_at hl 0 rfl) ?_
  refine lv_iconst (v := 2) hx hb dL_law_1255 (by decide) ?_
  refine lv_iadd hx hb dL_law_1256 ?_
  refine lv_topi (fun z_2 ez_2 => ?_)
  obtain rfl : z_2 = 2 := ez_2.trans (by decide)
  refine va_sld hx hb hX hbl hbA hS (by unfold vp_in; decide) dL_law_1257 ?_
  refine lv_aload_n hx hb dL_law_1258 rfl (lv_at hl 1 rfl) ?_
  have hF := va_free (wc := [(h0, .inr (11, [.ref x_studio, .ref x_script, .ref x_teller, .ref x_planner, .ref x_plan, .ref x_drifts, .ref x_floor, .ref x_trial, .ref x_tape, .int 0, .int (-1)])), (x_studio, .inr (8, [.ref s_puppets, .int 0, .ref s_shots, .int 0, .ref s_sounds, .ref s_rates, .ref s_dresses])), (s_shots, .inl (cT 5, 12, .inr (.inr (.inr (.inr (fun _ => none))))))]) hD hS hA [0, 1, 2] rfl
  refine va_calli (vx_runSW (As := [.ref h0, .int (xs (Int32.toNatClampNeg 1)), .int (xs (Int32.toNatClampNeg 2)), .ref o9]) (rest := []) ⟨hx, hb, hml, hown, hts⟩ (c_L_fall l hst D cT h0 (xs (Int32.toNatClampNeg 1)) (xs (Int32.toNatClampNeg 2)) o9 x_studio x_script x_teller x_planner x_plan x_drifts x_floor x_trial x_tape s_puppets s_shots s_sounds s_rates s_dresses _ ) (vx_cwSW 4 hts zgL_law_L_fall_199 rfl rfl rfl (by decide +kernel) ⟨Nat.le_of_ble_eq_true rfl, Nat.le_of_ble_eq_true rfl⟩) (ps_z hP hD hK hG hZ hS hF [0, 1, 2] rfl rfl rfl) rfl rfl hl.1 rfl (lv_room (Nat.le_of_ble_eq_true rfl)) dL_law_1259 ⟨Nat.le_of_ble_eq_true rfl, Nat.le_of_ble_eq_true rfl⟩) hS (fun q _ h => hF q h) hF (fun r_3 uu9 tt9 H locs ht hvm wr_3 hB hz1 hk1 hS => ?_)
  obtain ⟨hP, hD⟩ := va_join (wr := [(m0, .inr (12, fs))]) (w1 := []) hP hD [0, 1, 2] [3] rfl rfl (by decide) (by decide) hk1 hF vp_nil vd_nil
  have hP : va_P D vwCl [(m0, .inr (12, fs))] _ := hP
  have hD : va_D A [(m0, .inr (12, fs))] := hD
  refine W.widen (k := 216) (n := 539460) (Nat.le_of_ble_eq_true rfl) (Nat.le_of_ble_eq_true rfl) ?_
  obtain rfl : r_3 = 1 := wr_3.trans (rfl)
  refine lv_istore (lv' := [(5, .int 1), (4, .int 0), (3, .ref o9), (2, .ref m0), (1, .ref h0), (0, .ref b)]) hx hb dL_law_1262 hl (by decide) rfl (fun ls hl => ?_)
  refine lv_aload_n hx hb dL_law_1264 rfl (lv_at hl 3 rfl) ?_
  refine lv_aload_n hx hb dL_law_1265 rfl (lv_at hl 5 rfl) ?_
  refine lv_iload hx hb dL_law_1266 (lv_at hl 1 rfl) ?_
  refine lv_iconst (v := 1) hx hb dL_law_1268 (by decide) ?_
  refine lv_iadd hx hb dL_law_1269 ?_
  refine lv_topi (fun z_4 ez_4 => ?_)
  obtain rfl : z_4 = 1 := ez_4.trans (by decide)
  refine va_sld hx hb hX hbl hbA hS (by unfold vp_in; decide) dL_law_1270 ?_
  refine lv_aload_n hx hb dL_law_1271 rfl (lv_at hl 5 rfl) ?_
  refine lv_iload hx hb dL_law_1272 (lv_at hl 1 rfl) ?_
  refine lv_iconst (v := 2) hx hb dL_law_1274 (by decide) ?_
  refine lv_iadd hx hb dL_law_1275 ?_
  refine lv_topi (fun z_5 ez_5 => ?_)
  obtain rfl : z_5 = 2 := ez_5.trans (by decide)
  refine va_sld hx hb hX hbl hbA hS (by unfold vp_in; decide) dL_law_1276 ?_
  have hF := va_free (wc := [(m0, .inr (12, fs))]) hD hS hA [0] rfl
  refine va_calli (va_runV (As := [.int (xs (Int32.toNatClampNeg 1)), .int (xs (Int32.toNatClampNeg 2))]) (rest := []) ⟨hx, hb, hml, hown, hts⟩ (c_X12_fall l D cT m0 (xs (Int32.toNatClampNeg 1)) (xs (Int32.toNatClampNeg 2)) fs 0 _ (hfs) (hfs_0) (hfs_1) (hfs_38)) (cwV 2 hts zgL_law_X12_fall_201 rfl rfl rfl (by decide +kernel) ⟨Nat.le_of_ble_eq_true rfl, Nat.le_of_ble_eq_true rfl⟩) (pv_w hP hD hK hG [0] rfl rfl rfl 0 rfl rfl) rfl rfl hl.1 rfl (lv_room (Nat.le_of_ble_eq_true rfl)) dL_law_1277 ⟨Nat.le_of_ble_eq_true rfl, Nat.le_of_ble_eq_true rfl⟩) hS (fun q _ h => hF q h) hF (fun r_6 uu9 tt9 H locs ht hvm wr_6 hB hz1 hk1 hS => ?_)
  obtain ⟨gs_7, hgs_7, hgs_7_0, hP1, hD1⟩ := hB
  rw [ht] at hP1
  obtain ⟨hP, hD⟩ := va_join (wr := []) (w1 := [(m0, .inr (12, gs_7))]) hP hD [0] [] rfl rfl (by decide) (by decide) hk1 hF hP1 hD1
  have hP : va_P D vwCl [(m0, .inr (12, gs_7))] _ := hP
  have hD : va_D A [(m0, .inr (12, gs_7))] := hD
  refine lv_istore (lv' := [(6, .int r_6), (5, .int 1), (4, .int 0), (3, .ref o9), (2, .ref m0), (1, .ref h0), (0, .ref b)]) hx hb dL_law_1280 hl (by decide) rfl (fun ls hl => ?_)
  refine lv_aload_n hx hb dL_law_1282 rfl (lv_at hl 4 rfl) ?_
  have hF := va_free (wc := [(m0, .inr (12, gs_7))]) hD hS hA [0] rfl
  refine va_calli (va_runV (As := []) (rest := []) ⟨hx, hb, hml, hown, hts⟩ (c_X12_thrown l D cT m0 gs_7 1 _ (hgs_7) (hgs_7_0)) (cwV 0 hts zgL_law_X12_thrown_149 rfl rfl rfl (by decide +kernel) ⟨Nat.le_of_ble_eq_true rfl, Nat.le_of_ble_eq_true rfl⟩) (pv_w hP hD hK hG [0] rfl rfl rfl 0 rfl rfl) rfl rfl hl.1 rfl (lv_room (Nat.le_of_ble_eq_true rfl)) dL_law_1283 ⟨Nat.le_of_ble_eq_true rfl, Nat.le_of_ble_eq_true rfl⟩) hS (fun q _ h => hF q h) hF (fun r_10 uu9 tt9 H locs ht hvm wr_10 hB hz1 hk1 hS => ?_)
  obtain ⟨hP1, hD1⟩ := hB
  rw [ht] at hP1
  obtain ⟨hP, hD⟩ := va_join (wr := []) (w1 := [(m0, .inr (12, gs_7))]) hP hD [0] [] rfl rfl (by decide) (by decide) hk1 hF hP1 hD1
  have hP : va_P D vwCl [(m0, .inr (12, gs_7))] _ := hP
  have hD : va_D A [(m0, .inr (12, gs_7))] := hD
  obtain rfl : r_10 = 1 := wr_10.trans (rfl)
  refine lv_iload hx hb dL_law_1286 (lv_at hl 1 rfl) ?_
  refine lv_icmp_eq (tgt := 1293) hx hb dL_law_1288 (by decide) (fun _ => ?_) (fun c9 => absurd c9 (by decide))
  refine lv_iload hx hb dL_law_1293 (lv_at hl 1 rfl) ?_
  refine lv_if_ne (tgt := 1310) hx hb dL_law_1295 (by decide) (fun _ => ?_) (fun c9 => absurd c9 (by decide))
  refine lv_goto (tgt := 3043) hx hb dL_law_1310 (by decide) ?_
  exact law_end C0 hA hAl hS (lv_sub hl [2, 6] rfl) (Nat.le_of_ble_eq_true rfl) (Nat.le_of_ble_eq_true rfl)
theorem dL_law_1313 : decode cL_law 1313 = .ok (.aload_n 1, 1) := by decide +kernel
theorem dL_law_1314 : decode cL_law 1314 = .ok (.aload_n 0, 1) := by decide +kernel
theorem dL_law_1315 : decode cL_law 1315 = .ok (.iload 4, 2) := by decide +kernel
theorem dL_law_1317 : decode cL_law 1317 = .ok (.iconst 1, 1) := by decide +kernel
theorem dL_law_1318 : decode cL_law 1318 = .ok (.iadd, 1) := by decide +kernel
theorem dL_law_1319 : decode cL_law 1319 = .ok (.iaload, 1) := by decide +kernel
theorem dL_law_1320 : decode cL_law 1320 = .ok (.aload_n 0, 1) := by decide +kernel
theorem dL_law_1321 : decode cL_law 1321 = .ok (.iload 4, 2) := by decide +kernel
theorem dL_law_1323 : decode cL_law 1323 = .ok (.iconst 2, 1) := by decide +kernel
theorem dL_law_1324 : decode cL_law 1324 = .ok (.iadd, 1) := by decide +kernel
theorem dL_law_1325 : decode cL_law 1325 = .ok (.iaload, 1) := by decide +kernel
theorem dL_law_1326 : decode cL_law 1326 = .ok (.aload_n 0, 1) := by decide +kernel
theorem dL_law_1327 : decode cL_law 1327 = .ok (.iload 4, 2) := by decide +kernel
theorem dL_law_1329 : decode cL_law 1329 = .ok (.iconst 3, 1) := by decide +kernel
theorem dL_law_1330 : decode cL_law 1330 = .ok (.iadd, 1) := by decide +kernel
theorem dL_law_1331 : decode cL_law 1331 = .ok (.iaload, 1) := by decide +kernel
theorem dL_law_1332 : decode cL_law 1332 = .ok (.aload_n 3, 1) := by decide +kernel
theorem dL_law_1333 : decode cL_law 1333 = .ok (.invokestatic 202, 3) := by decide +kernel
theorem dL_law_1336 : decode cL_law 1336 = .ok (.istore 5, 2) := by decide +kernel
theorem dL_law_1338 : decode cL_law 1338 = .ok (.aload_n 2, 1) := by decide +kernel
theorem dL_law_1339 : decode cL_law 1339 = .ok (.aload_n 0, 1) := by decide +kernel
theorem dL_law_1340 : decode cL_law 1340 = .ok (.iload 4, 2) := by decide +kernel
theorem dL_law_1342 : decode cL_law 1342 = .ok (.iconst 1, 1) := by decide +kernel
theorem dL_law_1343 : decode cL_law 1343 = .ok (.iadd, 1) := by decide +kernel
theorem dL_law_1344 : decode cL_law 1344 = .ok (.iaload, 1) := by decide +kernel
theorem dL_law_1345 : decode cL_law 1345 = .ok (.aload_n 0, 1) := by decide +kernel
theorem dL_law_1346 : decode cL_law 1346 = .ok (.iload 4, 2) := by decide +kernel
theorem dL_law_1348 : decode cL_law 1348 = .ok (.iconst 2, 1) := by decide +kernel
theorem dL_law_1349 : decode cL_law 1349 = .ok (.iadd, 1) := by decide +kernel
theorem dL_law_1350 : decode cL_law 1350 = .ok (.iaload, 1) := by decide +kernel
theorem dL_law_1351 : decode cL_law 1351 = .ok (.aload_n 0, 1) := by decide +kernel
theorem dL_law_1352 : decode cL_law 1352 = .ok (.iload 4, 2) := by decide +kernel
theorem dL_law_1354 : decode cL_law 1354 = .ok (.iconst 3, 1) := by decide +kernel
theorem dL_law_1355 : decode cL_law 1355 = .ok (.iadd, 1) := by decide +kernel
theorem dL_law_1356 : decode cL_law 1356 = .ok (.iaload, 1) := by decide +kernel
theorem dL_law_1357 : decode cL_law 1357 = .ok (.invokevirtual 204, 3) := by decide +kernel
theorem dL_law_1360 : decode cL_law 1360 = .ok (.istore 6, 2) := by decide +kernel
theorem dL_law_1362 : decode cL_law 1362 = .ok (.aload_n 2, 1) := by decide +kernel
theorem dL_law_1363 : decode cL_law 1363 = .ok (.invokevirtual 149, 3) := by decide +kernel
theorem dL_law_1366 : decode cL_law 1366 = .ok (.iload 5, 2) := by decide +kernel
theorem dL_law_1368 : decode cL_law 1368 = .ok (.if_icmp .eq 5, 3) := by decide +kernel
theorem dL_law_1373 : decode cL_law 1373 = .ok (.iload 5, 2) := by decide +kernel
theorem dL_law_1375 : decode cL_law 1375 = .ok (.ifCond .ne 22, 3) := by decide +kernel
theorem dL_law_1397 : decode cL_law 1397 = .ok (.goto 1646, 3) := by decide +kernel
set_option maxRecDepth 100000 in
theorem zgL_law_L_alike_202_w : GoodIn lw_tbl zsL_alike := goodIn_app (goodIn_sub (ws := [.codeWith yL_alike cL_alike 6 (some .int) [(0, 19, 22, 37), (0, 19, 26, 13)]]) (fun _ h9 => List.mem_singleton.mp h9 ▸ List.mem_of_getElem? (i := 1512) rfl) (by decide +kernel)) (goodIn_app (goodIn_app (goodIn_app (goodIn_sub (ws := [.methodLink RL 62 yX11_alike, .instanceMethod yX11_alike, .selects RX11 yX11_alike yX11_alike, .initialized RX11, .code yX11_alike cX11_alike 5 (some .boolean), .classLink RL 37 "java/util/NoSuchElementException", .classLink RL 13 "java/lang/IndexOutOfBoundsException", .methodLink RX11 166 yX11_needShot, .instanceMethod yX11_needShot, .selects RX11 yX11_needShot yX11_needShot, .code yX11_needShot cX11_needShot 3 (some (.object "PuppetFilm$Shot")), .classLink RX11 408 "java/util/NoSuchElementException", .initialized "java/util/NoSuchElementException", .fieldLink RX11 10 "PuppetFilm" "studio" "LPuppetFilm$Studio;", .methodLink RX11 271 yX8_shotAt, .instanceMethod yX8_shotAt, .selects RX8 yX8_shotAt yX8_shotAt, .initialized RX8, .code yX8_shotAt cX8_shotAt 2 (some (.object "PuppetFilm$Shot")), .fieldLink RX8 19 "PuppetFilm$Studio" "shots" "[LPuppetFilm$Shot;"]) (mem_ps [1513, 1514, 1515, 118, 1516, 1357, 848, 1362, 1364, 45, 1365, 1367, 145, 554, 1366, 669, 670, 119, 671, 171] (by decide +kernel)) (by decide +kernel)) zgC_X11) zgC_X8) zgZ)
set_option maxRecDepth 100000 in
theorem zgL_law_L_alike_202 : GoodIn lw_tbl (va_wsS RL 202 yL_alike zsL_alike) := goodIn_app (goodIn_sub (mem_ps [1510, 1511, 117] (by decide +kernel)) (by decide +kernel)) zgL_law_L_alike_202_w
set_option maxRecDepth 100000 in
theorem zgL_law_wsX12_alike_r1 : GoodIn lw_tbl wsX12_alike_r1 := goodIn_sub (mem_ps [1882, 2376, 2378, 86, 129, 2379, 1920, 2222, 2223, 2224, 2225, 2227, 63, 2228, 2388, 2390, 88, 2391, 1926, 2444, 2446, 94, 2447, 1924] rfl) (by decide +kernel)
set_option maxRecDepth 100000 in
theorem zgL_law_wsX12_alike_r2 : GoodIn lw_tbl wsX12_alike_r2 := goodIn_sub (mem_ps [1925, 1921, 1923, 2345, 2346, 2347, 2401, 2403, 90, 2404, 1922, 1893] rfl) (by decide +kernel)
set_option maxRecDepth 100000 in
theorem zgL_law_X12_alike_204_w : GoodIn lw_tbl wsX12_alike := goodIn_app (goodIn_sub (ws := [.code yX12_alike cX12_alike 4 (some .boolean)]) (fun _ h9 => List.mem_singleton.mp h9 ▸ List.mem_of_getElem? (i := 2443) rfl) (by decide +kernel)) (goodIn_app (goodIn_app zgL_law_wsX12_alike_r1 zgL_law_wsX12_alike_r2) zgC_X12)
set_option maxRecDepth 100000 in
theorem zgL_law_X12_alike_204 : GoodIn lw_tbl (wsV RL 204 RX12 yX12_alike wsX12_alike) := goodIn_app (goodIn_sub (mem_ps [2440, 2441, 2442, 129] (by decide +kernel)) (by decide +kernel)) zgL_law_X12_alike_204_w
set_option maxHeartbeats 8000000 in
set_option maxRecDepth 100000 in
/-- the law: alike -/
theorem law_case_16 {p : Program} {l : Launch} {e : Env} {s : State} {m : MethodId} {below : List Frame} {meth : Method} {c : Code} {D : va_G} {cT : Nat → ClassId} {b : Nat} {xs : Nat → Int32} {A : Nat → Prop} (hst : l.stackTraces = false) (C0 : lw_At p s m meth c b 7 xs) (hA : ∀ q : Nat, s.heap.size ≤ q → A q) (hAl : ∀ q, A q → s.heap.size ≤ q) (hK : va_K D vwCl (TY cT) s) (hG : GW s) (hZ : GZ A s s.heap) {h0 : Nat} {m0 : Nat} {o9 : Nat} {x_studio : Nat} {x_script : Nat} {x_teller : Nat} {x_planner : Nat} {x_plan : Nat} {x_drifts : Nat} {x_floor : Nat} {x_trial : Nat} {x_tape : Nat} {s_puppets : Nat} {s_shots : Nat} {s_sounds : Nat} {s_rates : Nat} {s_dresses : Nat} {fs : List Value} (hfs : fs.length = 109) (hfs_0 : fs[0]? = some (.int 0)) (hfs_1 : fs[1]? = some (.int 0)) (hfs_38 : fs[38]? = some (.int 0)) {H : Heap} {locs : List Loc} (hP : va_P D vwCl [(h0, .inr (11, [.ref x_studio, .ref x_script, .ref x_teller, .ref x_planner, .ref x_plan, .ref x_drifts, .ref x_floor, .ref x_trial, .ref x_tape, .int 0, .int (-1)])), (x_studio, .inr (8, [.ref s_puppets, .int 0, .ref s_shots, .int 0, .ref s_sounds, .ref s_rates, .ref s_dresses])), (s_shots, .inl (cT 5, 12, .inr (.inr (.inr (.inr (fun _ => none)))))), (m0, .inr (12, fs))] H) (hD : va_D A [(h0, .inr (11, [.ref x_studio, .ref x_script, .ref x_teller, .ref x_planner, .ref x_plan, .ref x_drifts, .ref x_floor, .ref x_trial, .ref x_tape, .int 0, .int (-1)])), (x_studio, .inr (8, [.ref s_puppets, .int 0, .ref s_shots, .int 0, .ref s_sounds, .ref s_rates, .ref s_dresses])), (s_shots, .inl (cT 5, 12, .inr (.inr (.inr (.inr (fun _ => none)))))), (m0, .inr (12, fs))]) (hS : va_S A s.heap H locs) {ls : Array Slot} (hl : lv_has ls 7 [(4, .int 0), (3, .ref o9), (2, .ref m0), (1, .ref h0), (0, .ref b)]) : W p l e room_1 s m #[Value.ref b] below meth c H locs 215 539454 (lw_Z below #[Value.ref b] s) (F0 m 1313 ls []) := by
  obtain ⟨hx, hb, hr, hml, hown, hts0, hX, hbl, hlocks, hgv⟩ := id C0
  have hts := hts0
  have hbA : ¬ A b := fun h => absurd (hAl b h) (Nat.not_le.mpr hbl)
  have hown : s.vm.findClass RL = some m.cls := hown
  have hb : c.code = cL_law := hb
  refine lv_aload_n hx hb dL_law_1313 rfl (lv_at hl 3 rfl) ?_
  refine lv_aload_n hx hb dL_law_1314 rfl (lv_at hl 4 rfl) ?_
  refine lv_iload hx hb dL_law_1315 (lv_at hl 0 rfl) ?_
  refine lv_iconst (v := 1) hx hb dL_law_1317 (by decide) ?_
  refine lv_iadd hx hb dL_law_1318 ?_
  refine lv_topi (fun z_1 ez_1 => ?_)
  obtain rfl : z_1 = 1 := ez_1.trans (by decide)
  refine va_sld hx hb hX hbl hbA hS (by unfold vp_in; decide) dL_law_1319 ?_
  refine lv_aload_n hx hb dL_law_1320 rfl (lv_at hl 4 rfl) ?_
  refine lv_iload hx hb dL_law_1321 (lv_at hl 0 rfl) ?_
  refine lv_iconst (v := 2) hx hb dL_law_1323 (by decide) ?_
  refine lv_iadd hx hb dL_law_1324 ?_
  refine lv_topi (fun z_2 ez_2 => ?_)
  obtain rfl : z_2 = 2 := ez_2.trans (by decide)
  refine va_sld hx hb hX hbl hbA hS (by unfold vp_in; decide) dL_law_1325 ?_
  refine lv_aload_n hx hb dL_law_1326 rfl (lv_at hl 4 rfl) ?_
  refine lv_iload hx hb dL_law_1327 (lv_at hl 0 rfl) ?_
  refine lv_iconst (v := 3) hx hb dL_law_1329 (by decide) ?_
  refine lv_iadd hx hb dL_law_1330 ?_
  refine lv_topi (fun z_3 ez_3 => ?_)
  obtain rfl : z_3 = 3 := ez_3.trans (by decide)
  refine va_sld hx hb hX hbl hbA hS (by unfold vp_in; decide) dL_law_1331 ?_
  refine lv_aload_n hx hb dL_law_1332 rfl (lv_at hl 1 rfl) ?_
  have hF := va_free (wc := [(h0, .inr (11, [.ref x_studio, .ref x_script, .ref x_teller, .ref x_planner, .ref x_plan, .ref x_drifts, .ref x_floor, .ref x_trial, .ref x_tape, .int 0, .int (-1)])), (x_studio, .inr (8, [.ref s_puppets, .int 0, .ref s_shots, .int 0, .ref s_sounds, .ref s_rates, .ref s_dresses])), (s_shots, .inl (cT 5, 12, .inr (.inr (.inr (.inr (fun _ => none))))))]) hD hS hA [0, 1, 2] rfl
  refine va_calli (vx_runSW (As := [.ref h0, .int (xs (Int32.toNatClampNeg 1)), .int (xs (Int32.toNatClampNeg 2)), .int (xs (Int32.toNatClampNeg 3)), .ref o9]) (rest := []) ⟨hx, hb, hml, hown, hts⟩ (c_L_alike l hst D cT h0 (xs (Int32.toNatClampNeg 1)) (xs (Int32.toNatClampNeg 2)) (xs (Int32.toNatClampNeg 3)) o9 x_studio x_script x_teller x_planner x_plan x_drifts x_floor x_trial x_tape s_puppets s_shots s_sounds s_rates s_dresses _ ) (vx_cwSW 5 hts zgL_law_L_alike_202 rfl rfl rfl (by decide +kernel) ⟨Nat.le_of_ble_eq_true rfl, Nat.le_of_ble_eq_true rfl⟩) (ps_z hP hD hK hG hZ hS hF [0, 1, 2] rfl rfl rfl) rfl rfl hl.1 rfl (lv_room (Nat.le_of_ble_eq_true rfl)) dL_law_1333 ⟨Nat.le_of_ble_eq_true rfl, Nat.le_of_ble_eq_true rfl⟩) hS (fun q _ h => hF q h) hF (fun r_4 uu9 tt9 H locs ht hvm wr_4 hB hz1 hk1 hS => ?_)
  obtain ⟨hP, hD⟩ := va_join (wr := [(m0, .inr (12, fs))]) (w1 := []) hP hD [0, 1, 2] [3] rfl rfl (by decide) (by decide) hk1 hF vp_nil vd_nil
  have hP : va_P D vwCl [(m0, .inr (12, fs))] _ := hP
  have hD : va_D A [(m0, .inr (12, fs))] := hD
  refine W.widen (k := 216) (n := 539460) (Nat.le_of_ble_eq_true rfl) (Nat.le_of_ble_eq_true rfl) ?_
  obtain rfl : r_4 = 1 := wr_4.trans (rfl)
  refine lv_istore (lv' := [(5, .int 1), (4, .int 0), (3, .ref o9), (2, .ref m0), (1, .ref h0), (0, .ref b)]) hx hb dL_law_1336 hl (by decide) rfl (fun ls hl => ?_)
  refine lv_aload_n hx hb dL_law_1338 rfl (lv_at hl 3 rfl) ?_
  refine lv_aload_n hx hb dL_law_1339 rfl (lv_at hl 5 rfl) ?_
  refine lv_iload hx hb dL_law_1340 (lv_at hl 1 rfl) ?_
  refine lv_iconst (v := 1) hx hb dL_law_1342 (by decide) ?_
  refine lv_iadd hx hb dL_law_1343 ?_
  refine lv_topi (fun z_5 ez_5 => ?_)
  obtain rfl : z_5 = 1 := ez_5.trans (by decide)
  refine va_sld hx hb hX hbl hbA hS (by unfold vp_in; decide) dL_law_1344 ?_
  refine lv_aload_n hx hb dL_law_1345 rfl (lv_at hl 5 rfl) ?_
  refine lv_iload hx hb dL_law_1346 (lv_at hl 1 rfl) ?_
  refine lv_iconst (v := 2) hx hb dL_law_1348 (by decide) ?_
  refine lv_iadd hx hb dL_law_1349 ?_
  refine lv_topi (fun z_6 ez_6 => ?_)
  obtain rfl : z_6 = 2 := ez_6.trans (by decide)
  refine va_sld hx hb hX hbl hbA hS (by unfold vp_in; decide) dL_law_1350 ?_
  refine lv_aload_n hx hb dL_law_1351 rfl (lv_at hl 5 rfl) ?_
  refine lv_iload hx hb dL_law_1352 (lv_at hl 1 rfl) ?_
  refine lv_iconst (v := 3) hx hb dL_law_1354 (by decide) ?_
  refine lv_iadd hx hb dL_law_1355 ?_
  refine lv_topi (fun z_7 ez_7 => ?_)
  obtain rfl : z_7 = 3 := ez_7.trans (by decide)
  refine va_sld hx hb hX hbl hbA hS (by unfold vp_in; decide) dL_law_1356 ?_
  have hF := va_free (wc := [(m0, .inr (12, fs))]) hD hS hA [0] rfl
  refine va_calli (va_runV (As := [.int (xs (Int32.toNatClampNeg 1)), .int (xs (Int32.toNatClampNeg 2)), .int (xs (Int32.toNatClampNeg 3))]) (rest := []) ⟨hx, hb, hml, hown, hts⟩ (c_X12_alike l D cT m0 (xs (Int32.toNatClampNeg 1)) (xs (Int32.toNatClampNeg 2)) (xs (Int32.toNatClampNeg 3)) fs 0 _ (hfs) (hfs_0) (hfs_1) (hfs_38)) (cwV 3 hts zgL_law_X12_alike_204 rfl rfl rfl (by decide +kernel) ⟨Nat.le_of_ble_eq_true rfl, Nat.le_of_ble_eq_true rfl⟩) (pv_w hP hD hK hG [0] rfl rfl rfl 0 rfl rfl) rfl rfl hl.1 rfl (lv_room (Nat.le_of_ble_eq_true rfl)) dL_law_1357 ⟨Nat.le_of_ble_eq_true rfl, Nat.le_of_ble_eq_true rfl⟩) hS (fun q _ h => hF q h) hF (fun r_8 uu9 tt9 H locs ht hvm wr_8 hB hz1 hk1 hS => ?_)
  obtain ⟨gs_9, hgs_9, hgs_9_0, hP1, hD1⟩ := hB
  rw [ht] at hP1
  obtain ⟨hP, hD⟩ := va_join (wr := []) (w1 := [(m0, .inr (12, gs_9))]) hP hD [0] [] rfl rfl (by decide) (by decide) hk1 hF hP1 hD1
  have hP : va_P D vwCl [(m0, .inr (12, gs_9))] _ := hP
  have hD : va_D A [(m0, .inr (12, gs_9))] := hD
  refine lv_istore (lv' := [(6, .int r_8), (5, .int 1), (4, .int 0), (3, .ref o9), (2, .ref m0), (1, .ref h0), (0, .ref b)]) hx hb dL_law_1360 hl (by decide) rfl (fun ls hl => ?_)
  refine lv_aload_n hx hb dL_law_1362 rfl (lv_at hl 4 rfl) ?_
  have hF := va_free (wc := [(m0, .inr (12, gs_9))]) hD hS hA [0] rfl
  refine va_calli (va_runV (As := []) (rest := []) ⟨hx, hb, hml, hown, hts⟩ (c_X12_thrown l D cT m0 gs_9 1 _ (hgs_9) (hgs_9_0)) (cwV 0 hts zgL_law_X12_thrown_149 rfl rfl rfl (by decide +kernel) ⟨Nat.le_of_ble_eq_true rfl, Nat.le_of_ble_eq_true rfl⟩) (pv_w hP hD hK hG [0] rfl rfl rfl 0 rfl rfl) rfl rfl hl.1 rfl (lv_room (Nat.le_of_ble_eq_true rfl)) dL_law_1363 ⟨Nat.le_of_ble_eq_true rfl, Nat.le_of_ble_eq_true rfl⟩) hS (fun q _ h => hF q h) hF (fun r_12 uu9 tt9 H locs ht hvm wr_12 hB hz1 hk1 hS => ?_)
  obtain ⟨hP1, hD1⟩ := hB
  rw [ht] at hP1
  obtain ⟨hP, hD⟩ := va_join (wr := []) (w1 := [(m0, .inr (12, gs_9))]) hP hD [0] [] rfl rfl (by decide) (by decide) hk1 hF hP1 hD1
  have hP : va_P D vwCl [(m0, .inr (12, gs_9))] _ := hP
  have hD : va_D A [(m0, .inr (12, gs_9))] := hD
  obtain rfl : r_12 = 1 := wr_12.trans (rfl)
  refine lv_iload hx hb dL_law_1366 (lv_at hl 1 rfl) ?_
  refine lv_icmp_eq (tgt := 1373) hx hb dL_law_1368 (by decide) (fun _ => ?_) (fun c9 => absurd c9 (by decide))
  refine lv_iload hx hb dL_law_1373 (lv_at hl 1 rfl) ?_
  refine lv_if_ne (tgt := 1397) hx hb dL_law_1375 (by decide) (fun _ => ?_) (fun c9 => absurd c9 (by decide))
  refine lv_goto (tgt := 3043) hx hb dL_law_1397 (by decide) ?_
  exact law_end C0 hA hAl hS (lv_sub hl [2, 6] rfl) (Nat.le_of_ble_eq_true rfl) (Nat.le_of_ble_eq_true rfl)
theorem dL_law_1400 : decode cL_law 1400 = .ok (.aload_n 1, 1) := by decide +kernel
theorem dL_law_1401 : decode cL_law 1401 = .ok (.aload_n 0, 1) := by decide +kernel
theorem dL_law_1402 : decode cL_law 1402 = .ok (.iload 4, 2) := by decide +kernel
theorem dL_law_1404 : decode cL_law 1404 = .ok (.iconst 1, 1) := by decide +kernel
theorem dL_law_1405 : decode cL_law 1405 = .ok (.iadd, 1) := by decide +kernel
theorem dL_law_1406 : decode cL_law 1406 = .ok (.iaload, 1) := by decide +kernel
theorem dL_law_1407 : decode cL_law 1407 = .ok (.aload_n 0, 1) := by decide +kernel
theorem dL_law_1408 : decode cL_law 1408 = .ok (.iload 4, 2) := by decide +kernel
theorem dL_law_1410 : decode cL_law 1410 = .ok (.iconst 2, 1) := by decide +kernel
theorem dL_law_1411 : decode cL_law 1411 = .ok (.iadd, 1) := by decide +kernel
theorem dL_law_1412 : decode cL_law 1412 = .ok (.iaload, 1) := by decide +kernel
theorem dL_law_1413 : decode cL_law 1413 = .ok (.aload_n 0, 1) := by decide +kernel
theorem dL_law_1414 : decode cL_law 1414 = .ok (.iload 4, 2) := by decide +kernel
theorem dL_law_1416 : decode cL_law 1416 = .ok (.iconst 3, 1) := by decide +kernel
theorem dL_law_1417 : decode cL_law 1417 = .ok (.iadd, 1) := by decide +kernel
theorem dL_law_1418 : decode cL_law 1418 = .ok (.iaload, 1) := by decide +kernel
theorem dL_law_1419 : decode cL_law 1419 = .ok (.aload_n 3, 1) := by decide +kernel
theorem dL_law_1420 : decode cL_law 1420 = .ok (.invokestatic 205, 3) := by decide +kernel
theorem dL_law_1423 : decode cL_law 1423 = .ok (.istore 5, 2) := by decide +kernel
theorem dL_law_1425 : decode cL_law 1425 = .ok (.aload_n 2, 1) := by decide +kernel
theorem dL_law_1426 : decode cL_law 1426 = .ok (.aload_n 0, 1) := by decide +kernel
theorem dL_law_1427 : decode cL_law 1427 = .ok (.iload 4, 2) := by decide +kernel
theorem dL_law_1429 : decode cL_law 1429 = .ok (.iconst 1, 1) := by decide +kernel
theorem dL_law_1430 : decode cL_law 1430 = .ok (.iadd, 1) := by decide +kernel
theorem dL_law_1431 : decode cL_law 1431 = .ok (.iaload, 1) := by decide +kernel
theorem dL_law_1432 : decode cL_law 1432 = .ok (.aload_n 0, 1) := by decide +kernel
theorem dL_law_1433 : decode cL_law 1433 = .ok (.iload 4, 2) := by decide +kernel
theorem dL_law_1435 : decode cL_law 1435 = .ok (.iconst 2, 1) := by decide +kernel
theorem dL_law_1436 : decode cL_law 1436 = .ok (.iadd, 1) := by decide +kernel
theorem dL_law_1437 : decode cL_law 1437 = .ok (.iaload, 1) := by decide +kernel
theorem dL_law_1438 : decode cL_law 1438 = .ok (.aload_n 0, 1) := by decide +kernel
theorem dL_law_1439 : decode cL_law 1439 = .ok (.iload 4, 2) := by decide +kernel
theorem dL_law_1441 : decode cL_law 1441 = .ok (.iconst 3, 1) := by decide +kernel
theorem dL_law_1442 : decode cL_law 1442 = .ok (.iadd, 1) := by decide +kernel
theorem dL_law_1443 : decode cL_law 1443 = .ok (.iaload, 1) := by decide +kernel
theorem dL_law_1444 : decode cL_law 1444 = .ok (.invokevirtual 207, 3) := by decide +kernel
theorem dL_law_1447 : decode cL_law 1447 = .ok (.istore 6, 2) := by decide +kernel
theorem dL_law_1449 : decode cL_law 1449 = .ok (.aload_n 2, 1) := by decide +kernel
theorem dL_law_1450 : decode cL_law 1450 = .ok (.invokevirtual 149, 3) := by decide +kernel
theorem dL_law_1453 : decode cL_law 1453 = .ok (.iload 5, 2) := by decide +kernel
theorem dL_law_1455 : decode cL_law 1455 = .ok (.if_icmp .eq 5, 3) := by decide +kernel
theorem dL_law_1460 : decode cL_law 1460 = .ok (.iload 5, 2) := by decide +kernel
theorem dL_law_1462 : decode cL_law 1462 = .ok (.ifCond .ne 15, 3) := by decide +kernel
theorem dL_law_1477 : decode cL_law 1477 = .ok (.goto 1566, 3) := by decide +kernel
set_option maxRecDepth 100000 in
theorem zgL_law_L_swap_205_w : GoodIn lw_tbl zsL_swap := goodIn_app (goodIn_sub (ws := [.codeWith yL_swap cL_swap 6 (some .int) [(0, 12, 15, 37), (0, 12, 19, 13)]]) (fun _ h9 => List.mem_singleton.mp h9 ▸ List.mem_of_getElem? (i := 1535) rfl) (by decide +kernel)) (goodIn_app (goodIn_app (goodIn_app (goodIn_sub (ws := [.methodLink RL 66 yX11_swap, .instanceMethod yX11_swap, .selects RX11 yX11_swap yX11_swap, .initialized RX11, .code yX11_swap cX11_swap 7 (some .int), .classLink RL 37 "java/util/NoSuchElementException", .classLink RL 13 "java/lang/IndexOutOfBoundsException", .methodLink RX11 166 yX11_needShot, .instanceMethod yX11_needShot, .selects RX11 yX11_needShot yX11_needShot, .code yX11_needShot cX11_needShot 3 (some (.object "PuppetFilm$Shot")), .classLink RX11 408 "java/util/NoSuchElementException", .initialized "java/util/NoSuchElementException", .fieldLink RX11 10 "PuppetFilm" "studio" "LPuppetFilm$Studio;", .methodLink RX11 271 yX8_shotAt, .instanceMethod yX8_shotAt, .selects RX8 yX8_shotAt yX8_shotAt, .initialized RX8, .code yX8_shotAt cX8_shotAt 2 (some (.object "PuppetFilm$Shot")), .fieldLink RX8 19 "PuppetFilm$Studio" "shots" "[LPuppetFilm$Shot;"]) (mem_ps [1536, 1537, 1538, 118, 1539, 1357, 848, 1362, 1364, 45, 1365, 1367, 145, 554, 1366, 669, 670, 119, 671, 171] (by decide +kernel)) (by decide +kernel)) zgC_X11) zgC_X8) zgZ)
set_option maxRecDepth 100000 in
theorem zgL_law_L_swap_205 : GoodIn lw_tbl (va_wsS RL 205 yL_swap zsL_swap) := goodIn_app (goodIn_sub (mem_ps [1533, 1534, 117] (by decide +kernel)) (by decide +kernel)) zgL_law_L_swap_205_w
set_option maxRecDepth 100000 in
theorem zgL_law_wsX12_swap_r1 : GoodIn lw_tbl wsX12_swap_r1 := goodIn_sub (mem_ps [1882, 1927, 1926, 1884, 1886, 1887, 1921, 1922, 1924, 1925, 1928, 2376, 2378, 86, 129, 2379, 1920, 2222, 2223, 2224, 2225, 2227, 63, 2228] rfl) (by decide +kernel)
set_option maxRecDepth 100000 in
theorem zgL_law_wsX12_swap_r2 : GoodIn lw_tbl wsX12_swap_r2 := goodIn_sub (mem_ps [2218, 2220, 62, 2221, 1883, 2452, 2454, 95, 2455, 1885, 2393, 2395, 89, 2396, 2345, 2346, 2347, 2413, 2415, 91, 2416, 2417, 2419, 92] rfl) (by decide +kernel)
set_option maxRecDepth 100000 in
theorem zgL_law_wsX12_swap_r3 : GoodIn lw_tbl wsX12_swap_r3 := goodIn_sub (mem_ps [2420, 1944, 1945, 1888, 1889, 2421, 2422, 2423, 2424, 2426, 93, 2427, 1890, 1891, 2456, 2457, 2458] rfl) (by decide +kernel)
set_option maxRecDepth 100000 in
theorem zgL_law_X12_swap_207_w : GoodIn lw_tbl wsX12_swap := goodIn_app (goodIn_sub (ws := [.code yX12_swap cX12_swap 9 (some .int)]) (fun _ h9 => List.mem_singleton.mp h9 ▸ List.mem_of_getElem? (i := 2451) rfl) (by decide +kernel)) (goodIn_app (goodIn_app zgL_law_wsX12_swap_r1 (goodIn_app zgL_law_wsX12_swap_r2 zgL_law_wsX12_swap_r3)) zgC_X12)
set_option maxRecDepth 100000 in
theorem zgL_law_X12_swap_207 : GoodIn lw_tbl (wsV RL 207 RX12 yX12_swap wsX12_swap) := goodIn_app (goodIn_sub (mem_ps [2448, 2449, 2450, 129] (by decide +kernel)) (by decide +kernel)) zgL_law_X12_swap_207_w
set_option maxHeartbeats 8000000 in
set_option maxRecDepth 100000 in
/-- the law: swap -/
theorem law_case_17 {p : Program} {l : Launch} {e : Env} {s : State} {m : MethodId} {below : List Frame} {meth : Method} {c : Code} {D : va_G} {cT : Nat → ClassId} {b : Nat} {xs : Nat → Int32} {A : Nat → Prop} (hst : l.stackTraces = false) (C0 : lw_At p s m meth c b 7 xs) (hA : ∀ q : Nat, s.heap.size ≤ q → A q) (hAl : ∀ q, A q → s.heap.size ≤ q) (hK : va_K D vwCl (TY cT) s) (hG : GW s) (hZ : GZ A s s.heap) {h0 : Nat} {m0 : Nat} {o9 : Nat} {x_studio : Nat} {x_script : Nat} {x_teller : Nat} {x_planner : Nat} {x_plan : Nat} {x_drifts : Nat} {x_floor : Nat} {x_trial : Nat} {x_tape : Nat} {s_puppets : Nat} {s_shots : Nat} {s_sounds : Nat} {s_rates : Nat} {s_dresses : Nat} {fs : List Value} (hfs : fs.length = 109) (hfs_0 : fs[0]? = some (.int 0)) (hfs_1 : fs[1]? = some (.int 0)) (hfs_38 : fs[38]? = some (.int 0)) {H : Heap} {locs : List Loc} (hP : va_P D vwCl [(h0, .inr (11, [.ref x_studio, .ref x_script, .ref x_teller, .ref x_planner, .ref x_plan, .ref x_drifts, .ref x_floor, .ref x_trial, .ref x_tape, .int 0, .int (-1)])), (x_studio, .inr (8, [.ref s_puppets, .int 0, .ref s_shots, .int 0, .ref s_sounds, .ref s_rates, .ref s_dresses])), (s_shots, .inl (cT 5, 12, .inr (.inr (.inr (.inr (fun _ => none)))))), (m0, .inr (12, fs))] H) (hD : va_D A [(h0, .inr (11, [.ref x_studio, .ref x_script, .ref x_teller, .ref x_planner, .ref x_plan, .ref x_drifts, .ref x_floor, .ref x_trial, .ref x_tape, .int 0, .int (-1)])), (x_studio, .inr (8, [.ref s_puppets, .int 0, .ref s_shots, .int 0, .ref s_sounds, .ref s_rates, .ref s_dresses])), (s_shots, .inl (cT 5, 12, .inr (.inr (.inr (.inr (fun _ => none)))))), (m0, .inr (12, fs))]) (hS : va_S A s.heap H locs) {ls : Array Slot} (hl : lv_has ls 7 [(4, .int 0), (3, .ref o9), (2, .ref m0), (1, .ref h0), (0, .ref b)]) : W p l e room_1 s m #[Value.ref b] below meth c H locs 215 539454 (lw_Z below #[Value.ref b] s) (F0 m 1400 ls []) := by
  obtain ⟨hx, hb, hr, hml, hown, hts0, hX, hbl, hlocks, hgv⟩ := id C0
  have hts := hts0
  have hbA : ¬ A b := fun h => absurd (hAl b h) (Nat.not_le.mpr hbl)
  have hown : s.vm.findClass RL = some m.cls := hown
  have hb : c.code = cL_law := hb
  refine lv_aload_n hx hb dL_law_1400 rfl (lv_at hl 3 rfl) ?_
  refine lv_aload_n hx hb dL_law_1401 rfl (lv_at hl 4 rfl) ?_
  refine lv_iload hx hb dL_law_1402 (lv_at hl 0 rfl) ?_
  refine lv_iconst (v := 1) hx hb dL_law_1404 (by decide) ?_
  refine lv_iadd hx hb dL_law_1405 ?_
  refine lv_topi (fun z_1 ez_1 => ?_)
  obtain rfl : z_1 = 1 := ez_1.trans (by decide)
  refine va_sld hx hb hX hbl hbA hS (by unfold vp_in; decide) dL_law_1406 ?_
  refine lv_aload_n hx hb dL_law_1407 rfl (lv_at hl 4 rfl) ?_
  refine lv_iload hx hb dL_law_1408 (lv_at hl 0 rfl) ?_
  refine lv_iconst (v := 2) hx hb dL_law_1410 (by decide) ?_
  refine lv_iadd hx hb dL_law_1411 ?_
  refine lv_topi (fun z_2 ez_2 => ?_)
  obtain rfl : z_2 = 2 := ez_2.trans (by decide)
  refine va_sld hx hb hX hbl hbA hS (by unfold vp_in; decide) dL_law_1412 ?_
  refine lv_aload_n hx hb dL_law_1413 rfl (lv_at hl 4 rfl) ?_
  refine lv_iload hx hb dL_law_1414 (lv_at hl 0 rfl) ?_
  refine lv_iconst (v := 3) hx hb dL_law_1416 (by decide) ?_
  refine lv_iadd hx hb dL_law_1417 ?_
  refine lv_topi (fun z_3 ez_3 => ?_)
  obtain rfl : z_3 = 3 := ez_3.trans (by decide)
  refine va_sld hx hb hX hbl hbA hS (by unfold vp_in; decide) dL_law_1418 ?_
  refine lv_aload_n hx hb dL_law_1419 rfl (lv_at hl 1 rfl) ?_
  have hF := va_free (wc := [(h0, .inr (11, [.ref x_studio, .ref x_script, .ref x_teller, .ref x_planner, .ref x_plan, .ref x_drifts, .ref x_floor, .ref x_trial, .ref x_tape, .int 0, .int (-1)])), (x_studio, .inr (8, [.ref s_puppets, .int 0, .ref s_shots, .int 0, .ref s_sounds, .ref s_rates, .ref s_dresses])), (s_shots, .inl (cT 5, 12, .inr (.inr (.inr (.inr (fun _ => none))))))]) hD hS hA [0, 1, 2] rfl
  refine va_calli (vx_runSW (As := [.ref h0, .int (xs (Int32.toNatClampNeg 1)), .int (xs (Int32.toNatClampNeg 2)), .int (xs (Int32.toNatClampNeg 3)), .ref o9]) (rest := []) ⟨hx, hb, hml, hown, hts⟩ (c_L_swap l hst D cT h0 (xs (Int32.toNatClampNeg 1)) (xs (Int32.toNatClampNeg 2)) (xs (Int32.toNatClampNeg 3)) o9 x_studio x_script x_teller x_planner x_plan x_drifts x_floor x_trial x_tape s_puppets s_shots s_sounds s_rates s_dresses _ ) (vx_cwSW 5 hts zgL_law_L_swap_205 rfl rfl rfl (by decide +kernel) ⟨Nat.le_of_ble_eq_true rfl, Nat.le_of_ble_eq_true rfl⟩) (ps_z hP hD hK hG hZ hS hF [0, 1, 2] rfl rfl rfl) rfl rfl hl.1 rfl (lv_room (Nat.le_of_ble_eq_true rfl)) dL_law_1420 ⟨Nat.le_of_ble_eq_true rfl, Nat.le_of_ble_eq_true rfl⟩) hS (fun q _ h => hF q h) hF (fun r_4 uu9 tt9 H locs ht hvm wr_4 hB hz1 hk1 hS => ?_)
  obtain ⟨hP, hD⟩ := va_join (wr := [(m0, .inr (12, fs))]) (w1 := []) hP hD [0, 1, 2] [3] rfl rfl (by decide) (by decide) hk1 hF vp_nil vd_nil
  have hP : va_P D vwCl [(m0, .inr (12, fs))] _ := hP
  have hD : va_D A [(m0, .inr (12, fs))] := hD
  refine W.widen (k := 216) (n := 539460) (Nat.le_of_ble_eq_true rfl) (Nat.le_of_ble_eq_true rfl) ?_
  obtain rfl : r_4 = 1 := wr_4.trans (rfl)
  refine lv_istore (lv' := [(5, .int 1), (4, .int 0), (3, .ref o9), (2, .ref m0), (1, .ref h0), (0, .ref b)]) hx hb dL_law_1423 hl (by decide) rfl (fun ls hl => ?_)
  refine lv_aload_n hx hb dL_law_1425 rfl (lv_at hl 3 rfl) ?_
  refine lv_aload_n hx hb dL_law_1426 rfl (lv_at hl 5 rfl) ?_
  refine lv_iload hx hb dL_law_1427 (lv_at hl 1 rfl) ?_
  refine lv_iconst (v := 1) hx hb dL_law_1429 (by decide) ?_
  refine lv_iadd hx hb dL_law_1430 ?_
  refine lv_topi (fun z_5 ez_5 => ?_)
  obtain rfl : z_5 = 1 := ez_5.trans (by decide)
  refine va_sld hx hb hX hbl hbA hS (by unfold vp_in; decide) dL_law_1431 ?_
  refine lv_aload_n hx hb dL_law_1432 rfl (lv_at hl 5 rfl) ?_
  refine lv_iload hx hb dL_law_1433 (lv_at hl 1 rfl) ?_
  refine lv_iconst (v := 2) hx hb dL_law_1435 (by decide) ?_
  refine lv_iadd hx hb dL_law_1436 ?_
  refine lv_topi (fun z_6 ez_6 => ?_)
  obtain rfl : z_6 = 2 := ez_6.trans (by decide)
  refine va_sld hx hb hX hbl hbA hS (by unfold vp_in; decide) dL_law_1437 ?_
  refine lv_aload_n hx hb dL_law_1438 rfl (lv_at hl 5 rfl) ?_
  refine lv_iload hx hb dL_law_1439 (lv_at hl 1 rfl) ?_
  refine lv_iconst (v := 3) hx hb dL_law_1441 (by decide) ?_
  refine lv_iadd hx hb dL_law_1442 ?_
  refine lv_topi (fun z_7 ez_7 => ?_)
  obtain rfl : z_7 = 3 := ez_7.trans (by decide)
  refine va_sld hx hb hX hbl hbA hS (by unfold vp_in; decide) dL_law_1443 ?_
  have hF := va_free (wc := [(m0, .inr (12, fs))]) hD hS hA [0] rfl
  refine va_calli (va_runV (As := [.int (xs (Int32.toNatClampNeg 1)), .int (xs (Int32.toNatClampNeg 2)), .int (xs (Int32.toNatClampNeg 3))]) (rest := []) ⟨hx, hb, hml, hown, hts⟩ (c_X12_swap l D cT m0 (xs (Int32.toNatClampNeg 1)) (xs (Int32.toNatClampNeg 2)) (xs (Int32.toNatClampNeg 3)) fs 0 _ (hfs) (hfs_0) (hfs_1) (hfs_38)) (cwV 3 hts zgL_law_X12_swap_207 rfl rfl rfl (by decide +kernel) ⟨Nat.le_of_ble_eq_true rfl, Nat.le_of_ble_eq_true rfl⟩) (pv_w hP hD hK hG [0] rfl rfl rfl 0 rfl rfl) rfl rfl hl.1 rfl (lv_room (Nat.le_of_ble_eq_true rfl)) dL_law_1444 ⟨Nat.le_of_ble_eq_true rfl, Nat.le_of_ble_eq_true rfl⟩) hS (fun q _ h => hF q h) hF (fun r_8 uu9 tt9 H locs ht hvm wr_8 hB hz1 hk1 hS => ?_)
  obtain ⟨gs_9, hgs_9, hgs_9_0, hP1, hD1⟩ := hB
  rw [ht] at hP1
  obtain ⟨hP, hD⟩ := va_join (wr := []) (w1 := [(m0, .inr (12, gs_9))]) hP hD [0] [] rfl rfl (by decide) (by decide) hk1 hF hP1 hD1
  have hP : va_P D vwCl [(m0, .inr (12, gs_9))] _ := hP
  have hD : va_D A [(m0, .inr (12, gs_9))] := hD
  refine lv_istore (lv' := [(6, .int r_8), (5, .int 1), (4, .int 0), (3, .ref o9), (2, .ref m0), (1, .ref h0), (0, .ref b)]) hx hb dL_law_1447 hl (by decide) rfl (fun ls hl => ?_)
  refine lv_aload_n hx hb dL_law_1449 rfl (lv_at hl 4 rfl) ?_
  have hF := va_free (wc := [(m0, .inr (12, gs_9))]) hD hS hA [0] rfl
  refine va_calli (va_runV (As := []) (rest := []) ⟨hx, hb, hml, hown, hts⟩ (c_X12_thrown l D cT m0 gs_9 1 _ (hgs_9) (hgs_9_0)) (cwV 0 hts zgL_law_X12_thrown_149 rfl rfl rfl (by decide +kernel) ⟨Nat.le_of_ble_eq_true rfl, Nat.le_of_ble_eq_true rfl⟩) (pv_w hP hD hK hG [0] rfl rfl rfl 0 rfl rfl) rfl rfl hl.1 rfl (lv_room (Nat.le_of_ble_eq_true rfl)) dL_law_1450 ⟨Nat.le_of_ble_eq_true rfl, Nat.le_of_ble_eq_true rfl⟩) hS (fun q _ h => hF q h) hF (fun r_12 uu9 tt9 H locs ht hvm wr_12 hB hz1 hk1 hS => ?_)
  obtain ⟨hP1, hD1⟩ := hB
  rw [ht] at hP1
  obtain ⟨hP, hD⟩ := va_join (wr := []) (w1 := [(m0, .inr (12, gs_9))]) hP hD [0] [] rfl rfl (by decide) (by decide) hk1 hF hP1 hD1
  have hP : va_P D vwCl [(m0, .inr (12, gs_9))] _ := hP
  have hD : va_D A [(m0, .inr (12, gs_9))] := hD
  obtain rfl : r_12 = 1 := wr_12.trans (rfl)
  refine lv_iload hx hb dL_law_1453 (lv_at hl 1 rfl) ?_
  refine lv_icmp_eq (tgt := 1460) hx hb dL_law_1455 (by decide) (fun _ => ?_) (fun c9 => absurd c9 (by decide))
  refine lv_iload hx hb dL_law_1460 (lv_at hl 1 rfl) ?_
  refine lv_if_ne (tgt := 1477) hx hb dL_law_1462 (by decide) (fun _ => ?_) (fun c9 => absurd c9 (by decide))
  refine lv_goto (tgt := 3043) hx hb dL_law_1477 (by decide) ?_
  exact law_end C0 hA hAl hS (lv_sub hl [2, 6] rfl) (Nat.le_of_ble_eq_true rfl) (Nat.le_of_ble_eq_true rfl)
theorem dL_law_1480 : decode cL_law 1480 = .ok (.aload_n 1, 1) := by decide +kernel
theorem dL_law_1481 : decode cL_law 1481 = .ok (.aload_n 0, 1) := by decide +kernel
theorem dL_law_1482 : decode cL_law 1482 = .ok (.iload 4, 2) := by decide +kernel
theorem dL_law_1484 : decode cL_law 1484 = .ok (.iconst 1, 1) := by decide +kernel
theorem dL_law_1485 : decode cL_law 1485 = .ok (.iadd, 1) := by decide +kernel
theorem dL_law_1486 : decode cL_law 1486 = .ok (.iaload, 1) := by decide +kernel
theorem dL_law_1487 : decode cL_law 1487 = .ok (.aload_n 0, 1) := by decide +kernel
theorem dL_law_1488 : decode cL_law 1488 = .ok (.iload 4, 2) := by decide +kernel
theorem dL_law_1490 : decode cL_law 1490 = .ok (.iconst 2, 1) := by decide +kernel
theorem dL_law_1491 : decode cL_law 1491 = .ok (.iadd, 1) := by decide +kernel
theorem dL_law_1492 : decode cL_law 1492 = .ok (.iaload, 1) := by decide +kernel
theorem dL_law_1493 : decode cL_law 1493 = .ok (.aload_n 0, 1) := by decide +kernel
theorem dL_law_1494 : decode cL_law 1494 = .ok (.iload 4, 2) := by decide +kernel
theorem dL_law_1496 : decode cL_law 1496 = .ok (.iconst 3, 1) := by decide +kernel
theorem dL_law_1497 : decode cL_law 1497 = .ok (.iadd, 1) := by decide +kernel
theorem dL_law_1498 : decode cL_law 1498 = .ok (.iaload, 1) := by decide +kernel
theorem dL_law_1499 : decode cL_law 1499 = .ok (.aload_n 3, 1) := by decide +kernel
theorem dL_law_1500 : decode cL_law 1500 = .ok (.invokestatic 208, 3) := by decide +kernel
theorem dL_law_1503 : decode cL_law 1503 = .ok (.istore 5, 2) := by decide +kernel
theorem dL_law_1505 : decode cL_law 1505 = .ok (.aload_n 2, 1) := by decide +kernel
theorem dL_law_1506 : decode cL_law 1506 = .ok (.aload_n 0, 1) := by decide +kernel
theorem dL_law_1507 : decode cL_law 1507 = .ok (.iload 4, 2) := by decide +kernel
theorem dL_law_1509 : decode cL_law 1509 = .ok (.iconst 1, 1) := by decide +kernel
theorem dL_law_1510 : decode cL_law 1510 = .ok (.iadd, 1) := by decide +kernel
theorem dL_law_1511 : decode cL_law 1511 = .ok (.iaload, 1) := by decide +kernel
theorem dL_law_1512 : decode cL_law 1512 = .ok (.aload_n 0, 1) := by decide +kernel
theorem dL_law_1513 : decode cL_law 1513 = .ok (.iload 4, 2) := by decide +kernel
theorem dL_law_1515 : decode cL_law 1515 = .ok (.iconst 2, 1) := by decide +kernel
theorem dL_law_1516 : decode cL_law 1516 = .ok (.iadd, 1) := by decide +kernel
theorem dL_law_1517 : decode cL_law 1517 = .ok (.iaload, 1) := by decide +kernel
theorem dL_law_1518 : decode cL_law 1518 = .ok (.aload_n 0, 1) := by decide +kernel
theorem dL_law_1519 : decode cL_law 1519 = .ok (.iload 4, 2) := by decide +kernel
theorem dL_law_1521 : decode cL_law 1521 = .ok (.iconst 3, 1) := by decide +kernel
theorem dL_law_1522 : decode cL_law 1522 = .ok (.iadd, 1) := by decide +kernel
theorem dL_law_1523 : decode cL_law 1523 = .ok (.iaload, 1) := by decide +kernel
theorem dL_law_1524 : decode cL_law 1524 = .ok (.invokevirtual 210, 3) := by decide +kernel
theorem dL_law_1527 : decode cL_law 1527 = .ok (.istore 6, 2) := by decide +kernel
theorem dL_law_1529 : decode cL_law 1529 = .ok (.aload_n 2, 1) := by decide +kernel
theorem dL_law_1530 : decode cL_law 1530 = .ok (.invokevirtual 149, 3) := by decide +kernel
theorem dL_law_1533 : decode cL_law 1533 = .ok (.iload 5, 2) := by decide +kernel
theorem dL_law_1535 : decode cL_law 1535 = .ok (.if_icmp .eq 5, 3) := by decide +kernel
theorem dL_law_1540 : decode cL_law 1540 = .ok (.iload 5, 2) := by decide +kernel
theorem dL_law_1542 : decode cL_law 1542 = .ok (.ifCond .ne 15, 3) := by decide +kernel
theorem dL_law_1545 : decode cL_law 1545 = .ok (.aload_n 3, 1) := by decide +kernel
theorem dL_law_1546 : decode cL_law 1546 = .ok (.iconst 0, 1) := by decide +kernel
theorem dL_law_1547 : decode cL_law 1547 = .ok (.laload, 1) := by decide +kernel
theorem dL_law_1548 : decode cL_law 1548 = .ok (.iload 6, 2) := by decide +kernel
theorem dL_law_1550 : decode cL_law 1550 = .ok (.i2l, 1) := by decide +kernel
theorem dL_law_1551 : decode cL_law 1551 = .ok (.lcmp, 1) := by decide +kernel
theorem dL_law_1552 : decode cL_law 1552 = .ok (.ifCond .eq 5, 3) := by decide +kernel
theorem dL_law_1557 : decode cL_law 1557 = .ok (.goto 1486, 3) := by decide +kernel
set_option maxRecDepth 100000 in
theorem zgL_law_wsL_set_r1 : GoodIn lw_tbl wsL_set_r1 := goodIn_sub (mem_ps [849, 1567, 1568, 1569, 118, 1570, 937, 135, 554, 177, 179, 1234, 953, 758, 759, 934, 935, 936, 979, 771, 772, 1366, 669, 670] rfl) (by decide +kernel)
set_option maxRecDepth 100000 in
theorem zgL_law_wsL_set_r2 : GoodIn lw_tbl wsL_set_r2 := goodIn_sub (mem_ps [119, 671, 171] rfl) (by decide +kernel)
set_option maxRecDepth 100000 in
theorem zgL_law_L_set_208_w : GoodIn lw_tbl wsL_set := goodIn_app (goodIn_sub (ws := [.codeWith yL_set cL_set 6 (some .int) [(0, 12, 15, 15)]]) (fun _ h9 => List.mem_singleton.mp h9 ▸ List.mem_of_getElem? (i := 1566) rfl) (by decide +kernel)) (goodIn_app (goodIn_app (goodIn_app (goodIn_app (goodIn_app zgL_law_wsL_set_r1 zgL_law_wsL_set_r2) zgC_X11) zgC_X8) zgC_X7) zgF_196)
set_option maxRecDepth 100000 in
theorem zgL_law_L_set_208 : GoodIn lw_tbl (va_wsS RL 208 yL_set wsL_set) := goodIn_app (goodIn_sub (mem_ps [1564, 1565, 117] (by decide +kernel)) (by decide +kernel)) zgL_law_L_set_208_w
set_option maxRecDepth 100000 in
theorem zgL_law_X12_set_210_w : GoodIn lw_tbl wsX12_set := goodIn_app (goodIn_sub (ws := [.code yX12_set cX12_set 8 (some .int)]) (fun _ h9 => List.mem_singleton.mp h9 ▸ List.mem_of_getElem? (i := 2462) rfl) (by decide +kernel)) (goodIn_app (goodIn_sub (ws := [.fieldLink RX12 1 "PuppetFilmModel" "thrown" "I", .fieldLink RX12 398 "PuppetFilmModel" "shots" "I", .fieldLink RX12 156 "PuppetFilmModel" "rate" "[I", .fieldLink RX12 159 "PuppetFilmModel" "dress" "[I", .fieldLink RX12 113 "PuppetFilmModel" "setOf" "[I", .methodLink RX12 267 yX12_within, .static yX12_within, .initialized RX12, .code yX12_within cX12_within 3 (some .boolean), .methodLink RX12 271 yX12_may, .instanceMethod yX12_may, .selects RX12 yX12_may yX12_may, .code yX12_may cX12_may 3 (some .boolean)]) (mem_ps [1882, 1920, 1946, 1947, 1929, 2222, 2223, 129, 2224, 2225, 2227, 63, 2228] (by decide +kernel)) (by decide +kernel)) zgC_X12)
set_option maxRecDepth 100000 in
theorem zgL_law_X12_set_210 : GoodIn lw_tbl (wsV RL 210 RX12 yX12_set wsX12_set) := goodIn_app (goodIn_sub (mem_ps [2459, 2460, 2461, 129] (by decide +kernel)) (by decide +kernel)) zgL_law_X12_set_210_w
set_option maxHeartbeats 8000000 in
set_option maxRecDepth 100000 in
/-- the law: set -/
theorem law_case_18 {p : Program} {l : Launch} {e : Env} {s : State} {m : MethodId} {below : List Frame} {meth : Method} {c : Code} {D : va_G} {cT : Nat → ClassId} {b : Nat} {xs : Nat → Int32} {A : Nat → Prop} (hst : l.stackTraces = false) (C0 : lw_At p s m meth c b 7 xs) (hA : ∀ q : Nat, s.heap.size ≤ q → A q) (hAl : ∀ q, A q → s.heap.size ≤ q) (hK : va_K D vwCl (TY cT) s) (hG : GW s) (hZ : GZ A s s.heap) {h0 : Nat} {m0 : Nat} {o9 : Nat} {x_studio : Nat} {x_script : Nat} {x_teller : Nat} {x_planner : Nat} {x_plan : Nat} {x_drifts : Nat} {x_floor : Nat} {x_trial : Nat} {x_tape : Nat} {s_puppets : Nat} {s_shots : Nat} {s_sounds : Nat} {s_rates : Nat} {s_dresses : Nat} {fra : Nat → Int32} {fdr : Nat → Int32} {fs : List Value} {m_rate : Nat} {m_dress : Nat} {mra : Nat → Int32} {mdr : Nat → Int32} {fo : Nat → Int64} (q0 : ∀ k, k < 3 → fra k = 10) (q1 : ∀ k, k < 8 → fdr k = 1) (q2 : ∀ k, k < 3 → mra k = 10) (q3 : ∀ k, k < 8 → mdr k = 1) (hfs : fs.length = 109) (hfs_0 : fs[0]? = some (.int 0)) (hfs_38 : fs[38]? = some (.int 0)) (hfs_64 : fs[64]? = some (.ref m_rate)) (hfs_65 : fs[65]? = some (.ref m_dress)) {H : Heap} {locs : List Loc} (hP : va_P D vwCl [(h0, .inr (11, [.ref x_studio, .ref x_script, .ref x_teller, .ref x_planner, .ref x_plan, .ref x_drifts, .ref x_floor, .ref x_trial, .ref x_tape, .int 0, .int (-1)])), (x_studio, .inr (8, [.ref s_puppets, .int 0, .ref s_shots, .int 0, .ref s_sounds, .ref s_rates, .ref s_dresses])), (s_shots, .inl (cT 5, 12, .inr (.inr (.inr (.inr (fun _ => none)))))), (s_rates, .inl (cT 0, 3, .inl fra)), (s_dresses, .inl (cT 0, 8, .inl fdr)), (m0, .inr (12, fs)), (m_rate, .inl (cT 0, 3, .inl mra)), (m_dress, .inl (cT 0, 8, .inl mdr)), (o9, .inl (cT 2, 1, .inr (.inl fo)))] H) (hD : va_D A [(h0, .inr (11, [.ref x_studio, .ref x_script, .ref x_teller, .ref x_planner, .ref x_plan, .ref x_drifts, .ref x_floor, .ref x_trial, .ref x_tape, .int 0, .int (-1)])), (x_studio, .inr (8, [.ref s_puppets, .int 0, .ref s_shots, .int 0, .ref s_sounds, .ref s_rates, .ref s_dresses])), (s_shots, .inl (cT 5, 12, .inr (.inr (.inr (.inr (fun _ => none)))))), (s_rates, .inl (cT 0, 3, .inl fra)), (s_dresses, .inl (cT 0, 8, .inl fdr)), (m0, .inr (12, fs)), (m_rate, .inl (cT 0, 3, .inl mra)), (m_dress, .inl (cT 0, 8, .inl mdr)), (o9, .inl (cT 2, 1, .inr (.inl fo)))]) (hS : va_S A s.heap H locs) {ls : Array Slot} (hl : lv_has ls 7 [(4, .int 0), (3, .ref o9), (2, .ref m0), (1, .ref h0), (0, .ref b)]) : W p l e room_1 s m #[Value.ref b] below meth c H locs 215 539454 (lw_Z below #[Value.ref b] s) (F0 m 1480 ls []) := by
  obtain ⟨hx, hb, hr, hml, hown, hts0, hX, hbl, hlocks, hgv⟩ := id C0
  have hts := hts0
  have hbA : ¬ A b := fun h => absurd (hAl b h) (Nat.not_le.mpr hbl)
  have hown : s.vm.findClass RL = some m.cls := hown
  have hb : c.code = cL_law := hb
  refine lv_aload_n hx hb dL_law_1480 rfl (lv_at hl 3 rfl) ?_
  refine lv_aload_n hx hb dL_law_1481 rfl (lv_at hl 4 rfl) ?_
  refine lv_iload hx hb dL_law_1482 (lv_at hl 0 rfl) ?_
  refine lv_iconst (v := 1) hx hb dL_law_1484 (by decide) ?_
  refine lv_iadd hx hb dL_law_1485 ?_
  refine lv_topi (fun z_1 ez_1 => ?_)
  obtain rfl : z_1 = 1 := ez_1.trans (by decide)
  refine va_sld hx hb hX hbl hbA hS (by unfold vp_in; decide) dL_law_1486 ?_
  refine lv_aload_n hx hb dL_law_1487 rfl (lv_at hl 4 rfl) ?_
  refine lv_iload hx hb dL_law_1488 (lv_at hl 0 rfl) ?_
  refine lv_iconst (v := 2) hx hb dL_law_1490 (by decide) ?_
  refine lv_iadd hx hb dL_law_1491 ?_
  refine lv_topi (fun z_2 ez_2 => ?_)
  obtain rfl : z_2 = 2 := ez_2.trans (by decide)
  refine va_sld hx hb hX hbl hbA hS (by unfold vp_in; decide) dL_law_1492 ?_
  refine lv_aload_n hx hb dL_law_1493 rfl (lv_at hl 4 rfl) ?_
  refine lv_iload hx hb dL_law_1494 (lv_at hl 0 rfl) ?_
  refine lv_iconst (v := 3) hx hb dL_law_1496 (by decide) ?_
  refine lv_iadd hx hb dL_law_1497 ?_
  refine lv_topi (fun z_3 ez_3 => ?_)
  obtain rfl : z_3 = 3 := ez_3.trans (by decide)
  refine va_sld hx hb hX hbl hbA hS (by unfold vp_in; decide) dL_law_1498 ?_
  refine lv_aload_n hx hb dL_law_1499 rfl (lv_at hl 1 rfl) ?_
  have hF := va_free (wc := [(h0, .inr (11, [.ref x_studio, .ref x_script, .ref x_teller, .ref x_planner, .ref x_plan, .ref x_drifts, .ref x_floor, .ref x_trial, .ref x_tape, .int 0, .int (-1)])), (x_studio, .inr (8, [.ref s_puppets, .int 0, .ref s_shots, .int 0, .ref s_sounds, .ref s_rates, .ref s_dresses])), (s_shots, .inl (cT 5, 12, .inr (.inr (.inr (.inr (fun _ => none)))))), (s_rates, .inl (cT 0, 3, .inl fra)), (s_dresses, .inl (cT 0, 8, .inl fdr)), (o9, .inl (cT 2, 1, .inr (.inl fo)))]) hD hS hA [0, 1, 2, 3, 4, 8] rfl
  refine va_calli (vx_runSW (As := [.ref h0, .int (xs (Int32.toNatClampNeg 1)), .int (xs (Int32.toNatClampNeg 2)), .int (xs (Int32.toNatClampNeg 3)), .ref o9]) (rest := []) ⟨hx, hb, hml, hown, hts⟩ (c_L_set l hst D cT h0 (xs (Int32.toNatClampNeg 1)) (xs (Int32.toNatClampNeg 2)) (xs (Int32.toNatClampNeg 3)) o9 x_studio x_script x_teller x_planner x_plan x_drifts x_floor x_trial x_tape s_puppets s_shots s_sounds s_rates s_dresses fra fdr fo _ (by assumption) (by assumption)) (vx_cwSW 5 hts zgL_law_L_set_208 rfl rfl rfl (by decide +kernel) ⟨Nat.le_of_ble_eq_true rfl, Nat.le_of_ble_eq_true rfl⟩) (ps_z hP hD hK hG hZ hS hF [0, 1, 2, 3, 4, 8] rfl rfl rfl) rfl rfl hl.1 rfl (lv_room (Nat.le_of_ble_eq_true rfl)) dL_law_1500 ⟨Nat.le_of_ble_eq_true rfl, Nat.le_of_ble_eq_true rfl⟩) hS (fun q _ h => hF q h) hF (fun r_4 uu9 tt9 H locs ht hvm wr_4 hB hz1 hk1 hS => ?_)
  obtain ⟨go_5, k_6, hP1, hD1⟩ := hB
  rw [ht] at hP1
  obtain ⟨hP, hD⟩ := va_join (wr := [(m0, .inr (12, fs)), (m_rate, .inl (cT 0, 3, .inl mra)), (m_dress, .inl (cT 0, 8, .inl mdr))]) (w1 := [(o9, .inl (cT 2, 1, .inr (.inl go_5)))]) hP hD [0, 1, 2, 3, 4, 8] [5, 6, 7] rfl rfl (by decide) (by decide) hk1 hF hP1 hD1
  have hP : va_P D vwCl [(m0, .inr (12, fs)), (m_rate, .inl (cT 0, 3, .inl mra)), (m_dress, .inl (cT 0, 8, .inl mdr)), (o9, .inl (cT 2, 1, .inr (.inl go_5)))] _ := hP
  have hD : va_D A [(m0, .inr (12, fs)), (m_rate, .inl (cT 0, 3, .inl mra)), (m_dress, .inl (cT 0, 8, .inl mdr)), (o9, .inl (cT 2, 1, .inr (.inl go_5)))] := hD
  refine W.widen (k := 216) (n := 539460) (Nat.le_of_ble_eq_true rfl) (Nat.le_of_ble_eq_true rfl) ?_
  refine lv_istore (lv' := [(5, .int r_4), (4, .int 0), (3, .ref o9), (2, .ref m0), (1, .ref h0), (0, .ref b)]) hx hb dL_law_1503 hl (by decide) rfl (fun ls hl => ?_)
  refine lv_aload_n hx hb dL_law_1505 rfl (lv_at hl 3 rfl) ?_
  refine lv_aload_n hx hb dL_law_1506 rfl (lv_at hl 5 rfl) ?_
  refine lv_iload hx hb dL_law_1507 (lv_at hl 1 rfl) ?_
  refine lv_iconst (v := 1) hx hb dL_law_1509 (by decide) ?_
  refine lv_iadd hx hb dL_law_1510 ?_
  refine lv_topi (fun z_7 ez_7 => ?_)
  obtain rfl : z_7 = 1 := ez_7.trans (by decide)
  refine va_sld hx hb hX hbl hbA hS (by unfold vp_in; decide) dL_law_1511 ?_
  refine lv_aload_n hx hb dL_law_1512 rfl (lv_at hl 5 rfl) ?_
  refine lv_iload hx hb dL_law_1513 (lv_at hl 1 rfl) ?_
  refine lv_iconst (v := 2) hx hb dL_law_1515 (by decide) ?_
  refine lv_iadd hx hb dL_law_1516 ?_
  refine lv_topi (fun z_8 ez_8 => ?_)
  obtain rfl : z_8 = 2 := ez_8.trans (by decide)
  refine va_sld hx hb hX hbl hbA hS (by unfold vp_in; decide) dL_law_1517 ?_
  refine lv_aload_n hx hb dL_law_1518 rfl (lv_at hl 5 rfl) ?_
  refine lv_iload hx hb dL_law_1519 (lv_at hl 1 rfl) ?_
  refine lv_iconst (v := 3) hx hb dL_law_1521 (by decide) ?_
  refine lv_iadd hx hb dL_law_1522 ?_
  refine lv_topi (fun z_9 ez_9 => ?_)
  obtain rfl : z_9 = 3 := ez_9.trans (by decide)
  refine va_sld hx hb hX hbl hbA hS (by unfold vp_in; decide) dL_law_1523 ?_
  have hF := va_free (wc := [(m0, .inr (12, fs)), (m_rate, .inl (cT 0, 3, .inl mra)), (m_dress, .inl (cT 0, 8, .inl mdr))]) hD hS hA [0, 1, 2] rfl
  refine va_calli (va_runV (As := [.int (xs (Int32.toNatClampNeg 1)), .int (xs (Int32.toNatClampNeg 2)), .int (xs (Int32.toNatClampNeg 3))]) (rest := []) ⟨hx, hb, hml, hown, hts⟩ (c_X12_set l D cT m0 (xs (Int32.toNatClampNeg 1)) (xs (Int32.toNatClampNeg 2)) (xs (Int32.toNatClampNeg 3)) fs 0 m_rate m_dress mra mdr _ (by assumption) (by assumption) (hfs) (hfs_0) (hfs_38) (hfs_64) (hfs_65)) (cwV 3 hts zgL_law_X12_set_210 rfl rfl rfl (by decide +kernel) ⟨Nat.le_of_ble_eq_true rfl, Nat.le_of_ble_eq_true rfl⟩) (pv_w hP hD hK hG [0, 1, 2] rfl rfl rfl 0 rfl rfl) rfl rfl hl.1 rfl (lv_room (Nat.le_of_ble_eq_true rfl)) dL_law_1524 ⟨Nat.le_of_ble_eq_true rfl, Nat.le_of_ble_eq_true rfl⟩) hS (fun q _ h => hF q h) hF (fun r_10 uu9 tt9 H locs ht hvm wr_10 hB hz1 hk1 hS => ?_)
  obtain ⟨gs_11, tt_12, hgs_11, hgs_11_0, k_15, hP1, hD1⟩ := hB
  rw [ht] at hP1
  obtain ⟨hP, hD⟩ := va_join (wr := [(o9, .inl (cT 2, 1, .inr (.inl go_5)))]) (w1 := [(m0, .inr (12, gs_11))]) hP hD [0, 1, 2] [3] rfl rfl (by decide) (by decide) hk1 hF hP1 hD1
  have hP : va_P D vwCl [(o9, .inl (cT 2, 1, .inr (.inl go_5))), (m0, .inr (12, gs_11))] _ := hP
  have hD : va_D A [(o9, .inl (cT 2, 1, .inr (.inl go_5))), (m0, .inr (12, gs_11))] := hD
  refine lv_istore (lv' := [(6, .int r_10), (5, .int r_4), (4, .int 0), (3, .ref o9), (2, .ref m0), (1, .ref h0), (0, .ref b)]) hx hb dL_law_1527 hl (by decide) rfl (fun ls hl => ?_)
  refine lv_aload_n hx hb dL_law_1529 rfl (lv_at hl 4 rfl) ?_
  have hF := va_free (wc := [(m0, .inr (12, gs_11))]) hD hS hA [1] rfl
  refine va_calli (va_runV (As := []) (rest := []) ⟨hx, hb, hml, hown, hts⟩ (c_X12_thrown l D cT m0 gs_11 tt_12 _ (hgs_11) (hgs_11_0)) (cwV 0 hts zgL_law_X12_thrown_149 rfl rfl rfl (by decide +kernel) ⟨Nat.le_of_ble_eq_true rfl, Nat.le_of_ble_eq_true rfl⟩) (pv_w hP hD hK hG [1] rfl rfl rfl 1 rfl rfl) rfl rfl hl.1 rfl (lv_room (Nat.le_of_ble_eq_true rfl)) dL_law_1530 ⟨Nat.le_of_ble_eq_true rfl, Nat.le_of_ble_eq_true rfl⟩) hS (fun q _ h => hF q h) hF (fun r_16 uu9 tt9 H locs ht hvm wr_16 hB hz1 hk1 hS => ?_)
  obtain ⟨hP1, hD1⟩ := hB
  rw [ht] at hP1
  obtain ⟨hP, hD⟩ := va_join (wr := [(o9, .inl (cT 2, 1, .inr (.inl go_5)))]) (w1 := [(m0, .inr (12, gs_11))]) hP hD [1] [0] rfl rfl (by decide) (by decide) hk1 hF hP1 hD1
  have hP : va_P D vwCl [(o9, .inl (cT 2, 1, .inr (.inl go_5))), (m0, .inr (12, gs_11))] _ := hP
  have hD : va_D A [(o9, .inl (cT 2, 1, .inr (.inl go_5))), (m0, .inr (12, gs_11))] := hD
  refine lv_iload hx hb dL_law_1533 (lv_at hl 1 rfl) ?_
  refine lv_icmp_eq (tgt := 1540) hx hb dL_law_1535 (by decide) (fun c_17 => ?_) (fun c_17 => ((c_17 (Eq.trans (wr_16.trans k_15) (Eq.symm wr_4)) : False)).elim)
  refine lv_iload hx hb dL_law_1540 (lv_at hl 1 rfl) ?_
  refine lv_if_ne (tgt := 1557) hx hb dL_law_1542 (by decide) (fun c_18 => ?_) (fun c_18 => ?_)
  · refine lv_goto (tgt := 3043) hx hb dL_law_1557 (by decide) ?_
    exact law_end C0 hA hAl hS (lv_sub hl [2, 6] rfl) (Nat.le_of_ble_eq_true rfl) (Nat.le_of_ble_eq_true rfl)
  · refine lv_aload_n hx hb dL_law_1545 rfl (lv_at hl 3 rfl) ?_
    refine lv_iconst (v := 0) hx hb dL_law_1546 (by decide) ?_
    refine va_lald hx hb hK hP 0 2 rfl rfl (by unfold vp_in; decide) dL_law_1547 ?_
    refine lv_topl (fun j_19 ej_19 => ?_)
    refine lv_iload hx hb dL_law_1548 (lv_at hl 0 rfl) ?_
    obtain ⟨j_20, ej_20⟩ : ∃ y : Int64, y = (r_10).toInt64 := ⟨_, rfl⟩
    refine lv_i2l (v := j_20) hx hb dL_law_1550 ej_20.symm ?_
    refine W.lcmp hx hb dL_law_1551 ?_
    refine lv_topi (fun x_21 ex_21 => ?_)
    refine lv_if_eq (tgt := 1557) hx hb dL_law_1552 (by decide) (fun c_22 => ?_) (fun c_22 => ((c_22 (ex_21.trans ((congr (congrArg lg_cmp (ej_19.trans (k_6 (Eq.trans (Eq.symm wr_4) c_18)))) (ej_20.trans (congrArg Int32.toInt64 (wr_10 (Eq.trans (Eq.symm wr_4) c_18))))).trans (lcmp_self _))) : False)).elim)
    refine lv_goto (tgt := 3043) hx hb dL_law_1557 (by decide) ?_
    exact law_end C0 hA hAl hS (lv_sub hl [2, 6] rfl) (Nat.le_of_ble_eq_true rfl) (Nat.le_of_ble_eq_true rfl)
theorem dL_law_1560 : decode cL_law 1560 = .ok (.aload_n 1, 1) := by decide +kernel
theorem dL_law_1561 : decode cL_law 1561 = .ok (.aload_n 0, 1) := by decide +kernel
theorem dL_law_1562 : decode cL_law 1562 = .ok (.iload 4, 2) := by decide +kernel
theorem dL_law_1564 : decode cL_law 1564 = .ok (.iconst 1, 1) := by decide +kernel
theorem dL_law_1565 : decode cL_law 1565 = .ok (.iadd, 1) := by decide +kernel
theorem dL_law_1566 : decode cL_law 1566 = .ok (.iaload, 1) := by decide +kernel
theorem dL_law_1567 : decode cL_law 1567 = .ok (.aload_n 0, 1) := by decide +kernel
theorem dL_law_1568 : decode cL_law 1568 = .ok (.iload 4, 2) := by decide +kernel
theorem dL_law_1570 : decode cL_law 1570 = .ok (.iconst 2, 1) := by decide +kernel
theorem dL_law_1571 : decode cL_law 1571 = .ok (.iadd, 1) := by decide +kernel
theorem dL_law_1572 : decode cL_law 1572 = .ok (.iaload, 1) := by decide +kernel
theorem dL_law_1573 : decode cL_law 1573 = .ok (.aload_n 3, 1) := by decide +kernel
theorem dL_law_1574 : decode cL_law 1574 = .ok (.invokestatic 211, 3) := by decide +kernel
theorem dL_law_1577 : decode cL_law 1577 = .ok (.istore 5, 2) := by decide +kernel
theorem dL_law_1579 : decode cL_law 1579 = .ok (.aload_n 2, 1) := by decide +kernel
theorem dL_law_1580 : decode cL_law 1580 = .ok (.aload_n 0, 1) := by decide +kernel
theorem dL_law_1581 : decode cL_law 1581 = .ok (.iload 4, 2) := by decide +kernel
theorem dL_law_1583 : decode cL_law 1583 = .ok (.iconst 1, 1) := by decide +kernel
theorem dL_law_1584 : decode cL_law 1584 = .ok (.iadd, 1) := by decide +kernel
theorem dL_law_1585 : decode cL_law 1585 = .ok (.iaload, 1) := by decide +kernel
theorem dL_law_1586 : decode cL_law 1586 = .ok (.aload_n 0, 1) := by decide +kernel
theorem dL_law_1587 : decode cL_law 1587 = .ok (.iload 4, 2) := by decide +kernel
theorem dL_law_1589 : decode cL_law 1589 = .ok (.iconst 2, 1) := by decide +kernel
theorem dL_law_1590 : decode cL_law 1590 = .ok (.iadd, 1) := by decide +kernel
theorem dL_law_1591 : decode cL_law 1591 = .ok (.iaload, 1) := by decide +kernel
theorem dL_law_1592 : decode cL_law 1592 = .ok (.invokevirtual 213, 3) := by decide +kernel
theorem dL_law_1595 : decode cL_law 1595 = .ok (.istore 6, 2) := by decide +kernel
theorem dL_law_1597 : decode cL_law 1597 = .ok (.aload_n 2, 1) := by decide +kernel
theorem dL_law_1598 : decode cL_law 1598 = .ok (.invokevirtual 149, 3) := by decide +kernel
theorem dL_law_1601 : decode cL_law 1601 = .ok (.iload 5, 2) := by decide +kernel
theorem dL_law_1603 : decode cL_law 1603 = .ok (.if_icmp .eq 5, 3) := by decide +kernel
theorem dL_law_1608 : decode cL_law 1608 = .ok (.iload 5, 2) := by decide +kernel
theorem dL_law_1610 : decode cL_law 1610 = .ok (.ifCond .ne 15, 3) := by decide +kernel
theorem dL_law_1625 : decode cL_law 1625 = .ok (.goto 1418, 3) := by decide +kernel
set_option maxRecDepth 100000 in
theorem zgL_law_L_lasts_211_w : GoodIn lw_tbl zsL_lasts := goodIn_app (goodIn_sub (ws := [.codeWith yL_lasts cL_lasts 5 (some .int) [(0, 10, 13, 37), (0, 10, 17, 15)]]) (fun _ h9 => List.mem_singleton.mp h9 ▸ List.mem_of_getElem? (i := 1573) rfl) (by decide +kernel)) (goodIn_app (goodIn_app (goodIn_app (goodIn_sub (ws := [.methodLink RL 72 yX11_lasts, .instanceMethod yX11_lasts, .selects RX11 yX11_lasts yX11_lasts, .initialized RX11, .code yX11_lasts cX11_lasts 4 (some .int), .classLink RL 37 "java/util/NoSuchElementException", .classLink RL 15 "java/lang/IllegalArgumentException", .methodLink RX11 166 yX11_needShot, .instanceMethod yX11_needShot, .selects RX11 yX11_needShot yX11_needShot, .code yX11_needShot cX11_needShot 3 (some (.object "PuppetFilm$Shot")), .classLink RX11 408 "java/util/NoSuchElementException", .initialized "java/util/NoSuchElementException", .fieldLink RX11 10 "PuppetFilm" "studio" "LPuppetFilm$Studio;", .methodLink RX11 271 yX8_shotAt, .instanceMethod yX8_shotAt, .selects RX8 yX8_shotAt yX8_shotAt, .initialized RX8, .code yX8_shotAt cX8_shotAt 2 (some (.object "PuppetFilm$Shot")), .fieldLink RX8 19 "PuppetFilm$Studio" "shots" "[LPuppetFilm$Shot;"]) (mem_ps [1574, 1575, 1576, 118, 1577, 1357, 849, 1362, 1364, 45, 1365, 1367, 145, 554, 1366, 669, 670, 119, 671, 171] (by decide +kernel)) (by decide +kernel)) zgC_X11) zgC_X8) zgZ)
set_option maxRecDepth 100000 in
theorem zgL_law_L_lasts_211 : GoodIn lw_tbl (va_wsS RL 211 yL_lasts zsL_lasts) := goodIn_app (goodIn_sub (mem_ps [1571, 1572, 117] (by decide +kernel)) (by decide +kernel)) zgL_law_L_lasts_211_w
set_option maxRecDepth 100000 in
theorem zgL_law_X12_lasts_213_w : GoodIn lw_tbl wsX12_lasts := goodIn_app (goodIn_sub (ws := [.code yX12_lasts cX12_lasts 3 (some .int)]) (fun _ h9 => List.mem_singleton.mp h9 ▸ List.mem_of_getElem? (i := 2466) rfl) (by decide +kernel)) (goodIn_app (goodIn_sub (ws := [.fieldLink RX12 1 "PuppetFilmModel" "thrown" "I", .methodLink RX12 436 yX12_isShot, .instanceMethod yX12_isShot, .selects RX12 yX12_isShot yX12_isShot, .initialized RX12, .code yX12_isShot cX12_isShot 2 (some .boolean), .fieldLink RX12 398 "PuppetFilmModel" "shots" "I", .methodLink RX12 267 yX12_within, .static yX12_within, .code yX12_within cX12_within 3 (some .boolean), .methodLink RX12 271 yX12_may, .instanceMethod yX12_may, .selects RX12 yX12_may yX12_may, .code yX12_may cX12_may 3 (some .boolean), .methodLink RX12 477 yX12_lastsIn, .instanceMethod yX12_lastsIn, .selects RX12 yX12_lastsIn yX12_lastsIn, .code yX12_lastsIn cX12_lastsIn 5 (some .int), .fieldLink RX12 107 "PuppetFilmModel" "cast" "[I", .fieldLink RX12 104 "PuppetFilmModel" "frames" "[I", .fieldLink RX12 156 "PuppetFilmModel" "rate" "[I", .methodLink RX12 474 yX12_bits, .static yX12_bits, .code yX12_bits cX12_bits 3 (some .int)]) (mem_ps [1882, 2376, 2378, 86, 129, 2379, 1920, 2222, 2223, 2224, 2225, 2227, 63, 2228, 2467, 2469, 96, 2470, 1927, 1926, 1946, 2471, 2472, 2473] (by decide +kernel)) (by decide +kernel)) zgC_X12)
set_option maxRecDepth 100000 in
theorem zgL_law_X12_lasts_213 : GoodIn lw_tbl (wsV RL 213 RX12 yX12_lasts wsX12_lasts) := goodIn_app (goodIn_sub (mem_ps [2463, 2464, 2465, 129] (by decide +kernel)) (by decide +kernel)) zgL_law_X12_lasts_213_w
set_option maxHeartbeats 8000000 in
set_option maxRecDepth 100000 in
/-- the law: lasts -/
theorem law_case_19 {p : Program} {l : Launch} {e : Env} {s : State} {m : MethodId} {below : List Frame} {meth : Method} {c : Code} {D : va_G} {cT : Nat → ClassId} {b : Nat} {xs : Nat → Int32} {A : Nat → Prop} (hst : l.stackTraces = false) (C0 : lw_At p s m meth c b 7 xs) (hA : ∀ q : Nat, s.heap.size ≤ q → A q) (hAl : ∀ q, A q → s.heap.size ≤ q) (hK : va_K D vwCl (TY cT) s) (hG : GW s) (hZ : GZ A s s.heap) {h0 : Nat} {m0 : Nat} {o9 : Nat} {x_studio : Nat} {x_script : Nat} {x_teller : Nat} {x_planner : Nat} {x_plan : Nat} {x_drifts : Nat} {x_floor : Nat} {x_trial : Nat} {x_tape : Nat} {s_puppets : Nat} {s_shots : Nat} {s_sounds : Nat} {s_rates : Nat} {s_dresses : Nat} {fs : List Value} (hfs : fs.length = 109) (hfs_0 : fs[0]? = some (.int 0)) (hfs_1 : fs[1]? = some (.int 0)) (hfs_38 : fs[38]? = some (.int 0)) {H : Heap} {locs : List Loc} (hP : va_P D vwCl [(h0, .inr (11, [.ref x_studio, .ref x_script, .ref x_teller, .ref x_planner, .ref x_plan, .ref x_drifts, .ref x_floor, .ref x_trial, .ref x_tape, .int 0, .int (-1)])), (x_studio, .inr (8, [.ref s_puppets, .int 0, .ref s_shots, .int 0, .ref s_sounds, .ref s_rates, .ref s_dresses])), (s_shots, .inl (cT 5, 12, .inr (.inr (.inr (.inr (fun _ => none)))))), (m0, .inr (12, fs))] H) (hD : va_D A [(h0, .inr (11, [.ref x_studio, .ref x_script, .ref x_teller, .ref x_planner, .ref x_plan, .ref x_drifts, .ref x_floor, .ref x_trial, .ref x_tape, .int 0, .int (-1)])), (x_studio, .inr (8, [.ref s_puppets, .int 0, .ref s_shots, .int 0, .ref s_sounds, .ref s_rates, .ref s_dresses])), (s_shots, .inl (cT 5, 12, .inr (.inr (.inr (.inr (fun _ => none)))))), (m0, .inr (12, fs))]) (hS : va_S A s.heap H locs) {ls : Array Slot} (hl : lv_has ls 7 [(4, .int 0), (3, .ref o9), (2, .ref m0), (1, .ref h0), (0, .ref b)]) : W p l e room_1 s m #[Value.ref b] below meth c H locs 215 539454 (lw_Z below #[Value.ref b] s) (F0 m 1560 ls []) := by
  obtain ⟨hx, hb, hr, hml, hown, hts0, hX, hbl, hlocks, hgv⟩ := id C0
  have hts := hts0
  have hbA : ¬ A b := fun h => absurd (hAl b h) (Nat.not_le.mpr hbl)
  have hown : s.vm.findClass RL = some m.cls := hown
  have hb : c.code = cL_law := hb
  refine lv_aload_n hx hb dL_law_1560 rfl (lv_at hl 3 rfl) ?_
  refine lv_aload_n hx hb dL_law_1561 rfl (lv_at hl 4 rfl) ?_
  refine lv_iload hx hb dL_law_1562 (lv_at hl 0 rfl) ?_
  refine lv_iconst (v := 1) hx hb dL_law_1564 (by decide) ?_
  refine lv_iadd hx hb dL_law_1565 ?_
  refine lv_topi (fun z_1 ez_1 => ?_)
  obtain rfl : z_1 = 1 := ez_1.trans (by decide)
  refine va_sld hx hb hX hbl hbA hS (by unfold vp_in; decide) dL_law_1566 ?_
  refine lv_aload_n hx hb dL_law_1567 rfl (lv_at hl 4 rfl) ?_
  refine lv_iload hx hb dL_law_1568 (lv_at hl 0 rfl) ?_
  refine lv_iconst (v := 2) hx hb dL_law_1570 (by decide) ?_
  refine lv_iadd hx hb dL_law_1571 ?_
  refine lv_topi (fun z_2 ez_2 => ?_)
  obtain rfl : z_2 = 2 := ez_2.trans (by decide)
  refine va_sld hx hb hX hbl hbA hS (by unfold vp_in; decide) dL_law_1572 ?_
  refine lv_aload_n hx hb dL_law_1573 rfl (lv_at hl 1 rfl) ?_
  have hF := va_free (wc := [(h0, .inr (11, [.ref x_studio, .ref x_script, .ref x_teller, .ref x_planner, .ref x_plan, .ref x_drifts, .ref x_floor, .ref x_trial, .ref x_tape, .int 0, .int (-1)])), (x_studio, .inr (8, [.ref s_puppets, .int 0, .ref s_shots, .int 0, .ref s_sounds, .ref s_rates, .ref s_dresses])), (s_shots, .inl (cT 5, 12, .inr (.inr (.inr (.inr (fun _ => none))))))]) hD hS hA [0, 1, 2] rfl
  refine va_calli (vx_runSW (As := [.ref h0, .int (xs (Int32.toNatClampNeg 1)), .int (xs (Int32.toNatClampNeg 2)), .ref o9]) (rest := []) ⟨hx, hb, hml, hown, hts⟩ (c_L_lasts l hst D cT h0 (xs (Int32.toNatClampNeg 1)) (xs (Int32.toNatClampNeg 2)) o9 x_studio x_script x_teller x_planner x_plan x_drifts x_floor x_trial x_tape s_puppets s_shots s_sounds s_rates s_dresses _ ) (vx_cwSW 4 hts zgL_law_L_lasts_211 rfl rfl rfl (by decide +kernel) ⟨Nat.le_of_ble_eq_true rfl, Nat.le_of_ble_eq_true rfl⟩) (ps_z hP hD hK hG hZ hS hF [0, 1, 2] rfl rfl rfl) rfl rfl hl.1 rfl (lv_room (Nat.le_of_ble_eq_true rfl)) dL_law_1574 ⟨Nat.le_of_ble_eq_true rfl, Nat.le_of_ble_eq_true rfl⟩) hS (fun q _ h => hF q h) hF (fun r_3 uu9 tt9 H locs ht hvm wr_3 hB hz1 hk1 hS => ?_)
  obtain ⟨hP, hD⟩ := va_join (wr := [(m0, .inr (12, fs))]) (w1 := []) hP hD [0, 1, 2] [3] rfl rfl (by decide) (by decide) hk1 hF vp_nil vd_nil
  have hP : va_P D vwCl [(m0, .inr (12, fs))] _ := hP
  have hD : va_D A [(m0, .inr (12, fs))] := hD
  refine W.widen (k := 216) (n := 539460) (Nat.le_of_ble_eq_true rfl) (Nat.le_of_ble_eq_true rfl) ?_
  obtain rfl : r_3 = 1 := wr_3.trans (rfl)
  refine lv_istore (lv' := [(5, .int 1), (4, .int 0), (3, .ref o9), (2, .ref m0), (1, .ref h0), (0, .ref b)]) hx hb dL_law_1577 hl (by decide) rfl (fun ls hl => ?_)
  refine lv_aload_n hx hb dL_law_1579 rfl (lv_at hl 3 rfl) ?_
  refine lv_aload_n hx hb dL_law_1580 rfl (lv_at hl 5 rfl) ?_
  refine lv_iload hx hb dL_law_1581 (lv_at hl 1 rfl) ?_
  refine lv_iconst (v := 1) hx hb dL_law_1583 (by decide) ?_
  refine lv_iadd hx hb dL_law_1584 ?_
  refine lv_topi (fun z_4 ez_4 => ?_)
  obtain rfl : z_4 = 1 := ez_4.trans (by decide)
  refine va_sld hx hb hX hbl hbA hS (by unfold vp_in; decide) dL_law_1585 ?_
  refine lv_aload_n hx hb dL_law_1586 rfl (lv_at hl 5 rfl) ?_
  refine lv_iload hx hb dL_law_1587 (lv_at hl 1 rfl) ?_
  refine lv_iconst (v := 2) hx hb dL_law_1589 (by decide) ?_
  refine lv_iadd hx hb dL_law_1590 ?_
  refine lv_topi (fun z_5 ez_5 => ?_)
  obtain rfl : z_5 = 2 := ez_5.trans (by decide)
  refine va_sld hx hb hX hbl hbA hS (by unfold vp_in; decide) dL_law_1591 ?_
  have hF := va_free (wc := [(m0, .inr (12, fs))]) hD hS hA [0] rfl
  refine va_calli (va_runV (As := [.int (xs (Int32.toNatClampNeg 1)), .int (xs (Int32.toNatClampNeg 2))]) (rest := []) ⟨hx, hb, hml, hown, hts⟩ (c_X12_lasts l D cT m0 (xs (Int32.toNatClampNeg 1)) (xs (Int32.toNatClampNeg 2)) fs 0 _ (hfs) (hfs_0) (hfs_1) (hfs_38)) (cwV 2 hts zgL_law_X12_lasts_213 rfl rfl rfl (by decide +kernel) ⟨Nat.le_of_ble_eq_true rfl, Nat.le_of_ble_eq_true rfl⟩) (pv_w hP hD hK hG [0] rfl rfl rfl 0 rfl rfl) rfl rfl hl.1 rfl (lv_room (Nat.le_of_ble_eq_true rfl)) dL_law_1592 ⟨Nat.le_of_ble_eq_true rfl, Nat.le_of_ble_eq_true rfl⟩) hS (fun q _ h => hF q h) hF (fun r_6 uu9 tt9 H locs ht hvm wr_6 hB hz1 hk1 hS => ?_)
  obtain ⟨gs_7, hgs_7, hgs_7_0, hP1, hD1⟩ := hB
  rw [ht] at hP1
  obtain ⟨hP, hD⟩ := va_join (wr := []) (w1 := [(m0, .inr (12, gs_7))]) hP hD [0] [] rfl rfl (by decide) (by decide) hk1 hF hP1 hD1
  have hP : va_P D vwCl [(m0, .inr (12, gs_7))] _ := hP
  have hD : va_D A [(m0, .inr (12, gs_7))] := hD
  refine lv_istore (lv' := [(6, .int r_6), (5, .int 1), (4, .int 0), (3, .ref o9), (2, .ref m0), (1, .ref h0), (0, .ref b)]) hx hb dL_law_1595 hl (by decide) rfl (fun ls hl => ?_)
  refine lv_aload_n hx hb dL_law_1597 rfl (lv_at hl 4 rfl) ?_
  have hF := va_free (wc := [(m0, .inr (12, gs_7))]) hD hS hA [0] rfl
  refine va_calli (va_runV (As := []) (rest := []) ⟨hx, hb, hml, hown, hts⟩ (c_X12_thrown l D cT m0 gs_7 1 _ (hgs_7) (hgs_7_0)) (cwV 0 hts zgL_law_X12_thrown_149 rfl rfl rfl (by decide +kernel) ⟨Nat.le_of_ble_eq_true rfl, Nat.le_of_ble_eq_true rfl⟩) (pv_w hP hD hK hG [0] rfl rfl rfl 0 rfl rfl) rfl rfl hl.1 rfl (lv_room (Nat.le_of_ble_eq_true rfl)) dL_law_1598 ⟨Nat.le_of_ble_eq_true rfl, Nat.le_of_ble_eq_true rfl⟩) hS (fun q _ h => hF q h) hF (fun r_10 uu9 tt9 H locs ht hvm wr_10 hB hz1 hk1 hS => ?_)
  obtain ⟨hP1, hD1⟩ := hB
  rw [ht] at hP1
  obtain ⟨hP, hD⟩ := va_join (wr := []) (w1 := [(m0, .inr (12, gs_7))]) hP hD [0] [] rfl rfl (by decide) (by decide) hk1 hF hP1 hD1
  have hP : va_P D vwCl [(m0, .inr (12, gs_7))] _ := hP
  have hD : va_D A [(m0, .inr (12, gs_7))] := hD
  obtain rfl : r_10 = 1 := wr_10.trans (rfl)
  refine lv_iload hx hb dL_law_1601 (lv_at hl 1 rfl) ?_
  refine lv_icmp_eq (tgt := 1608) hx hb dL_law_1603 (by decide) (fun _ => ?_) (fun c9 => absurd c9 (by decide))
  refine lv_iload hx hb dL_law_1608 (lv_at hl 1 rfl) ?_
  refine lv_if_ne (tgt := 1625) hx hb dL_law_1610 (by decide) (fun _ => ?_) (fun c9 => absurd c9 (by decide))
  refine lv_goto (tgt := 3043) hx hb dL_law_1625 (by decide) ?_
  exact law_end C0 hA hAl hS (lv_sub hl [2, 6] rfl) (Nat.le_of_ble_eq_true rfl) (Nat.le_of_ble_eq_true rfl)
theorem dL_law_1628 : decode cL_law 1628 = .ok (.aload_n 1, 1) := by decide +kernel
theorem dL_law_1629 : decode cL_law 1629 = .ok (.aload_n 0, 1) := by decide +kernel
theorem dL_law_1630 : decode cL_law 1630 = .ok (.iload 4, 2) := by decide +kernel
theorem dL_law_1632 : decode cL_law 1632 = .ok (.iconst 1, 1) := by decide +kernel
theorem dL_law_1633 : decode cL_law 1633 = .ok (.iadd, 1) := by decide +kernel
theorem dL_law_1634 : decode cL_law 1634 = .ok (.iaload, 1) := by decide +kernel
theorem dL_law_1635 : decode cL_law 1635 = .ok (.aload_n 0, 1) := by decide +kernel
theorem dL_law_1636 : decode cL_law 1636 = .ok (.iload 4, 2) := by decide +kernel
theorem dL_law_1638 : decode cL_law 1638 = .ok (.iconst 2, 1) := by decide +kernel
theorem dL_law_1639 : decode cL_law 1639 = .ok (.iadd, 1) := by decide +kernel
theorem dL_law_1640 : decode cL_law 1640 = .ok (.iaload, 1) := by decide +kernel
theorem dL_law_1641 : decode cL_law 1641 = .ok (.aload_n 3, 1) := by decide +kernel
theorem dL_law_1642 : decode cL_law 1642 = .ok (.invokestatic 214, 3) := by decide +kernel
theorem dL_law_1645 : decode cL_law 1645 = .ok (.istore 5, 2) := by decide +kernel
theorem dL_law_1647 : decode cL_law 1647 = .ok (.aload_n 2, 1) := by decide +kernel
theorem dL_law_1648 : decode cL_law 1648 = .ok (.aload_n 0, 1) := by decide +kernel
theorem dL_law_1649 : decode cL_law 1649 = .ok (.iload 4, 2) := by decide +kernel
theorem dL_law_1651 : decode cL_law 1651 = .ok (.iconst 1, 1) := by decide +kernel
theorem dL_law_1652 : decode cL_law 1652 = .ok (.iadd, 1) := by decide +kernel
theorem dL_law_1653 : decode cL_law 1653 = .ok (.iaload, 1) := by decide +kernel
theorem dL_law_1654 : decode cL_law 1654 = .ok (.aload_n 0, 1) := by decide +kernel
theorem dL_law_1655 : decode cL_law 1655 = .ok (.iload 4, 2) := by decide +kernel
theorem dL_law_1657 : decode cL_law 1657 = .ok (.iconst 2, 1) := by decide +kernel
theorem dL_law_1658 : decode cL_law 1658 = .ok (.iadd, 1) := by decide +kernel
theorem dL_law_1659 : decode cL_law 1659 = .ok (.iaload, 1) := by decide +kernel
theorem dL_law_1660 : decode cL_law 1660 = .ok (.invokevirtual 216, 3) := by decide +kernel
theorem dL_law_1663 : decode cL_law 1663 = .ok (.istore 6, 2) := by decide +kernel
theorem dL_law_1665 : decode cL_law 1665 = .ok (.aload_n 2, 1) := by decide +kernel
theorem dL_law_1666 : decode cL_law 1666 = .ok (.invokevirtual 149, 3) := by decide +kernel
theorem dL_law_1669 : decode cL_law 1669 = .ok (.iload 5, 2) := by decide +kernel
theorem dL_law_1671 : decode cL_law 1671 = .ok (.if_icmp .eq 5, 3) := by decide +kernel
theorem dL_law_1676 : decode cL_law 1676 = .ok (.iload 5, 2) := by decide +kernel
theorem dL_law_1678 : decode cL_law 1678 = .ok (.ifCond .ne 22, 3) := by decide +kernel
theorem dL_law_1700 : decode cL_law 1700 = .ok (.goto 1343, 3) := by decide +kernel
set_option maxRecDepth 100000 in
theorem zgL_law_L_clash_214_w : GoodIn lw_tbl zsL_clash := goodIn_app (goodIn_sub (ws := [.codeWith yL_clash cL_clash 5 (some .int) [(0, 17, 20, 37)]]) (fun _ h9 => List.mem_singleton.mp h9 ▸ List.mem_of_getElem? (i := 1581) rfl) (by decide +kernel)) (goodIn_app (goodIn_app (goodIn_app (goodIn_sub (ws := [.methodLink RL 75 yX11_clash, .instanceMethod yX11_clash, .selects RX11 yX11_clash yX11_clash, .initialized RX11, .code yX11_clash cX11_clash 4 (some .boolean), .classLink RL 37 "java/util/NoSuchElementException", .methodLink RX11 166 yX11_needShot, .instanceMethod yX11_needShot, .selects RX11 yX11_needShot yX11_needShot, .code yX11_needShot cX11_needShot 3 (some (.object "PuppetFilm$Shot")), .classLink RX11 408 "java/util/NoSuchElementException", .initialized "java/util/NoSuchElementException", .fieldLink RX11 10 "PuppetFilm" "studio" "LPuppetFilm$Studio;", .methodLink RX11 271 yX8_shotAt, .instanceMethod yX8_shotAt, .selects RX8 yX8_shotAt yX8_shotAt, .initialized RX8, .code yX8_shotAt cX8_shotAt 2 (some (.object "PuppetFilm$Shot")), .fieldLink RX8 19 "PuppetFilm$Studio" "shots" "[LPuppetFilm$Shot;"]) (mem_ps [1582, 1583, 1584, 118, 1585, 1357, 1362, 1364, 45, 1365, 1367, 145, 554, 1366, 669, 670, 119, 671, 171] (by decide +kernel)) (by decide +kernel)) zgC_X11) zgC_X8) zgZ)
set_option maxRecDepth 100000 in
theorem zgL_law_L_clash_214 : GoodIn lw_tbl (va_wsS RL 214 yL_clash zsL_clash) := goodIn_app (goodIn_sub (mem_ps [1579, 1580, 117] (by decide +kernel)) (by decide +kernel)) zgL_law_L_clash_214_w
set_option maxRecDepth 100000 in
theorem zgL_law_wsX12_clash_r1 : GoodIn lw_tbl wsX12_clash_r1 := goodIn_sub (mem_ps [1882, 2376, 2378, 86, 129, 2379, 1920, 2222, 2223, 2224, 2225, 2227, 63, 2228, 2478, 2480, 97, 2481, 1929, 1927, 1928, 2482, 2484, 98] rfl) (by decide +kernel)
set_option maxRecDepth 100000 in
theorem zgL_law_wsX12_clash_r2 : GoodIn lw_tbl wsX12_clash_r2 := goodIn_sub (mem_ps [2485, 1892] rfl) (by decide +kernel)
set_option maxRecDepth 100000 in
theorem zgL_law_X12_clash_216_w : GoodIn lw_tbl wsX12_clash := goodIn_app (goodIn_sub (ws := [.code yX12_clash cX12_clash 3 (some .boolean)]) (fun _ h9 => List.mem_singleton.mp h9 ▸ List.mem_of_getElem? (i := 2477) rfl) (by decide +kernel)) (goodIn_app (goodIn_app zgL_law_wsX12_clash_r1 zgL_law_wsX12_clash_r2) zgC_X12)
set_option maxRecDepth 100000 in
theorem zgL_law_X12_clash_216 : GoodIn lw_tbl (wsV RL 216 RX12 yX12_clash wsX12_clash) := goodIn_app (goodIn_sub (mem_ps [2474, 2475, 2476, 129] (by decide +kernel)) (by decide +kernel)) zgL_law_X12_clash_216_w
set_option maxHeartbeats 8000000 in
set_option maxRecDepth 100000 in
/-- the law: clash -/
theorem law_case_20 {p : Program} {l : Launch} {e : Env} {s : State} {m : MethodId} {below : List Frame} {meth : Method} {c : Code} {D : va_G} {cT : Nat → ClassId} {b : Nat} {xs : Nat → Int32} {A : Nat → Prop} (hst : l.stackTraces = false) (C0 : lw_At p s m meth c b 7 xs) (hA : ∀ q : Nat, s.heap.size ≤ q → A q) (hAl : ∀ q, A q → s.heap.size ≤ q) (hK : va_K D vwCl (TY cT) s) (hG : GW s) (hZ : GZ A s s.heap) {h0 : Nat} {m0 : Nat} {o9 : Nat} {x_studio : Nat} {x_script : Nat} {x_teller : Nat} {x_planner : Nat} {x_plan : Nat} {x_drifts : Nat} {x_floor : Nat} {x_trial : Nat} {x_tape : Nat} {s_puppets : Nat} {s_shots : Nat} {s_sounds : Nat} {s_rates : Nat} {s_dresses : Nat} {fs : List Value} (hfs : fs.length = 109) (hfs_0 : fs[0]? = some (.int 0)) (hfs_1 : fs[1]? = some (.int 0)) (hfs_38 : fs[38]? = some (.int 0)) {H : Heap} {locs : List Loc} (hP : va_P D vwCl [(h0, .inr (11, [.ref x_studio, .ref x_script, .ref x_teller, .ref x_planner, .ref x_plan, .ref x_drifts, .ref x_floor, .ref x_trial, .ref x_tape, .int 0, .int (-1)])), (x_studio, .inr (8, [.ref s_puppets, .int 0, .ref s_shots, .int 0, .ref s_sounds, .ref s_rates, .ref s_dresses])), (s_shots, .inl (cT 5, 12, .inr (.inr (.inr (.inr (fun _ => none)))))), (m0, .inr (12, fs))] H) (hD : va_D A [(h0, .inr (11, [.ref x_studio, .ref x_script, .ref x_teller, .ref x_planner, .ref x_plan, .ref x_drifts, .ref x_floor, .ref x_trial, .ref x_tape, .int 0, .int (-1)])), (x_studio, .inr (8, [.ref s_puppets, .int 0, .ref s_shots, .int 0, .ref s_sounds, .ref s_rates, .ref s_dresses])), (s_shots, .inl (cT 5, 12, .inr (.inr (.inr (.inr (fun _ => none)))))), (m0, .inr (12, fs))]) (hS : va_S A s.heap H locs) {ls : Array Slot} (hl : lv_has ls 7 [(4, .int 0), (3, .ref o9), (2, .ref m0), (1, .ref h0), (0, .ref b)]) : W p l e room_1 s m #[Value.ref b] below meth c H locs 215 539454 (lw_Z below #[Value.ref b] s) (F0 m 1628 ls []) := by
  obtain ⟨hx, hb, hr, hml, hown, hts0, hX, hbl, hlocks, hgv⟩ := id C0
  have hts := hts0
  have hbA : ¬ A b := fun h => absurd (hAl b h) (Nat.not_le.mpr hbl)
  have hown : s.vm.findClass RL = some m.cls := hown
  have hb : c.code = cL_law := hb
  refine lv_aload_n hx hb dL_law_1628 rfl (lv_at hl 3 rfl) ?_
  refine lv_aload_n hx hb dL_law_1629 rfl (lv_at hl 4 rfl) ?_
  refine lv_iload hx hb dL_law_1630 (lv_at hl 0 rfl) ?_
  refine lv_iconst (v := 1) hx hb dL_law_1632 (by decide) ?_
  refine lv_iadd hx hb dL_law_1633 ?_
  refine lv_topi (fun z_1 ez_1 => ?_)
  obtain rfl : z_1 = 1 := ez_1.trans (by decide)
  refine va_sld hx hb hX hbl hbA hS (by unfold vp_in; decide) dL_law_1634 ?_
  refine lv_aload_n hx hb dL_law_1635 rfl (lv_at hl 4 rfl) ?_
  refine lv_iload hx hb dL_law_1636 (lv_at hl 0 rfl) ?_
  refine lv_iconst (v := 2) hx hb dL_law_1638 (by decide) ?_
  refine lv_iadd hx hb dL_law_1639 ?_
  refine lv_topi (fun z_2 ez_2 => ?_)
  obtain rfl : z_2 = 2 := ez_2.trans (by decide)
  refine va_sld hx hb hX hbl hbA hS (by unfold vp_in; decide) dL_law_1640 ?_
  refine lv_aload_n hx hb dL_law_1641 rfl (lv_at hl 1 rfl) ?_
  have hF := va_free (wc := [(h0, .inr (11, [.ref x_studio, .ref x_script, .ref x_teller, .ref x_planner, .ref x_plan, .ref x_drifts, .ref x_floor, .ref x_trial, .ref x_tape, .int 0, .int (-1)])), (x_studio, .inr (8, [.ref s_puppets, .int 0, .ref s_shots, .int 0, .ref s_sounds, .ref s_rates, .ref s_dresses])), (s_shots, .inl (cT 5, 12, .inr (.inr (.inr (.inr (fun _ => none))))))]) hD hS hA [0, 1, 2] rfl
  refine va_calli (vx_runSW (As := [.ref h0, .int (xs (Int32.toNatClampNeg 1)), .int (xs (Int32.toNatClampNeg 2)), .ref o9]) (rest := []) ⟨hx, hb, hml, hown, hts⟩ (c_L_clash l hst D cT h0 (xs (Int32.toNatClampNeg 1)) (xs (Int32.toNatClampNeg 2)) o9 x_studio x_script x_teller x_planner x_plan x_drifts x_floor x_trial x_tape s_puppets s_shots s_sounds s_rates s_dresses _ ) (vx_cwSW 4 hts zgL_law_L_clash_214 rfl rfl rfl (by decide +kernel) ⟨Nat.le_of_ble_eq_true rfl, Nat.le_of_ble_eq_true rfl⟩) (ps_z hP hD hK hG hZ hS hF [0, 1, 2] rfl rfl rfl) rfl rfl hl.1 rfl (lv_room (Nat.le_of_ble_eq_true rfl)) dL_law_1642 ⟨Nat.le_of_ble_eq_true rfl, Nat.le_of_ble_eq_true rfl⟩) hS (fun q _ h => hF q h) hF (fun r_3 uu9 tt9 H locs ht hvm wr_3 hB hz1 hk1 hS => ?_)
  obtain ⟨hP, hD⟩ := va_join (wr := [(m0, .inr (12, fs))]) (w1 := []) hP hD [0, 1, 2] [3] rfl rfl (by decide) (by decide) hk1 hF vp_nil vd_nil
  have hP : va_P D vwCl [(m0, .inr (12, fs))] _ := hP
  have hD : va_D A [(m0, .inr (12, fs))] := hD
  refine W.widen (k := 216) (n := 539460) (Nat.le_of_ble_eq_true rfl) (Nat.le_of_ble_eq_true rfl) ?_
  obtain rfl : r_3 = 1 := wr_3.trans (rfl)
  refine lv_istore (lv' := [(5, .int 1), (4, .int 0), (3, .ref o9), (2, .ref m0), (1, .ref h0), (0, .ref b)]) hx hb dL_law_1645 hl (by decide) rfl (fun ls hl => ?_)
  refine lv_aload_n hx hb dL_law_1647 rfl (lv_at hl 3 rfl) ?_
  refine lv_aload_n hx hb dL_law_1648 rfl (lv_at hl 5 rfl) ?_
  refine lv_iload hx hb dL_law_1649 (lv_at hl 1 rfl) ?_
  refine lv_iconst (v := 1) hx hb dL_law_1651 (by decide) ?_
  refine lv_iadd hx hb dL_law_1652 ?_
  refine lv_topi (fun z_4 ez_4 => ?_)
  obtain rfl : z_4 = 1 := ez_4.trans (by decide)
  refine va_sld hx hb hX hbl hbA hS (by unfold vp_in; decide) dL_law_1653 ?_
  refine lv_aload_n hx hb dL_law_1654 rfl (lv_at hl 5 rfl) ?_
  refine lv_iload hx hb dL_law_1655 (lv_at hl 1 rfl) ?_
  refine lv_iconst (v := 2) hx hb dL_law_1657 (by decide) ?_
  refine lv_iadd hx hb dL_law_1658 ?_
  refine lv_topi (fun z_5 ez_5 => ?_)
  obtain rfl : z_5 = 2 := ez_5.trans (by decide)
  refine va_sld hx hb hX hbl hbA hS (by unfold vp_in; decide) dL_law_1659 ?_
  have hF := va_free (wc := [(m0, .inr (12, fs))]) hD hS hA [0] rfl
  refine va_calli (va_runV (As := [.int (xs (Int32.toNatClampNeg 1)), .int (xs (Int32.toNatClampNeg 2))]) (rest := []) ⟨hx, hb, hml, hown, hts⟩ (c_X12_clash l D cT m0 (xs (Int32.toNatClampNeg 1)) (xs (Int32.toNatClampNeg 2)) fs 0 _ (hfs) (hfs_0) (hfs_1) (hfs_38)) (cwV 2 hts zgL_law_X12_clash_216 rfl rfl rfl (by decide +kernel) ⟨Nat.le_of_ble_eq_true rfl, Nat.le_of_ble_eq_true rfl⟩) (pv_w hP hD hK hG [0] rfl rfl rfl 0 rfl rfl) rfl rfl hl.1 rfl (lv_room (Nat.le_of_ble_eq_true rfl)) dL_law_1660 ⟨Nat.le_of_ble_eq_true rfl, Nat.le_of_ble_eq_true rfl⟩) hS (fun q _ h => hF q h) hF (fun r_6 uu9 tt9 H locs ht hvm wr_6 hB hz1 hk1 hS => ?_)
  obtain ⟨gs_7, hgs_7, hgs_7_0, hP1, hD1⟩ := hB
  rw [ht] at hP1
  obtain ⟨hP, hD⟩ := va_join (wr := []) (w1 := [(m0, .inr (12, gs_7))]) hP hD [0] [] rfl rfl (by decide) (by decide) hk1 hF hP1 hD1
  have hP : va_P D vwCl [(m0, .inr (12, gs_7))] _ := hP
  have hD : va_D A [(m0, .inr (12, gs_7))] := hD
  refine lv_istore (lv' := [(6, .int r_6), (5, .int 1), (4, .int 0), (3, .ref o9), (2, .ref m0), (1, .ref h0), (0, .ref b)]) hx hb dL_law_1663 hl (by decide) rfl (fun ls hl => ?_)
  refine lv_aload_n hx hb dL_law_1665 rfl (lv_at hl 4 rfl) ?_
  have hF := va_free (wc := [(m0, .inr (12, gs_7))]) hD hS hA [0] rfl
  refine va_calli (va_runV (As := []) (rest := []) ⟨hx, hb, hml, hown, hts⟩ (c_X12_thrown l D cT m0 gs_7 1 _ (hgs_7) (hgs_7_0)) (cwV 0 hts zgL_law_X12_thrown_149 rfl rfl rfl (by decide +kernel) ⟨Nat.le_of_ble_eq_true rfl, Nat.le_of_ble_eq_true rfl⟩) (pv_w hP hD hK hG [0] rfl rfl rfl 0 rfl rfl) rfl rfl hl.1 rfl (lv_room (Nat.le_of_ble_eq_true rfl)) dL_law_1666 ⟨Nat.le_of_ble_eq_true rfl, Nat.le_of_ble_eq_true rfl⟩) hS (fun q _ h => hF q h) hF (fun r_10 uu9 tt9 H locs ht hvm wr_10 hB hz1 hk1 hS => ?_)
  obtain ⟨hP1, hD1⟩ := hB
  rw [ht] at hP1
  obtain ⟨hP, hD⟩ := va_join (wr := []) (w1 := [(m0, .inr (12, gs_7))]) hP hD [0] [] rfl rfl (by decide) (by decide) hk1 hF hP1 hD1
  have hP : va_P D vwCl [(m0, .inr (12, gs_7))] _ := hP
  have hD : va_D A [(m0, .inr (12, gs_7))] := hD
  obtain rfl : r_10 = 1 := wr_10.trans (rfl)
  refine lv_iload hx hb dL_law_1669 (lv_at hl 1 rfl) ?_
  refine lv_icmp_eq (tgt := 1676) hx hb dL_law_1671 (by decide) (fun _ => ?_) (fun c9 => absurd c9 (by decide))
  refine lv_iload hx hb dL_law_1676 (lv_at hl 1 rfl) ?_
  refine lv_if_ne (tgt := 1700) hx hb dL_law_1678 (by decide) (fun _ => ?_) (fun c9 => absurd c9 (by decide))
  refine lv_goto (tgt := 3043) hx hb dL_law_1700 (by decide) ?_
  exact law_end C0 hA hAl hS (lv_sub hl [2, 6] rfl) (Nat.le_of_ble_eq_true rfl) (Nat.le_of_ble_eq_true rfl)
theorem dL_law_1703 : decode cL_law 1703 = .ok (.aload_n 1, 1) := by decide +kernel
theorem dL_law_1704 : decode cL_law 1704 = .ok (.aload_n 0, 1) := by decide +kernel
theorem dL_law_1705 : decode cL_law 1705 = .ok (.iload 4, 2) := by decide +kernel
theorem dL_law_1707 : decode cL_law 1707 = .ok (.iconst 1, 1) := by decide +kernel
theorem dL_law_1708 : decode cL_law 1708 = .ok (.iadd, 1) := by decide +kernel
theorem dL_law_1709 : decode cL_law 1709 = .ok (.iaload, 1) := by decide +kernel
theorem dL_law_1710 : decode cL_law 1710 = .ok (.aload_n 0, 1) := by decide +kernel
theorem dL_law_1711 : decode cL_law 1711 = .ok (.iload 4, 2) := by decide +kernel
theorem dL_law_1713 : decode cL_law 1713 = .ok (.iconst 2, 1) := by decide +kernel
theorem dL_law_1714 : decode cL_law 1714 = .ok (.iadd, 1) := by decide +kernel
theorem dL_law_1715 : decode cL_law 1715 = .ok (.iaload, 1) := by decide +kernel
theorem dL_law_1716 : decode cL_law 1716 = .ok (.aload_n 0, 1) := by decide +kernel
theorem dL_law_1717 : decode cL_law 1717 = .ok (.iload 4, 2) := by decide +kernel
theorem dL_law_1719 : decode cL_law 1719 = .ok (.iconst 3, 1) := by decide +kernel
theorem dL_law_1720 : decode cL_law 1720 = .ok (.iadd, 1) := by decide +kernel
theorem dL_law_1721 : decode cL_law 1721 = .ok (.iaload, 1) := by decide +kernel
theorem dL_law_1722 : decode cL_law 1722 = .ok (.aload_n 3, 1) := by decide +kernel
theorem dL_law_1723 : decode cL_law 1723 = .ok (.invokestatic 217, 3) := by decide +kernel
theorem dL_law_1726 : decode cL_law 1726 = .ok (.istore 5, 2) := by decide +kernel
theorem dL_law_1728 : decode cL_law 1728 = .ok (.aload_n 2, 1) := by decide +kernel
theorem dL_law_1729 : decode cL_law 1729 = .ok (.aload_n 0, 1) := by decide +kernel
theorem dL_law_1730 : decode cL_law 1730 = .ok (.iload 4, 2) := by decide +kernel
theorem dL_law_1732 : decode cL_law 1732 = .ok (.iconst 1, 1) := by decide +kernel
theorem dL_law_1733 : decode cL_law 1733 = .ok (.iadd, 1) := by decide +kernel
theorem dL_law_1734 : decode cL_law 1734 = .ok (.iaload, 1) := by decide +kernel
theorem dL_law_1735 : decode cL_law 1735 = .ok (.aload_n 0, 1) := by decide +kernel
theorem dL_law_1736 : decode cL_law 1736 = .ok (.iload 4, 2) := by decide +kernel
theorem dL_law_1738 : decode cL_law 1738 = .ok (.iconst 2, 1) := by decide +kernel
theorem dL_law_1739 : decode cL_law 1739 = .ok (.iadd, 1) := by decide +kernel
theorem dL_law_1740 : decode cL_law 1740 = .ok (.iaload, 1) := by decide +kernel
theorem dL_law_1741 : decode cL_law 1741 = .ok (.aload_n 0, 1) := by decide +kernel
theorem dL_law_1742 : decode cL_law 1742 = .ok (.iload 4, 2) := by decide +kernel
theorem dL_law_1744 : decode cL_law 1744 = .ok (.iconst 3, 1) := by decide +kernel
theorem dL_law_1745 : decode cL_law 1745 = .ok (.iadd, 1) := by decide +kernel
theorem dL_law_1746 : decode cL_law 1746 = .ok (.iaload, 1) := by decide +kernel
theorem dL_law_1747 : decode cL_law 1747 = .ok (.invokevirtual 219, 3) := by decide +kernel
theorem dL_law_1750 : decode cL_law 1750 = .ok (.istore 6, 2) := by decide +kernel
theorem dL_law_1752 : decode cL_law 1752 = .ok (.aload_n 2, 1) := by decide +kernel
theorem dL_law_1753 : decode cL_law 1753 = .ok (.invokevirtual 149, 3) := by decide +kernel
theorem dL_law_1756 : decode cL_law 1756 = .ok (.iload 5, 2) := by decide +kernel
theorem dL_law_1758 : decode cL_law 1758 = .ok (.if_icmp .eq 5, 3) := by decide +kernel
theorem dL_law_1763 : decode cL_law 1763 = .ok (.iload 5, 2) := by decide +kernel
theorem dL_law_1765 : decode cL_law 1765 = .ok (.ifCond .ne 15, 3) := by decide +kernel
theorem dL_law_1780 : decode cL_law 1780 = .ok (.goto 1263, 3) := by decide +kernel
set_option maxRecDepth 100000 in
theorem zgL_law_wsL_best_r1 : GoodIn lw_tbl wsL_best_r1 := goodIn_sub (mem_ps [849, 1590, 1591, 1592, 118, 1593, 554, 173, 557, 401, 403, 934, 935, 936, 937, 135, 1594, 701, 144, 702, 703, 704, 705, 953] rfl) (by decide +kernel)
set_option maxRecDepth 100000 in
theorem zgL_law_wsL_best_r2 : GoodIn lw_tbl wsL_best_r2 := goodIn_sub (mem_ps [758, 759, 1595, 1596, 1597, 125, 1598, 391, 392, 393, 394, 396, 397, 1616, 400, 402, 1599, 1601, 47, 1602, 385, 384, 1286, 1287] rfl) (by decide +kernel)
set_option maxRecDepth 100000 in
theorem zgL_law_wsL_best_r3 : GoodIn lw_tbl wsL_best_r3 := goodIn_sub (mem_ps [1604, 1606, 48, 1607, 771, 772, 1609, 1611, 49, 1612, 383, 386, 1231, 387, 388, 1618, 831, 137, 832, 389, 390, 666, 667, 1614] rfl) (by decide +kernel)
set_option maxRecDepth 100000 in
theorem zgL_law_wsL_best_r4 : GoodIn lw_tbl wsL_best_r4 := goodIn_sub (mem_ps [669, 670, 119, 671, 171, 1615, 677, 678, 679, 178, 1617, 686, 687, 688, 1216, 689, 690, 691, 692, 176, 693, 694, 695, 696] rfl) (by decide +kernel)
set_option maxRecDepth 100000 in
theorem zgL_law_wsL_best_r5 : GoodIn lw_tbl wsL_best_r5 := goodIn_sub (mem_ps [697, 698, 699, 1225, 700, 1619, 711, 712, 713, 1235, 714, 716, 5, 717, 167, 1229, 613, 1620, 165, 120, 166, 1621, 1623, 50] rfl) (by decide +kernel)
set_option maxRecDepth 100000 in
theorem zgL_law_wsL_best_r6 : GoodIn lw_tbl wsL_best_r6 := goodIn_sub (mem_ps [1624, 1625, 1627, 51, 1628, 398, 399, 1629, 732, 731, 138, 1630, 1632, 52, 1633, 1642, 1634, 1636, 53, 1637, 1638, 1640, 54, 1641] rfl) (by decide +kernel)
set_option maxRecDepth 100000 in
theorem zgL_law_wsL_best_r7 : GoodIn lw_tbl wsL_best_r7 := goodIn_sub (mem_ps [395, 1643, 1645, 55, 1646, 1647, 1649, 56, 1650, 1651, 1653, 57, 1654, 1655, 1657, 58, 1658, 1659, 1661, 59, 1662, 1663, 1664, 1666] rfl) (by decide +kernel)
set_option maxRecDepth 100000 in
theorem zgL_law_wsL_best_r8 : GoodIn lw_tbl wsL_best_r8 := goodIn_sub (mem_ps [60, 1667, 1668, 1669, 1670, 1671] rfl) (by decide +kernel)
set_option maxRecDepth 100000 in
theorem zinX4 : ∀ w ∈ wsX40, w ∈ lw_tbl := mem_ps [404, 406, 408, 410, 412, 414, 416, 418, 420, 422, 424, 426, 428, 430, 432, 434, 436, 438, 440] (by decide +kernel)
theorem zgC_X4 : GoodIn lw_tbl wsX40 := goodIn_sub zinX4 (by decide +kernel)
set_option maxRecDepth 100000 in
theorem zgL_law_L_best_217_w : GoodIn lw_tbl wsL_best := goodIn_app (goodIn_sub (ws := [.codeWith yL_best cL_best 6 (some .int) [(0, 12, 15, 15)]]) (fun _ h9 => List.mem_singleton.mp h9 ▸ List.mem_of_getElem? (i := 1589) rfl) (by decide +kernel)) (goodIn_app (goodIn_app (goodIn_app (goodIn_app (goodIn_app (goodIn_app (goodIn_app zgL_law_wsL_best_r1 (goodIn_app zgL_law_wsL_best_r2 (goodIn_app zgL_law_wsL_best_r3 (goodIn_app zgL_law_wsL_best_r4 (goodIn_app zgL_law_wsL_best_r5 (goodIn_app zgL_law_wsL_best_r6 (goodIn_app zgL_law_wsL_best_r7 zgL_law_wsL_best_r8))))))) zgC_X11) zgC_X8) zgC_X4) zgC_X7) zgC_X5) zgF_196)
set_option maxRecDepth 100000 in
theorem zgL_law_L_best_217 : GoodIn lw_tbl (va_wsS RL 217 yL_best wsL_best) := goodIn_app (goodIn_sub (mem_ps [1587, 1588, 117] (by decide +kernel)) (by decide +kernel)) zgL_law_L_best_217_w
set_option maxRecDepth 100000 in
theorem zgL_law_wsX12_best_r1 : GoodIn lw_tbl wsX12_best_r1 := goodIn_sub (mem_ps [1882, 1920, 1948, 1949, 1950, 1951, 1956, 1957, 1958, 1959, 2222, 2223, 129, 2224, 2225, 2227, 63, 2228, 2490, 2492, 99, 2493, 1955, 1952] rfl) (by decide +kernel)
set_option maxRecDepth 100000 in
theorem zgL_law_wsX12_best_r2 : GoodIn lw_tbl wsX12_best_r2 := goodIn_sub (mem_ps [1953, 1954, 2494, 2496, 100, 2497, 1929, 1947, 2478, 2480, 97, 2481, 1927, 1928, 2482, 2484, 98, 2485, 1892, 2467, 2469, 96, 2470, 1926] rfl) (by decide +kernel)
set_option maxRecDepth 100000 in
theorem zgL_law_wsX12_best_r3 : GoodIn lw_tbl wsX12_best_r3 := goodIn_sub (mem_ps [1946, 2471, 2472, 2473] rfl) (by decide +kernel)
set_option maxRecDepth 100000 in
theorem zgL_law_X12_best_219_w : GoodIn lw_tbl wsX12_best := goodIn_app (goodIn_sub (ws := [.code yX12_best cX12_best 6 (some .int)]) (fun _ h9 => List.mem_singleton.mp h9 ▸ List.mem_of_getElem? (i := 2489) rfl) (by decide +kernel)) (goodIn_app (goodIn_app zgL_law_wsX12_best_r1 (goodIn_app zgL_law_wsX12_best_r2 zgL_law_wsX12_best_r3)) zgC_X12)
set_option maxRecDepth 100000 in
theorem zgL_law_X12_best_219 : GoodIn lw_tbl (wsV RL 219 RX12 yX12_best wsX12_best) := goodIn_app (goodIn_sub (mem_ps [2486, 2487, 2488, 129] (by decide +kernel)) (by decide +kernel)) zgL_law_X12_best_219_w
set_option maxHeartbeats 8000000 in
set_option maxRecDepth 100000 in
/-- the law: best -/
theorem law_case_21 {p : Program} {l : Launch} {e : Env} {s : State} {m : MethodId} {below : List Frame} {meth : Method} {c : Code} {D : va_G} {cT : Nat → ClassId} {b : Nat} {xs : Nat → Int32} {A : Nat → Prop} (hst : l.stackTraces = false) (C0 : lw_At p s m meth c b 7 xs) (hA : ∀ q : Nat, s.heap.size ≤ q → A q) (hAl : ∀ q, A q → s.heap.size ≤ q) (hK : va_K D vwCl (TY cT) s) (hG : GW s) (hZ : GZ A s s.heap) {h0 : Nat} {m0 : Nat} {o9 : Nat} {x_studio : Nat} {x_script : Nat} {x_teller : Nat} {x_planner : Nat} {x_plan : Nat} {x_drifts : Nat} {x_floor : Nat} {x_trial : Nat} {x_tape : Nat} {s_puppets : Nat} {s_shots : Nat} {s_sounds : Nat} {s_rates : Nat} {s_dresses : Nat} {fs : List Value} (hfs : fs.length = 109) (hfs_0 : fs[0]? = some (.int 0)) (hfs_38 : fs[38]? = some (.int 0)) {H : Heap} {locs : List Loc} (hP : va_P D vwCl [(h0, .inr (11, [.ref x_studio, .ref x_script, .ref x_teller, .ref x_planner, .ref x_plan, .ref x_drifts, .ref x_floor, .ref x_trial, .ref x_tape, .int 0, .int (-1)])), (x_studio, .inr (8, [.ref s_puppets, .int 0, .ref s_shots, .int 0, .ref s_sounds, .ref s_rates, .ref s_dresses])), (m0, .inr (12, fs))] H) (hD : va_D A [(h0, .inr (11, [.ref x_studio, .ref x_script, .ref x_teller, .ref x_planner, .ref x_plan, .ref x_drifts, .ref x_floor, .ref x_trial, .ref x_tape, .int 0, .int (-1)])), (x_studio, .inr (8, [.ref s_puppets, .int 0, .ref s_shots, .int 0, .ref s_sounds, .ref s_rates, .ref s_dresses])), (m0, .inr (12, fs))]) (hS : va_S A s.heap H locs) {ls : Array Slot} (hl : lv_has ls 7 [(4, .int 0), (3, .ref o9), (2, .ref m0), (1, .ref h0), (0, .ref b)]) : W p l e room_1 s m #[Value.ref b] below meth c H locs 215 539454 (lw_Z below #[Value.ref b] s) (F0 m 1703 ls []) := by
  obtain ⟨hx, hb, hr, hml, hown, hts0, hX, hbl, hlocks, hgv⟩ := id C0
  have hts := hts0
  have hbA : ¬ A b := fun h => absurd (hAl b h) (Nat.not_le.mpr hbl)
  have hown : s.vm.findClass RL = some m.cls := hown
  have hb : c.code = cL_law := hb
  refine lv_aload_n hx hb dL_law_1703 rfl (lv_at hl 3 rfl) ?_
  refine lv_aload_n hx hb dL_law_1704 rfl (lv_at hl 4 rfl) ?_
  refine lv_iload hx hb dL_law_1705 (lv_at hl 0 rfl) ?_
  refine lv_iconst (v := 1) hx hb dL_law_1707 (by decide) ?_
  refine lv_iadd hx hb dL_law_1708 ?_
  refine lv_topi (fun z_1 ez_1 => ?_)
  obtain rfl : z_1 = 1 := ez_1.trans (by decide)
  refine va_sld hx hb hX hbl hbA hS (by unfold vp_in; decide) dL_law_1709 ?_
  refine lv_aload_n hx hb dL_law_1710 rfl (lv_at hl 4 rfl) ?_
  refine lv_iload hx hb dL_law_1711 (lv_at hl 0 rfl) ?_
  refine lv_iconst (v := 2) hx hb dL_law_1713 (by decide) ?_
  refine lv_iadd hx hb dL_law_1714 ?_
  refine lv_topi (fun z_2 ez_2 => ?_)
  obtain rfl : z_2 = 2 := ez_2.trans (by decide)
  refine va_sld hx hb hX hbl hbA hS (by unfold vp_in; decide) dL_law_1715 ?_
  refine lv_aload_n hx hb dL_law_1716 rfl (lv_at hl 4 rfl) ?_
  refine lv_iload hx hb dL_law_1717 (lv_at hl 0 rfl) ?_
  refine lv_iconst (v := 3) hx hb dL_law_1719 (by decide) ?_
  refine lv_iadd hx hb dL_law_1720 ?_
  refine lv_topi (fun z_3 ez_3 => ?_)
  obtain rfl : z_3 = 3 := ez_3.trans (by decide)
  refine va_sld hx hb hX hbl hbA hS (by unfold vp_in; decide) dL_law_1721 ?_
  refine lv_aload_n hx hb dL_law_1722 rfl (lv_at hl 1 rfl) ?_
  have hF := va_free (wc := [(h0, .inr (11, [.ref x_studio, .ref x_script, .ref x_teller, .ref x_planner, .ref x_plan, .ref x_drifts, .ref x_floor, .ref x_trial, .ref x_tape, .int 0, .int (-1)])), (x_studio, .inr (8, [.ref s_puppets, .int 0, .ref s_shots, .int 0, .ref s_sounds, .ref s_rates, .ref s_dresses]))]) hD hS hA [0, 1] rfl
  refine va_calli (vx_runSW (As := [.ref h0, .int (xs (Int32.toNatClampNeg 1)), .int (xs (Int32.toNatClampNeg 2)), .int (xs (Int32.toNatClampNeg 3)), .ref o9]) (rest := []) ⟨hx, hb, hml, hown, hts⟩ (c_L_best l hst D cT h0 (xs (Int32.toNatClampNeg 1)) (xs (Int32.toNatClampNeg 2)) (xs (Int32.toNatClampNeg 3)) o9 x_studio x_script x_teller x_planner x_plan x_drifts x_floor x_trial x_tape s_puppets s_shots s_sounds s_rates s_dresses _ ) (vx_cwSW 5 hts zgL_law_L_best_217 rfl rfl rfl (by decide +kernel) ⟨Nat.le_of_ble_eq_true rfl, Nat.le_of_ble_eq_true rfl⟩) (ps_z hP hD hK hG hZ hS hF [0, 1] rfl rfl rfl) rfl rfl hl.1 rfl (lv_room (Nat.le_of_ble_eq_true rfl)) dL_law_1723 ⟨Nat.le_of_ble_eq_true rfl, Nat.le_of_ble_eq_true rfl⟩) hS (fun q _ h => hF q h) hF (fun r_4 uu9 tt9 H locs ht hvm wr_4 hB hz1 hk1 hS => ?_)
  obtain ⟨hP, hD⟩ := va_join (wr := [(m0, .inr (12, fs))]) (w1 := []) hP hD [0, 1] [2] rfl rfl (by decide) (by decide) hk1 hF vp_nil vd_nil
  have hP : va_P D vwCl [(m0, .inr (12, fs))] _ := hP
  have hD : va_D A [(m0, .inr (12, fs))] := hD
  refine W.widen (k := 216) (n := 539460) (Nat.le_of_ble_eq_true rfl) (Nat.le_of_ble_eq_true rfl) ?_
  obtain rfl : r_4 = 1 := wr_4.trans (rfl)
  refine lv_istore (lv' := [(5, .int 1), (4, .int 0), (3, .ref o9), (2, .ref m0), (1, .ref h0), (0, .ref b)]) hx hb dL_law_1726 hl (by decide) rfl (fun ls hl => ?_)
  refine lv_aload_n hx hb dL_law_1728 rfl (lv_at hl 3 rfl) ?_
  refine lv_aload_n hx hb dL_law_1729 rfl (lv_at hl 5 rfl) ?_
  refine lv_iload hx hb dL_law_1730 (lv_at hl 1 rfl) ?_
  refine lv_iconst (v := 1) hx hb dL_law_1732 (by decide) ?_
  refine lv_iadd hx hb dL_law_1733 ?_
  refine lv_topi (fun z_5 ez_5 => ?_)
  obtain rfl : z_5 = 1 := ez_5.trans (by decide)
  refine va_sld hx hb hX hbl hbA hS (by unfold vp_in; decide) dL_law_1734 ?_
  refine lv_aload_n hx hb dL_law_1735 rfl (lv_at hl 5 rfl) ?_
  refine lv_iload hx hb dL_law_1736 (lv_at hl 1 rfl) ?_
  refine lv_iconst (v := 2) hx hb dL_law_1738 (by decide) ?_
  refine lv_iadd hx hb dL_law_1739 ?_
  refine lv_topi (fun z_6 ez_6 => ?_)
  obtain rfl : z_6 = 2 := ez_6.trans (by decide)
  refine va_sld hx hb hX hbl hbA hS (by unfold vp_in; decide) dL_law_1740 ?_
  refine lv_aload_n hx hb dL_law_1741 rfl (lv_at hl 5 rfl) ?_
  refine lv_iload hx hb dL_law_1742 (lv_at hl 1 rfl) ?_
  refine lv_iconst (v := 3) hx hb dL_law_1744 (by decide) ?_
  refine lv_iadd hx hb dL_law_1745 ?_
  refine lv_topi (fun z_7 ez_7 => ?_)
  obtain rfl : z_7 = 3 := ez_7.trans (by decide)
  refine va_sld hx hb hX hbl hbA hS (by unfold vp_in; decide) dL_law_1746 ?_
  have hF := va_free (wc := [(m0, .inr (12, fs))]) hD hS hA [0] rfl
  refine va_calli (va_runV (As := [.int (xs (Int32.toNatClampNeg 1)), .int (xs (Int32.toNatClampNeg 2)), .int (xs (Int32.toNatClampNeg 3))]) (rest := []) ⟨hx, hb, hml, hown, hts⟩ (c_X12_best l D cT m0 (xs (Int32.toNatClampNeg 1)) (xs (Int32.toNatClampNeg 2)) (xs (Int32.toNatClampNeg 3)) fs 0 _ (hfs) (hfs_0) (hfs_38)) (cwV 3 hts zgL_law_X12_best_219 rfl rfl rfl (by decide +kernel) ⟨Nat.le_of_ble_eq_true rfl, Nat.le_of_ble_eq_true rfl⟩) (pv_w hP hD hK hG [0] rfl rfl rfl 0 rfl rfl) rfl rfl hl.1 rfl (lv_room (Nat.le_of_ble_eq_true rfl)) dL_law_1747 ⟨Nat.le_of_ble_eq_true rfl, Nat.le_of_ble_eq_true rfl⟩) hS (fun q _ h => hF q h) hF (fun r_8 uu9 tt9 H locs ht hvm wr_8 hB hz1 hk1 hS => ?_)
  obtain ⟨gs_9, hgs_9, hgs_9_0, hP1, hD1⟩ := hB
  rw [ht] at hP1
  obtain ⟨hP, hD⟩ := va_join (wr := []) (w1 := [(m0, .inr (12, gs_9))]) hP hD [0] [] rfl rfl (by decide) (by decide) hk1 hF hP1 hD1
  have hP : va_P D vwCl [(m0, .inr (12, gs_9))] _ := hP
  have hD : va_D A [(m0, .inr (12, gs_9))] := hD
  refine lv_istore (lv' := [(6, .int r_8), (5, .int 1), (4, .int 0), (3, .ref o9), (2, .ref m0), (1, .ref h0), (0, .ref b)]) hx hb dL_law_1750 hl (by decide) rfl (fun ls hl => ?_)
  refine lv_aload_n hx hb dL_law_1752 rfl (lv_at hl 4 rfl) ?_
  have hF := va_free (wc := [(m0, .inr (12, gs_9))]) hD hS hA [0] rfl
  refine va_calli (va_runV (As := []) (rest := []) ⟨hx, hb, hml, hown, hts⟩ (c_X12_thrown l D cT m0 gs_9 1 _ (hgs_9) (hgs_9_0)) (cwV 0 hts zgL_law_X12_thrown_149 rfl rfl rfl (by decide +kernel) ⟨Nat.le_of_ble_eq_true rfl, Nat.le_of_ble_eq_true rfl⟩) (pv_w hP hD hK hG [0] rfl rfl rfl 0 rfl rfl) rfl rfl hl.1 rfl (lv_room (Nat.le_of_ble_eq_true rfl)) dL_law_1753 ⟨Nat.le_of_ble_eq_true rfl, Nat.le_of_ble_eq_true rfl⟩) hS (fun q _ h => hF q h) hF (fun r_12 uu9 tt9 H locs ht hvm wr_12 hB hz1 hk1 hS => ?_)
  obtain ⟨hP1, hD1⟩ := hB
  rw [ht] at hP1
  obtain ⟨hP, hD⟩ := va_join (wr := []) (w1 := [(m0, .inr (12, gs_9))]) hP hD [0] [] rfl rfl (by decide) (by decide) hk1 hF hP1 hD1
  have hP : va_P D vwCl [(m0, .inr (12, gs_9))] _ := hP
  have hD : va_D A [(m0, .inr (12, gs_9))] := hD
  obtain rfl : r_12 = 1 := wr_12.trans (rfl)
  refine lv_iload hx hb dL_law_1756 (lv_at hl 1 rfl) ?_
  refine lv_icmp_eq (tgt := 1763) hx hb dL_law_1758 (by decide) (fun _ => ?_) (fun c9 => absurd c9 (by decide))
  refine lv_iload hx hb dL_law_1763 (lv_at hl 1 rfl) ?_
  refine lv_if_ne (tgt := 1780) hx hb dL_law_1765 (by decide) (fun _ => ?_) (fun c9 => absurd c9 (by decide))
  refine lv_goto (tgt := 3043) hx hb dL_law_1780 (by decide) ?_
  exact law_end C0 hA hAl hS (lv_sub hl [2, 6] rfl) (Nat.le_of_ble_eq_true rfl) (Nat.le_of_ble_eq_true rfl)
