theorem dL_law_2509 : decode cL_law 2509 = .ok (.aload_n 1, 1) := by decide +kernel
theorem dL_law_2510 : decode cL_law 2510 = .ok (.aload_n 0, 1) := by decide +kernel
theorem dL_law_2511 : decode cL_law 2511 = .ok (.iload 4, 2) := by decide +kernel
theorem dL_law_2513 : decode cL_law 2513 = .ok (.iconst 1, 1) := by decide +kernel
theorem dL_law_2514 : decode cL_law 2514 = .ok (.iadd, 1) := by decide +kernel
theorem dL_law_2515 : decode cL_law 2515 = .ok (.iaload, 1) := by decide +kernel
theorem dL_law_2516 : decode cL_law 2516 = .ok (.aload_n 0, 1) := by decide +kernel
theorem dL_law_2517 : decode cL_law 2517 = .ok (.iload 4, 2) := by decide +kernel
theorem dL_law_2519 : decode cL_law 2519 = .ok (.iconst 2, 1) := by decide +kernel
theorem dL_law_2520 : decode cL_law 2520 = .ok (.iadd, 1) := by decide +kernel
theorem dL_law_2521 : decode cL_law 2521 = .ok (.iaload, 1) := by decide +kernel
theorem dL_law_2522 : decode cL_law 2522 = .ok (.aload_n 3, 1) := by decide +kernel
theorem dL_law_2523 : decode cL_law 2523 = .ok (.invokestatic 256, 3) := by decide +kernel
theorem dL_law_2526 : decode cL_law 2526 = .ok (.istore 5, 2) := by decide +kernel
theorem dL_law_2528 : decode cL_law 2528 = .ok (.aload_n 2, 1) := by decide +kernel
theorem dL_law_2529 : decode cL_law 2529 = .ok (.aload_n 0, 1) := by decide +kernel
theorem dL_law_2530 : decode cL_law 2530 = .ok (.iload 4, 2) := by decide +kernel
theorem dL_law_2532 : decode cL_law 2532 = .ok (.iconst 1, 1) := by decide +kernel
theorem dL_law_2533 : decode cL_law 2533 = .ok (.iadd, 1) := by decide +kernel
theorem dL_law_2534 : decode cL_law 2534 = .ok (.iaload, 1) := by decide +kernel
theorem dL_law_2535 : decode cL_law 2535 = .ok (.aload_n 0, 1) := by decide +kernel
theorem dL_law_2536 : decode cL_law 2536 = .ok (.iload 4, 2) := by decide +kernel
theorem dL_law_2538 : decode cL_law 2538 = .ok (.iconst 2, 1) := by decide +kernel
theorem dL_law_2539 : decode cL_law 2539 = .ok (.iadd, 1) := by decide +kernel
theorem dL_law_2540 : decode cL_law 2540 = .ok (.iaload, 1) := by decide +kernel
theorem dL_law_2541 : decode cL_law 2541 = .ok (.invokevirtual 258, 3) := by decide +kernel
theorem dL_law_2544 : decode cL_law 2544 = .ok (.istore 6, 2) := by decide +kernel
theorem dL_law_2546 : decode cL_law 2546 = .ok (.aload_n 2, 1) := by decide +kernel
theorem dL_law_2547 : decode cL_law 2547 = .ok (.invokevirtual 149, 3) := by decide +kernel
theorem dL_law_2550 : decode cL_law 2550 = .ok (.iload 5, 2) := by decide +kernel
theorem dL_law_2552 : decode cL_law 2552 = .ok (.if_icmp .eq 5, 3) := by decide +kernel
theorem dL_law_2557 : decode cL_law 2557 = .ok (.iload 5, 2) := by decide +kernel
theorem dL_law_2559 : decode cL_law 2559 = .ok (.ifCond .ne 15, 3) := by decide +kernel
theorem dL_law_2574 : decode cL_law 2574 = .ok (.goto 469, 3) := by decide +kernel
set_option maxRecDepth 100000 in
theorem zgL_law_L_dirty_256_w : GoodIn lw_tbl zsL_dirty := goodIn_app (goodIn_sub (ws := [.codeWith yL_dirty cL_dirty 5 (some .int) [(0, 10, 13, 37)]]) (fun _ h9 => List.mem_singleton.mp h9 ▸ List.mem_of_getElem? (i := 1779) rfl) (by decide +kernel)) (goodIn_app (goodIn_app (goodIn_app (goodIn_sub (ws := [.methodLink RL 110 yX11_dirty, .instanceMethod yX11_dirty, .selects RX11 yX11_dirty yX11_dirty, .initialized RX11, .code yX11_dirty cX11_dirty 5 (some .int), .classLink RL 37 "java/util/NoSuchElementException", .methodLink RX11 166 yX11_needShot, .instanceMethod yX11_needShot, .selects RX11 yX11_needShot yX11_needShot, .code yX11_needShot cX11_needShot 3 (some (.object "PuppetFilm$Shot")), .classLink RX11 408 "java/util/NoSuchElementException", .initialized "java/util/NoSuchElementException", .fieldLink RX11 10 "PuppetFilm" "studio" "LPuppetFilm$Studio;", .methodLink RX11 271 yX8_shotAt, .instanceMethod yX8_shotAt, .selects RX8 yX8_shotAt yX8_shotAt, .initialized RX8, .code yX8_shotAt cX8_shotAt 2 (some (.object "PuppetFilm$Shot")), .fieldLink RX8 19 "PuppetFilm$Studio" "shots" "[LPuppetFilm$Shot;"]) (mem_ps [1780, 1781, 1782, 118, 1783, 1357, 1362, 1364, 45, 1365, 1367, 145, 554, 1366, 669, 670, 119, 671, 171] (by decide +kernel)) (by decide +kernel)) zgC_X11) zgC_X8) zgZ)
set_option maxRecDepth 100000 in
theorem zgL_law_L_dirty_256 : GoodIn lw_tbl (va_wsS RL 256 yL_dirty zsL_dirty) := goodIn_app (goodIn_sub (mem_ps [1777, 1778, 117] (by decide +kernel)) (by decide +kernel)) zgL_law_L_dirty_256_w
set_option maxRecDepth 100000 in
theorem zgL_law_X12_dirty_258_w : GoodIn lw_tbl wsX12_dirty := goodIn_app (goodIn_sub (ws := [.code yX12_dirty cX12_dirty 4 (some .int)]) (fun _ h9 => List.mem_singleton.mp h9 ▸ List.mem_of_getElem? (i := 2561) rfl) (by decide +kernel)) (goodIn_app (goodIn_sub (ws := [.fieldLink RX12 1 "PuppetFilmModel" "thrown" "I", .fieldLink RX12 104 "PuppetFilmModel" "frames" "[I", .methodLink RX12 436 yX12_isShot, .instanceMethod yX12_isShot, .selects RX12 yX12_isShot yX12_isShot, .initialized RX12, .code yX12_isShot cX12_isShot 2 (some .boolean), .fieldLink RX12 398 "PuppetFilmModel" "shots" "I", .methodLink RX12 267 yX12_within, .static yX12_within, .code yX12_within cX12_within 3 (some .boolean), .methodLink RX12 271 yX12_may, .instanceMethod yX12_may, .selects RX12 yX12_may yX12_may, .code yX12_may cX12_may 3 (some .boolean), .methodLink RX12 439 yX12_isDirty, .instanceMethod yX12_isDirty, .selects RX12 yX12_isDirty yX12_isDirty, .code yX12_isDirty cX12_isDirty 3 (some .boolean), .fieldLink RX12 101 "PuppetFilmModel" "rigged" "[I", .fieldLink RX12 122 "PuppetFilmModel" "isPainted" "[Z", .methodLink RX12 404 yX12_place, .static yX12_place, .code yX12_place cX12_place 2 (some .int)]) (mem_ps [1882, 1926, 2376, 2378, 86, 129, 2379, 1920, 2222, 2223, 2224, 2225, 2227, 63, 2228, 2380, 2382, 87, 2383, 1925, 1932, 2345, 2346, 2347] (by decide +kernel)) (by decide +kernel)) zgC_X12)
set_option maxRecDepth 100000 in
theorem zgL_law_X12_dirty_258 : GoodIn lw_tbl (wsV RL 258 RX12 yX12_dirty wsX12_dirty) := goodIn_app (goodIn_sub (mem_ps [2558, 2559, 2560, 129] (by decide +kernel)) (by decide +kernel)) zgL_law_X12_dirty_258_w
set_option maxHeartbeats 8000000 in
set_option maxRecDepth 100000 in
/-- the law: dirty -/
theorem law_case_33 {p : Program} {l : Launch} {e : Env} {s : State} {m : MethodId} {below : List Frame} {meth : Method} {c : Code} {D : va_G} {cT : Nat → ClassId} {b : Nat} {xs : Nat → Int32} {A : Nat → Prop} (hst : l.stackTraces = false) (C0 : lw_At p s m meth c b 7 xs) (hA : ∀ q : Nat, s.heap.size ≤ q → A q) (hAl : ∀ q, A q → s.heap.size ≤ q) (hK : va_K D vwCl (TY cT) s) (hG : GW s) (hZ : GZ A s s.heap) {h0 : Nat} {m0 : Nat} {o9 : Nat} {x_studio : Nat} {x_script : Nat} {x_teller : Nat} {x_planner : Nat} {x_plan : Nat} {x_drifts : Nat} {x_floor : Nat} {x_trial : Nat} {x_tape : Nat} {s_puppets : Nat} {s_shots : Nat} {s_sounds : Nat} {s_rates : Nat} {s_dresses : Nat} {fs : List Value} (hfs : fs.length = 109) (hfs_0 : fs[0]? = some (.int 0)) (hfs_1 : fs[1]? = some (.int 0)) (hfs_38 : fs[38]? = some (.int 0)) {H : Heap} {locs : List Loc} (hP : va_P D vwCl [(h0, .inr (11, [.ref x_studio, .ref x_script, .ref x_teller, .ref x_planner, .ref x_plan, .ref x_drifts, .ref x_floor, .ref x_trial, .ref x_tape, .int 0, .int (-1)])), (x_studio, .inr (8, [.ref s_puppets, .int 0, .ref s_shots, .int 0, .ref s_sounds, .ref s_rates, .ref s_dresses])), (s_shots, .inl (cT 5, 12, .inr (.inr (.inr (.inr (fun _ => none)))))), (m0, .inr (12, fs))] H) (hD : va_D A [(h0, .inr (11, [.ref x_studio, .ref x_script, .ref x_teller, .ref x_planner, .ref x_plan, .ref x_drifts, .ref x_floor, .ref x_trial, .ref x_tape, .int 0, .int (-1)])), (x_studio, .inr (8, [.ref s_puppets, .int 0, .ref s_shots, .int 0, .ref s_sounds, .ref s_rates, .ref s_dresses])), (s_shots, .inl (cT 5, 12, .inr (.inr (.inr (.inr (fun _ => none)))))), (m0, .inr (12, fs))]) (hS : va_S A s.heap H locs) {ls : Array Slot} (hl : lv_has ls 7 [(4, .int 0), (3, .ref o9), (2, .ref m0), (1, .ref h0), (0, .ref b)]) : W p l e room_1 s m #[Value.ref b] below meth c H locs 215 539454 (lw_Z below #[Value.ref b] s) (F0 m 2509 ls []) := by
  obtain ⟨hx, hb, hr, hml, hown, hts0, hX, hbl, hlocks, hgv⟩ := id C0
  have hts := hts0
  have hbA : ¬ A b := fun h => absurd (hAl b h) (Nat.not_le.mpr hbl)
  have hown : s.vm.findClass RL = some m.cls := hown
  have hb : c.code = cL_law := hb
  refine lv_aload_n hx hb dL_law_2509 rfl (lv_at hl 3 rfl) ?_
  refine lv_aload_n hx hb dL_law_2510 rfl (lv_at hl 4 rfl) ?_
  refine lv_iload hx hb dL_law_2511 (lv_at hl 0 rfl) ?_
  refine lv_iconst (v := 1) hx hb dL_law_2513 (by decide) ?_
  refine lv_iadd hx hb dL_law_2514 ?_
  refine lv_topi (fun z_1 ez_1 => ?_)
  obtain rfl : z_1 = 1 := ez_1.trans (by decide)
  refine va_sld hx hb hX hbl hbA hS (by unfold vp_in; decide) dL_law_2515 ?_
  refine lv_aload_n hx hb dL_law_2516 rfl (lv_at hl 4 rfl) ?_
  refine lv_iload hx hb dL_law_2517 (lv_at hl 0 rfl) ?_
  refine lv_iconst (v := 2) hx hb dL_law_2519 (by decide) ?_
  refine lv_iadd hx hb dL_law_2520 ?_
  refine lv_topi (fun z_2 ez_2 => ?_)
  obtain rfl : z_2 = 2 := ez_2.trans (by decide)
  refine va_sld hx hb hX hbl hbA hS (by unfold vp_in; decide) dL_law_2521 ?_
  refine lv_aload_n hx hb dL_law_2522 rfl (lv_at hl 1 rfl) ?_
  have hF := va_free (wc := [(h0, .inr (11, [.ref x_studio, .ref x_script, .ref x_teller, .ref x_planner, .ref x_plan, .ref x_drifts, .ref x_floor, .ref x_trial, .ref x_tape, .int 0, .int (-1)])), (x_studio, .inr (8, [.ref s_puppets, .int 0, .ref s_shots, .int 0, .ref s_sounds, .ref s_rates, .ref s_dresses])), (s_shots, .inl (cT 5, 12, .inr (.inr (.inr (.inr (fun _ => none))))))]) hD hS hA [0, 1, 2] rfl
  refine va_calli (vx_runSW (As := [.ref h0, .int (xs (Int32.toNatClampNeg 1)), .int (xs (Int32.toNatClampNeg 2)), .ref o9]) (rest := []) ⟨hx, hb, hml, hown, hts⟩ (c_L_dirty l hst D cT h0 (xs (Int32.toNatClampNeg 1)) (xs (Int32.toNatClampNeg 2)) o9 x_studio x_script x_teller x_planner x_plan x_drifts x_floor x_trial x_tape s_puppets s_shots s_sounds s_rates s_dresses _ ) (vx_cwSW 4 hts zgL_law_L_dirty_256 rfl rfl rfl (by decide +kernel) ⟨Nat.le_of_ble_eq_true rfl, Nat.le_of_ble_eq_true rfl⟩) (ps_z hP hD hK hG hZ hS hF [0, 1, 2] rfl rfl rfl) rfl rfl hl.1 rfl (lv_room (Nat.le_of_ble_eq_true rfl)) dL_law_2523 ⟨Nat.le_of_ble_eq_true rfl, Nat.le_of_ble_eq_true rfl⟩) hS (fun q _ h => hF q h) hF (fun r_3 uu9 tt9 H locs ht hvm wr_3 hB hz1 hk1 hS => ?_)
  obtain ⟨hP, hD⟩ := va_join (wr := [(m0, .inr (12, fs))]) (w1 := []) hP hD [0, 1, 2] [3] rfl rfl (by decide) (by decide) hk1 hF vp_nil vd_nil
  have hP : va_P D vwCl [(m0, .inr (12, fs))] _ := hP
  have hD : va_D A [(m0, .inr (12, fs))] := hD
  refine W.widen (k := 216) (n := 539460) (Nat.le_of_ble_eq_true rfl) (Nat.le_of_ble_eq_true rfl) ?_
  obtain rfl : r_3 = 1 := wr_3.trans (rfl)
  refine lv_istore (lv' := [(5, .int 1), (4, .int 0), (3, .ref o9), (2, .ref m0), (1, .ref h0), (0, .ref b)]) hx hb dL_law_2526 hl (by decide) rfl (fun ls hl => ?_)
  refine lv_aload_n hx hb dL_law_2528 rfl (lv_at hl 3 rfl) ?_
  refine lv_aload_n hx hb dL_law_2529 rfl (lv_at hl 5 rfl) ?_
  refine lv_iload hx hb dL_law_2530 (lv_at hl 1 rfl) ?_
  refine lv_iconst (v := 1) hx hb dL_law_2532 (by decide) ?_
  refine lv_iadd hx hb dL_law_2533 ?_
  refine lv_topi (fun z_4 ez_4 => ?_)
  obtain rfl : z_4 = 1 := ez_4.trans (by decide)
  refine va_sld hx hb hX hbl hbA hS (by unfold vp_in; decide) dL_law_2534 ?_
  refine lv_aload_n hx hb dL_law_2535 rfl (lv_at hl 5 rfl) ?_
  refine lv_iload hx hb dL_law_2536 (lv_at hl 1 rfl) ?_
  refine lv_iconst (v := 2) hx hb dL_law_2538 (by decide) ?_
  refine lv_iadd hx hb dL_law_2539 ?_
  refine lv_topi (fun z_5 ez_5 => ?_)
  obtain rfl : z_5 = 2 := ez_5.trans (by decide)
  refine va_sld hx hb hX hbl hbA hS (by unfold vp_in; decide) dL_law_2540 ?_
  have hF := va_free (wc := [(m0, .inr (12, fs))]) hD hS hA [0] rfl
  refine va_calli (va_runV (As := [.int (xs (Int32.toNatClampNeg 1)), .int (xs (Int32.toNatClampNeg 2))]) (rest := []) ⟨hx, hb, hml, hown, hts⟩ (c_X12_dirty l D cT m0 (xs (Int32.toNatClampNeg 1)) (xs (Int32.toNatClampNeg 2)) fs 0 _ (hfs) (hfs_0) (hfs_1) (hfs_38)) (cwV 2 hts zgL_law_X12_dirty_258 rfl rfl rfl (by decide +kernel) ⟨Nat.le_of_ble_eq_true rfl, Nat.le_of_ble_eq_true rfl⟩) (pv_w hP hD hK hG [0] rfl rfl rfl 0 rfl rfl) rfl rfl hl.1 rfl (lv_room (Nat.le_of_ble_eq_true rfl)) dL_law_2541 ⟨Nat.le_of_ble_eq_true rfl, Nat.le_of_ble_eq_true rfl⟩) hS (fun q _ h => hF q h) hF (fun r_6 uu9 tt9 H locs ht hvm wr_6 hB hz1 hk1 hS => ?_)
  obtain ⟨gs_7, hgs_7, hgs_7_0, hP1, hD1⟩ := hB
  rw [ht] at hP1
  obtain ⟨hP, hD⟩ := va_join (wr := []) (w1 := [(m0, .inr (12, gs_7))]) hP hD [0] [] rfl rfl (by decide) (by decide) hk1 hF hP1 hD1
  have hP : va_P D vwCl [(m0, .inr (12, gs_7))] _ := hP
  have hD : va_D A [(m0, .inr (12, gs_7))] := hD
  refine lv_istore (lv' := [(6, .int r_6), (5, .int 1), (4, .int 0), (3, .ref o9), (2, .ref m0), (1, .ref h0), (0, .ref b)]) hx hb dL_law_2544 hl (by decide) rfl (fun ls hl => ?_)
  refine lv_aload_n hx hb dL_law_2546 rfl (lv_at hl 4 rfl) ?_
  have hF := va_free (wc := [(m0, .inr (12, gs_7))]) hD hS hA [0] rfl
  refine va_calli (va_runV (As := []) (rest := []) ⟨hx, hb, hml, hown, hts⟩ (c_X12_thrown l D cT m0 gs_7 1 _ (hgs_7) (hgs_7_0)) (cwV 0 hts zgL_law_X12_thrown_149 rfl rfl rfl (by decide +kernel) ⟨Nat.le_of_ble_eq_true rfl, Nat.le_of_ble_eq_true rfl⟩) (pv_w hP hD hK hG [0] rfl rfl rfl 0 rfl rfl) rfl rfl hl.1 rfl (lv_room (Nat.le_of_ble_eq_true rfl)) dL_law_2547 ⟨Nat.le_of_ble_eq_true rfl, Nat.le_of_ble_eq_true rfl⟩) hS (fun q _ h => hF q h) hF (fun r_10 uu9 tt9 H locs ht hvm wr_10 hB hz1 hk1 hS => ?_)
  obtain ⟨hP1, hD1⟩ := hB
  rw [ht] at hP1
  obtain ⟨hP, hD⟩ := va_join (wr := []) (w1 := [(m0, .inr (12, gs_7))]) hP hD [0] [] rfl rfl (by decide) (by decide) hk1 hF hP1 hD1
  have hP : va_P D vwCl [(m0, .inr (12, gs_7))] _ := hP
  have hD : va_D A [(m0, .inr (12, gs_7))] := hD
  obtain rfl : r_10 = 1 := wr_10.trans (rfl)
  refine lv_iload hx hb dL_law_2550 (lv_at hl 1 rfl) ?_
  refine lv_icmp_eq (tgt := 2557) hx hb dL_law_2552 (by decide) (fun _ => ?_) (fun c9 => absurd c9 (by decide))
  refine lv_iload hx hb dL_law_2557 (lv_at hl 1 rfl) ?_
  refine lv_if_ne (tgt := 2574) hx hb dL_law_2559 (by decide) (fun _ => ?_) (fun c9 => absurd c9 (by decide))
  refine lv_goto (tgt := 3043) hx hb dL_law_2574 (by decide) ?_
  exact law_end C0 hA hAl hS (lv_sub hl [2, 6] rfl) (Nat.le_of_ble_eq_true rfl) (Nat.le_of_ble_eq_true rfl)
theorem dL_law_2577 : decode cL_law 2577 = .ok (.aload_n 1, 1) := by decide +kernel
theorem dL_law_2578 : decode cL_law 2578 = .ok (.aload_n 0, 1) := by decide +kernel
theorem dL_law_2579 : decode cL_law 2579 = .ok (.iload 4, 2) := by decide +kernel
theorem dL_law_2581 : decode cL_law 2581 = .ok (.iconst 1, 1) := by decide +kernel
theorem dL_law_2582 : decode cL_law 2582 = .ok (.iadd, 1) := by decide +kernel
theorem dL_law_2583 : decode cL_law 2583 = .ok (.iaload, 1) := by decide +kernel
theorem dL_law_2584 : decode cL_law 2584 = .ok (.aload_n 3, 1) := by decide +kernel
theorem dL_law_2585 : decode cL_law 2585 = .ok (.invokestatic 259, 3) := by decide +kernel
theorem dL_law_2588 : decode cL_law 2588 = .ok (.istore 5, 2) := by decide +kernel
theorem dL_law_2590 : decode cL_law 2590 = .ok (.aload_n 2, 1) := by decide +kernel
theorem dL_law_2591 : decode cL_law 2591 = .ok (.aload_n 0, 1) := by decide +kernel
theorem dL_law_2592 : decode cL_law 2592 = .ok (.iload 4, 2) := by decide +kernel
theorem dL_law_2594 : decode cL_law 2594 = .ok (.iconst 1, 1) := by decide +kernel
theorem dL_law_2595 : decode cL_law 2595 = .ok (.iadd, 1) := by decide +kernel
theorem dL_law_2596 : decode cL_law 2596 = .ok (.iaload, 1) := by decide +kernel
theorem dL_law_2597 : decode cL_law 2597 = .ok (.invokevirtual 261, 3) := by decide +kernel
theorem dL_law_2600 : decode cL_law 2600 = .ok (.istore 6, 2) := by decide +kernel
theorem dL_law_2602 : decode cL_law 2602 = .ok (.aload_n 2, 1) := by decide +kernel
theorem dL_law_2603 : decode cL_law 2603 = .ok (.invokevirtual 149, 3) := by decide +kernel
theorem dL_law_2606 : decode cL_law 2606 = .ok (.iload 5, 2) := by decide +kernel
theorem dL_law_2608 : decode cL_law 2608 = .ok (.if_icmp .eq 5, 3) := by decide +kernel
theorem dL_law_2613 : decode cL_law 2613 = .ok (.iload 5, 2) := by decide +kernel
theorem dL_law_2615 : decode cL_law 2615 = .ok (.ifCond .ne 15, 3) := by decide +kernel
theorem dL_law_2618 : decode cL_law 2618 = .ok (.aload_n 3, 1) := by decide +kernel
theorem dL_law_2619 : decode cL_law 2619 = .ok (.iconst 0, 1) := by decide +kernel
theorem dL_law_2620 : decode cL_law 2620 = .ok (.laload, 1) := by decide +kernel
theorem dL_law_2621 : decode cL_law 2621 = .ok (.iload 6, 2) := by decide +kernel
theorem dL_law_2623 : decode cL_law 2623 = .ok (.i2l, 1) := by decide +kernel
theorem dL_law_2624 : decode cL_law 2624 = .ok (.lcmp, 1) := by decide +kernel
theorem dL_law_2625 : decode cL_law 2625 = .ok (.ifCond .eq 5, 3) := by decide +kernel
theorem dL_law_2630 : decode cL_law 2630 = .ok (.goto 413, 3) := by decide +kernel
set_option maxRecDepth 100000 in
theorem zgL_law_L_animator_259_w : GoodIn lw_tbl wsL_animator := goodIn_app (goodIn_sub (ws := [.codeWith yL_animator cL_animator 4 (some .int) [(0, 9, 12, 15)]]) (fun _ h9 => List.mem_singleton.mp h9 ▸ List.mem_of_getElem? (i := 1787) rfl) (by decide +kernel)) (goodIn_app (goodIn_app (goodIn_app (goodIn_sub (ws := [.classLink RL 15 "java/lang/IllegalArgumentException", .methodLink RL 113 yX11_animator, .instanceMethod yX11_animator, .selects RX11 yX11_animator yX11_animator, .initialized RX11, .code yX11_animator cX11_animator 2 (some .int), .fieldLink RX11 60 "PuppetFilm" "floor" "LPuppetFilm$Floor;", .methodLink RX11 97 yX11_within, .static yX11_within, .code yX11_within cX11_within 3 (some .boolean), .methodLink RX11 93 yX11_need, .static yX11_need, .code yX11_need cX11_need 1 none, .classLink RX11 192 "java/lang/IllegalArgumentException", .initialized "java/lang/IllegalArgumentException", .methodLink RX11 358 yX1_addAnimator, .instanceMethod yX1_addAnimator, .selects RX1 yX1_addAnimator yX1_addAnimator, .initialized RX1, .code yX1_addAnimator cX1_addAnimator 3 (some .int), .fieldLink RX1 69 "PuppetFilm$Floor" "animators" "I", .fieldLink RX1 39 "PuppetFilm$Floor" "limits" "[I"]) (mem_ps [849, 1788, 1789, 1790, 118, 1791, 560, 953, 758, 759, 934, 935, 936, 937, 135, 1792, 1793, 1794, 128, 1795, 510, 512] (by decide +kernel)) (by decide +kernel)) zgC_X11) zgC_X1) zgF_196)
set_option maxRecDepth 100000 in
theorem zgL_law_L_animator_259 : GoodIn lw_tbl (va_wsS RL 259 yL_animator wsL_animator) := goodIn_app (goodIn_sub (mem_ps [1785, 1786, 117] (by decide +kernel)) (by decide +kernel)) zgL_law_L_animator_259_w
set_option maxRecDepth 100000 in
theorem zgL_law_X12_animator_261_w : GoodIn lw_tbl wsX12_animator := goodIn_app (goodIn_sub (ws := [.code yX12_animator cX12_animator 2 (some .int)]) (fun _ h9 => List.mem_singleton.mp h9 ▸ List.mem_of_getElem? (i := 2565) rfl) (by decide +kernel)) (goodIn_app (goodIn_sub (ws := [.fieldLink RX12 1 "PuppetFilmModel" "thrown" "I", .fieldLink RX12 525 "PuppetFilmModel" "animators" "I", .fieldLink RX12 207 "PuppetFilmModel" "most" "[I", .methodLink RX12 267 yX12_within, .static yX12_within, .initialized RX12, .code yX12_within cX12_within 3 (some .boolean), .methodLink RX12 271 yX12_may, .instanceMethod yX12_may, .selects RX12 yX12_may yX12_may, .code yX12_may cX12_may 3 (some .boolean)]) (mem_ps [1882, 1970, 1971, 2222, 2223, 129, 2224, 2225, 2227, 63, 2228] (by decide +kernel)) (by decide +kernel)) zgC_X12)
set_option maxRecDepth 100000 in
theorem zgL_law_X12_animator_261 : GoodIn lw_tbl (wsV RL 261 RX12 yX12_animator wsX12_animator) := goodIn_app (goodIn_sub (mem_ps [2562, 2563, 2564, 129] (by decide +kernel)) (by decide +kernel)) zgL_law_X12_animator_261_w
set_option maxHeartbeats 8000000 in
set_option maxRecDepth 100000 in
/-- the law: animator -/
theorem law_case_34 {p : Program} {l : Launch} {e : Env} {s : State} {m : MethodId} {below : List Frame} {meth : Method} {c : Code} {D : va_G} {cT : Nat → ClassId} {b : Nat} {xs : Nat → Int32} {A : Nat → Prop} (hst : l.stackTraces = false) (C0 : lw_At p s m meth c b 7 xs) (hA : ∀ q : Nat, s.heap.size ≤ q → A q) (hAl : ∀ q, A q → s.heap.size ≤ q) (hK : va_K D vwCl (TY cT) s) (hG : GW s) (hZ : GZ A s s.heap) {h0 : Nat} {m0 : Nat} {o9 : Nat} {x_studio : Nat} {x_script : Nat} {x_teller : Nat} {x_planner : Nat} {x_plan : Nat} {x_drifts : Nat} {x_floor : Nat} {x_trial : Nat} {x_tape : Nat} {f_studio : Nat} {f_taken : Nat} {f_on : Nat} {f_queues : Nat} {f_queued : Nat} {f_engaged : Nat} {f_dressing : Nat} {f_dressed : Nat} {f_standing : Nat} {f_stations : Nat} {f_limits : Nat} {f_worked : Nat} {fs : List Value} {m_most : Nat} {fo : Nat → Int64} (hfs : fs.length = 109) (hfs_0 : fs[0]? = some (.int 0)) (hfs_88 : fs[88]? = some (.int 0)) (hfs_89 : fs[89]? = some (.ref m_most)) {H : Heap} {locs : List Loc} (hP : va_P D vwCl [(h0, .inr (11, [.ref x_studio, .ref x_script, .ref x_teller, .ref x_planner, .ref x_plan, .ref x_drifts, .ref x_floor, .ref x_trial, .ref x_tape, .int 0, .int (-1)])), (x_floor, .inr (1, [.ref f_studio, .int 1, .int 0, .ref f_taken, .ref f_on, .ref f_queues, .ref f_queued, .ref f_engaged, .ref f_dressing, .ref f_dressed, .ref f_standing, .ref f_stations, .int 0, .ref f_limits, .ref f_worked, .int 0, .int 0, .int 0])), (f_limits, .inl (cT 0, 6, .inl (fun _ => 0))), (m0, .inr (12, fs)), (m_most, .inl (cT 0, 6, .inl (fun _ => 0))), (o9, .inl (cT 2, 1, .inr (.inl fo)))] H) (hD : va_D A [(h0, .inr (11, [.ref x_studio, .ref x_script, .ref x_teller, .ref x_planner, .ref x_plan, .ref x_drifts, .ref x_floor, .ref x_trial, .ref x_tape, .int 0, .int (-1)])), (x_floor, .inr (1, [.ref f_studio, .int 1, .int 0, .ref f_taken, .ref f_on, .ref f_queues, .ref f_queued, .ref f_engaged, .ref f_dressing, .ref f_dressed, .ref f_standing, .ref f_stations, .int 0, .ref f_limits, .ref f_worked, .int 0, .int 0, .int 0])), (f_limits, .inl (cT 0, 6, .inl (fun _ => 0))), (m0, .inr (12, fs)), (m_most, .inl (cT 0, 6, .inl (fun _ => 0))), (o9, .inl (cT 2, 1, .inr (.inl fo)))]) (hS : va_S A s.heap H locs) {ls : Array Slot} (hl : lv_has ls 7 [(4, .int 0), (3, .ref o9), (2, .ref m0), (1, .ref h0), (0, .ref b)]) : W p l e room_1 s m #[Value.ref b] below meth c H locs 215 539454 (lw_Z below #[Value.ref b] s) (F0 m 2577 ls []) := by
  obtain ⟨hx, hb, hr, hml, hown, hts0, hX, hbl, hlocks, hgv⟩ := id C0
  have hts := hts0
  have hbA : ¬ A b := fun h => absurd (hAl b h) (Nat.not_le.mpr hbl)
  have hown : s.vm.findClass RL = some m.cls := hown
  have hb : c.code = cL_law := hb
  refine lv_aload_n hx hb dL_law_2577 rfl (lv_at hl 3 rfl) ?_
  refine lv_aload_n hx hb dL_law_2578 rfl (lv_at hl 4 rfl) ?_
  refine lv_iload hx hb dL_law_2579 (lv_at hl 0 rfl) ?_
  refine lv_iconst (v := 1) hx hb dL_law_2581 (by decide) ?_
  refine lv_iadd hx hb dL_law_2582 ?_
  refine lv_topi (fun z_1 ez_1 => ?_)
  obtain rfl : z_1 = 1 := ez_1.trans (by decide)
  refine va_sld hx hb hX hbl hbA hS (by unfold vp_in; decide) dL_law_2583 ?_
  refine lv_aload_n hx hb dL_law_2584 rfl (lv_at hl 1 rfl) ?_
  have hF := va_free (wc := [(h0, .inr (11, [.ref x_studio, .ref x_script, .ref x_teller, .ref x_planner, .ref x_plan, .ref x_drifts, .ref x_floor, .ref x_trial, .ref x_tape, .int 0, .int (-1)])), (x_floor, .inr (1, [.ref f_studio, .int 1, .int 0, .ref f_taken, .ref f_on, .ref f_queues, .ref f_queued, .ref f_engaged, .ref f_dressing, .ref f_dressed, .ref f_standing, .ref f_stations, .int 0, .ref f_limits, .ref f_worked, .int 0, .int 0, .int 0])), (f_limits, .inl (cT 0, 6, .inl (fun _ => 0))), (o9, .inl (cT 2, 1, .inr (.inl fo)))]) hD hS hA [0, 1, 2, 5] rfl
  refine va_calli (vx_runSW (As := [.ref h0, .int (xs (Int32.toNatClampNeg 1)), .ref o9]) (rest := []) ⟨hx, hb, hml, hown, hts⟩ (c_L_animator l hst D cT h0 (xs (Int32.toNatClampNeg 1)) o9 x_studio x_script x_teller x_planner x_plan x_drifts x_floor x_trial x_tape f_studio f_taken f_on f_queues f_queued f_engaged f_dressing f_dressed f_standing f_stations f_limits f_worked fo _ ) (vx_cwSW 3 hts zgL_law_L_animator_259 rfl rfl rfl (by decide +kernel) ⟨Nat.le_of_ble_eq_true rfl, Nat.le_of_ble_eq_true rfl⟩) (ps_z hP hD hK hG hZ hS hF [0, 1, 2, 5] rfl rfl rfl) rfl rfl hl.1 rfl (lv_room (Nat.le_of_ble_eq_true rfl)) dL_law_2585 ⟨Nat.le_of_ble_eq_true rfl, Nat.le_of_ble_eq_true rfl⟩) hS (fun q _ h => hF q h) hF (fun r_2 uu9 tt9 H locs ht hvm wr_2 hB hz1 hk1 hS => ?_)
  obtain ⟨go_3, k_4, hP1, hD1⟩ := hB
  rw [ht] at hP1
  obtain ⟨hP, hD⟩ := va_join (wr := [(m0, .inr (12, fs)), (m_most, .inl (cT 0, 6, .inl (fun _ => 0)))]) (w1 := [(o9, .inl (cT 2, 1, .inr (.inl go_3)))]) hP hD [0, 1, 2, 5] [3, 4] rfl rfl (by decide) (by decide) hk1 hF hP1 hD1
  have hP : va_P D vwCl [(m0, .inr (12, fs)), (m_most, .inl (cT 0, 6, .inl (fun _ => 0))), (o9, .inl (cT 2, 1, .inr (.inl go_3)))] _ := hP
  have hD : va_D A [(m0, .inr (12, fs)), (m_most, .inl (cT 0, 6, .inl (fun _ => 0))), (o9, .inl (cT 2, 1, .inr (.inl go_3)))] := hD
  refine W.widen (k := 216) (n := 539460) (Nat.le_of_ble_eq_true rfl) (Nat.le_of_ble_eq_true rfl) ?_
  refine lv_istore (lv' := [(5, .int r_2), (4, .int 0), (3, .ref o9), (2, .ref m0), (1, .ref h0), (0, .ref b)]) hx hb dL_law_2588 hl (by decide) rfl (fun ls hl => ?_)
  refine lv_aload_n hx hb dL_law_2590 rfl (lv_at hl 3 rfl) ?_
  refine lv_aload_n hx hb dL_law_2591 rfl (lv_at hl 5 rfl) ?_
  refine lv_iload hx hb dL_law_2592 (lv_at hl 1 rfl) ?_
  refine lv_iconst (v := 1) hx hb dL_law_2594 (by decide) ?_
  refine lv_iadd hx hb dL_law_2595 ?_
  refine lv_topi (fun z_5 ez_5 => ?_)
  obtain rfl : z_5 = 1 := ez_5.trans (by decide)
  refine va_sld hx hb hX hbl hbA hS (by unfold vp_in; decide) dL_law_2596 ?_
  have hF := va_free (wc := [(m0, .inr (12, fs)), (m_most, .inl (cT 0, 6, .inl (fun _ => 0)))]) hD hS hA [0, 1] rfl
  refine va_calli (va_runV (As := [.int (xs (Int32.toNatClampNeg 1))]) (rest := []) ⟨hx, hb, hml, hown, hts⟩ (c_X12_animator l D cT m0 (xs (Int32.toNatClampNeg 1)) fs 0 m_most _ (hfs) (hfs_0) (hfs_88) (hfs_89)) (cwV 1 hts zgL_law_X12_animator_261 rfl rfl rfl (by decide +kernel) ⟨Nat.le_of_ble_eq_true rfl, Nat.le_of_ble_eq_true rfl⟩) (pv_w hP hD hK hG [0, 1] rfl rfl rfl 0 rfl rfl) rfl rfl hl.1 rfl (lv_room (Nat.le_of_ble_eq_true rfl)) dL_law_2597 ⟨Nat.le_of_ble_eq_true rfl, Nat.le_of_ble_eq_true rfl⟩) hS (fun q _ h => hF q h) hF (fun r_6 uu9 tt9 H locs ht hvm wr_6 hB hz1 hk1 hS => ?_)
  obtain ⟨gs_7, tt_8, hgs_7, hgs_7_0, k_11, hP1, hD1⟩ := hB
  rw [ht] at hP1
  obtain ⟨hP, hD⟩ := va_join (wr := [(o9, .inl (cT 2, 1, .inr (.inl go_3)))]) (w1 := [(m0, .inr (12, gs_7))]) hP hD [0, 1] [2] rfl rfl (by decide) (by decide) hk1 hF hP1 hD1
  have hP : va_P D vwCl [(o9, .inl (cT 2, 1, .inr (.inl go_3))), (m0, .inr (12, gs_7))] _ := hP
  have hD : va_D A [(o9, .inl (cT 2, 1, .inr (.inl go_3))), (m0, .inr (12, gs_7))] := hD
  refine lv_istore (lv' := [(6, .int r_6), (5, .int r_2), (4, .int 0), (3, .ref o9), (2, .ref m0), (1, .ref h0), (0, .ref b)]) hx hb dL_law_2600 hl (by decide) rfl (fun ls hl => ?_)
  refine lv_aload_n hx hb dL_law_2602 rfl (lv_at hl 4 rfl) ?_
  have hF := va_free (wc := [(m0, .inr (12, gs_7))]) hD hS hA [1] rfl
  refine va_calli (va_runV (As := []) (rest := []) ⟨hx, hb, hml, hown, hts⟩ (c_X12_thrown l D cT m0 gs_7 tt_8 _ (hgs_7) (hgs_7_0)) (cwV 0 hts zgL_law_X12_thrown_149 rfl rfl rfl (by decide +kernel) ⟨Nat.le_of_ble_eq_true rfl, Nat.le_of_ble_eq_true rfl⟩) (pv_w hP hD hK hG [1] rfl rfl rfl 1 rfl rfl) rfl rfl hl.1 rfl (lv_room (Nat.le_of_ble_eq_true rfl)) dL_law_2603 ⟨Nat.le_of_ble_eq_true rfl, Nat.le_of_ble_eq_true rfl⟩) hS (fun q _ h => hF q h) hF (fun r_12 uu9 tt9 H locs ht hvm wr_12 hB hz1 hk1 hS => ?_)
  obtain ⟨hP1, hD1⟩ := hB
  rw [ht] at hP1
  obtain ⟨hP, hD⟩ := va_join (wr := [(o9, .inl (cT 2, 1, .inr (.inl go_3)))]) (w1 := [(m0, .inr (12, gs_7))]) hP hD [1] [0] rfl rfl (by decide) (by decide) hk1 hF hP1 hD1
  have hP : va_P D vwCl [(o9, .inl (cT 2, 1, .inr (.inl go_3))), (m0, .inr (12, gs_7))] _ := hP
  have hD : va_D A [(o9, .inl (cT 2, 1, .inr (.inl go_3))), (m0, .inr (12, gs_7))] := hD
  refine lv_iload hx hb dL_law_2606 (lv_at hl 1 rfl) ?_
  refine lv_icmp_eq (tgt := 2613) hx hb dL_law_2608 (by decide) (fun c_13 => ?_) (fun c_13 => ((c_13 (Eq.trans (wr_12.trans k_11) (Eq.symm wr_2)) : False)).elim)
  refine lv_iload hx hb dL_law_2613 (lv_at hl 1 rfl) ?_
  refine lv_if_ne (tgt := 2630) hx hb dL_law_2615 (by decide) (fun c_14 => ?_) (fun c_14 => ?_)
  · refine lv_goto (tgt := 3043) hx hb dL_law_2630 (by decide) ?_
    exact law_end C0 hA hAl hS (lv_sub hl [2, 6] rfl) (Nat.le_of_ble_eq_true rfl) (Nat.le_of_ble_eq_true rfl)
  · refine lv_aload_n hx hb dL_law_2618 rfl (lv_at hl 3 rfl) ?_
    refine lv_iconst (v := 0) hx hb dL_law_2619 (by decide) ?_
    refine va_lald hx hb hK hP 0 2 rfl rfl (by unfold vp_in; decide) dL_law_2620 ?_
    refine lv_topl (fun j_15 ej_15 => ?_)
    refine lv_iload hx hb dL_law_2621 (lv_at hl 0 rfl) ?_
    obtain ⟨j_16, ej_16⟩ : ∃ y : Int64, y = (r_6).toInt64 := ⟨_, rfl⟩
    refine lv_i2l (v := j_16) hx hb dL_law_2623 ej_16.symm ?_
    refine W.lcmp hx hb dL_law_2624 ?_
    refine lv_topi (fun x_17 ex_17 => ?_)
    refine lv_if_eq (tgt := 2630) hx hb dL_law_2625 (by decide) (fun c_18 => ?_) (fun c_18 => ((c_18 (ex_17.trans ((congr (congrArg lg_cmp (ej_15.trans (k_4 (Eq.trans (Eq.symm wr_2) c_14)))) (ej_16.trans (congrArg Int32.toInt64 (wr_6 (Eq.trans (Eq.symm wr_2) c_14))))).trans (lcmp_self _))) : False)).elim)
    refine lv_goto (tgt := 3043) hx hb dL_law_2630 (by decide) ?_
    exact law_end C0 hA hAl hS (lv_sub hl [2, 6] rfl) (Nat.le_of_ble_eq_true rfl) (Nat.le_of_ble_eq_true rfl)
theorem dL_law_2633 : decode cL_law 2633 = .ok (.aload_n 1, 1) := by decide +kernel
theorem dL_law_2634 : decode cL_law 2634 = .ok (.aload_n 0, 1) := by decide +kernel
theorem dL_law_2635 : decode cL_law 2635 = .ok (.iload 4, 2) := by decide +kernel
theorem dL_law_2637 : decode cL_law 2637 = .ok (.iconst 1, 1) := by decide +kernel
theorem dL_law_2638 : decode cL_law 2638 = .ok (.iadd, 1) := by decide +kernel
theorem dL_law_2639 : decode cL_law 2639 = .ok (.iaload, 1) := by decide +kernel
theorem dL_law_2640 : decode cL_law 2640 = .ok (.aload_n 0, 1) := by decide +kernel
theorem dL_law_2641 : decode cL_law 2641 = .ok (.iload 4, 2) := by decide +kernel
theorem dL_law_2643 : decode cL_law 2643 = .ok (.iconst 2, 1) := by decide +kernel
theorem dL_law_2644 : decode cL_law 2644 = .ok (.iadd, 1) := by decide +kernel
theorem dL_law_2645 : decode cL_law 2645 = .ok (.iaload, 1) := by decide +kernel
theorem dL_law_2646 : decode cL_law 2646 = .ok (.aload_n 3, 1) := by decide +kernel
theorem dL_law_2647 : decode cL_law 2647 = .ok (.invokestatic 262, 3) := by decide +kernel
theorem dL_law_2650 : decode cL_law 2650 = .ok (.istore 5, 2) := by decide +kernel
theorem dL_law_2652 : decode cL_law 2652 = .ok (.aload_n 2, 1) := by decide +kernel
theorem dL_law_2653 : decode cL_law 2653 = .ok (.aload_n 0, 1) := by decide +kernel
theorem dL_law_2654 : decode cL_law 2654 = .ok (.iload 4, 2) := by decide +kernel
theorem dL_law_2656 : decode cL_law 2656 = .ok (.iconst 1, 1) := by decide +kernel
theorem dL_law_2657 : decode cL_law 2657 = .ok (.iadd, 1) := by decide +kernel
theorem dL_law_2658 : decode cL_law 2658 = .ok (.iaload, 1) := by decide +kernel
theorem dL_law_2659 : decode cL_law 2659 = .ok (.aload_n 0, 1) := by decide +kernel
theorem dL_law_2660 : decode cL_law 2660 = .ok (.iload 4, 2) := by decide +kernel
theorem dL_law_2662 : decode cL_law 2662 = .ok (.iconst 2, 1) := by decide +kernel
theorem dL_law_2663 : decode cL_law 2663 = .ok (.iadd, 1) := by decide +kernel
theorem dL_law_2664 : decode cL_law 2664 = .ok (.iaload, 1) := by decide +kernel
theorem dL_law_2665 : decode cL_law 2665 = .ok (.invokevirtual 264, 3) := by decide +kernel
theorem dL_law_2668 : decode cL_law 2668 = .ok (.istore 6, 2) := by decide +kernel
theorem dL_law_2670 : decode cL_law 2670 = .ok (.aload_n 2, 1) := by decide +kernel
theorem dL_law_2671 : decode cL_law 2671 = .ok (.invokevirtual 149, 3) := by decide +kernel
theorem dL_law_2674 : decode cL_law 2674 = .ok (.iload 5, 2) := by decide +kernel
theorem dL_law_2676 : decode cL_law 2676 = .ok (.if_icmp .eq 5, 3) := by decide +kernel
theorem dL_law_2681 : decode cL_law 2681 = .ok (.iload 5, 2) := by decide +kernel
theorem dL_law_2683 : decode cL_law 2683 = .ok (.ifCond .ne 15, 3) := by decide +kernel
theorem dL_law_2686 : decode cL_law 2686 = .ok (.aload_n 3, 1) := by decide +kernel
theorem dL_law_2687 : decode cL_law 2687 = .ok (.iconst 0, 1) := by decide +kernel
theorem dL_law_2688 : decode cL_law 2688 = .ok (.laload, 1) := by decide +kernel
theorem dL_law_2689 : decode cL_law 2689 = .ok (.iload 6, 2) := by decide +kernel
theorem dL_law_2691 : decode cL_law 2691 = .ok (.i2l, 1) := by decide +kernel
theorem dL_law_2692 : decode cL_law 2692 = .ok (.lcmp, 1) := by decide +kernel
theorem dL_law_2693 : decode cL_law 2693 = .ok (.ifCond .eq 5, 3) := by decide +kernel
theorem dL_law_2698 : decode cL_law 2698 = .ok (.goto 345, 3) := by decide +kernel
set_option maxRecDepth 100000 in
theorem zgL_law_wsL_station_r1 : GoodIn lw_tbl wsL_station_r1 := goodIn_sub (mem_ps [848, 849, 1799, 1800, 1801, 118, 1802, 560, 511, 509, 1803, 1804, 1805, 862, 134, 953, 758, 759, 934, 935, 936, 937, 135, 979] rfl) (by decide +kernel)
set_option maxRecDepth 100000 in
theorem zgL_law_wsL_station_r2 : GoodIn lw_tbl wsL_station_r2 := goodIn_sub (mem_ps [771, 772] rfl) (by decide +kernel)
set_option maxRecDepth 100000 in
theorem zgL_law_L_station_262_w : GoodIn lw_tbl wsL_station := goodIn_app (goodIn_sub (ws := [.codeWith yL_station cL_station 5 (some .int) [(0, 10, 13, 13), (0, 10, 17, 15)]]) (fun _ h9 => List.mem_singleton.mp h9 ▸ List.mem_of_getElem? (i := 1798) rfl) (by decide +kernel)) (goodIn_app (goodIn_app (goodIn_app (goodIn_app (goodIn_app zgL_law_wsL_station_r1 zgL_law_wsL_station_r2) zgC_X11) zgC_X1) zgF_350) zgF_196)
set_option maxRecDepth 100000 in
theorem zgL_law_L_station_262 : GoodIn lw_tbl (va_wsS RL 262 yL_station wsL_station) := goodIn_app (goodIn_sub (mem_ps [1796, 1797, 117] (by decide +kernel)) (by decide +kernel)) zgL_law_L_station_262_w
set_option maxRecDepth 100000 in
theorem zgL_law_X12_station_264_w : GoodIn lw_tbl wsX12_station := goodIn_app (goodIn_sub (ws := [.code yX12_station cX12_station 4 (some .int)]) (fun _ h9 => List.mem_singleton.mp h9 ▸ List.mem_of_getElem? (i := 2569) rfl) (by decide +kernel)) (goodIn_app (goodIn_sub (ws := [.fieldLink RX12 1 "PuppetFilmModel" "thrown" "I", .fieldLink RX12 525 "PuppetFilmModel" "animators" "I", .fieldLink RX12 216 "PuppetFilmModel" "station" "[I", .methodLink RX12 267 yX12_within, .static yX12_within, .initialized RX12, .code yX12_within cX12_within 3 (some .boolean), .methodLink RX12 271 yX12_may, .instanceMethod yX12_may, .selects RX12 yX12_may yX12_may, .code yX12_may cX12_may 3 (some .boolean)]) (mem_ps [1882, 1970, 1974, 2222, 2223, 129, 2224, 2225, 2227, 63, 2228] (by decide +kernel)) (by decide +kernel)) zgC_X12)
set_option maxRecDepth 100000 in
theorem zgL_law_X12_station_264 : GoodIn lw_tbl (wsV RL 264 RX12 yX12_station wsX12_station) := goodIn_app (goodIn_sub (mem_ps [2566, 2567, 2568, 129] (by decide +kernel)) (by decide +kernel)) zgL_law_X12_station_264_w
set_option maxHeartbeats 8000000 in
set_option maxRecDepth 100000 in
/-- the law: station -/
theorem law_case_35 {p : Program} {l : Launch} {e : Env} {s : State} {m : MethodId} {below : List Frame} {meth : Method} {c : Code} {D : va_G} {cT : Nat → ClassId} {b : Nat} {xs : Nat → Int32} {A : Nat → Prop} (hst : l.stackTraces = false) (C0 : lw_At p s m meth c b 7 xs) (hA : ∀ q : Nat, s.heap.size ≤ q → A q) (hAl : ∀ q, A q → s.heap.size ≤ q) (hK : va_K D vwCl (TY cT) s) (hG : GW s) (hZ : GZ A s s.heap) {h0 : Nat} {m0 : Nat} {o9 : Nat} {x_studio : Nat} {x_script : Nat} {x_teller : Nat} {x_planner : Nat} {x_plan : Nat} {x_drifts : Nat} {x_floor : Nat} {x_trial : Nat} {x_tape : Nat} {f_studio : Nat} {f_taken : Nat} {f_on : Nat} {f_queues : Nat} {f_queued : Nat} {f_engaged : Nat} {f_dressing : Nat} {f_dressed : Nat} {f_standing : Nat} {f_stations : Nat} {f_limits : Nat} {f_worked : Nat} {fst : Nat → Int32} {fs : List Value} {m_station : Nat} {mst : Nat → Int32} {fo : Nat → Int64} (q0 : ∀ k, k < 3 → fst k = -1) (q1 : ∀ k, k < 3 → mst k = -1) (hfs : fs.length = 109) (hfs_0 : fs[0]? = some (.int 0)) (hfs_88 : fs[88]? = some (.int 0)) (hfs_92 : fs[92]? = some (.ref m_station)) {H : Heap} {locs : List Loc} (hP : va_P D vwCl [(h0, .inr (11, [.ref x_studio, .ref x_script, .ref x_teller, .ref x_planner, .ref x_plan, .ref x_drifts, .ref x_floor, .ref x_trial, .ref x_tape, .int 0, .int (-1)])), (x_floor, .inr (1, [.ref f_studio, .int 1, .int 0, .ref f_taken, .ref f_on, .ref f_queues, .ref f_queued, .ref f_engaged, .ref f_dressing, .ref f_dressed, .ref f_standing, .ref f_stations, .int 0, .ref f_limits, .ref f_worked, .int 0, .int 0, .int 0])), (f_stations, .inl (cT 0, 3, .inl fst)), (m0, .inr (12, fs)), (m_station, .inl (cT 0, 3, .inl mst)), (o9, .inl (cT 2, 1, .inr (.inl fo)))] H) (hD : va_D A [(h0, .inr (11, [.ref x_studio, .ref x_script, .ref x_teller, .ref x_planner, .ref x_plan, .ref x_drifts, .ref x_floor, .ref x_trial, .ref x_tape, .int 0, .int (-1)])), (x_floor, .inr (1, [.ref f_studio, .int 1, .int 0, .ref f_taken, .ref f_on, .ref f_queues, .ref f_queued, .ref f_engaged, .ref f_dressing, .ref f_dressed, .ref f_standing, .ref f_stations, .int 0, .ref f_limits, .ref f_worked, .int 0, .int 0, .int 0])), (f_stations, .inl (cT 0, 3, .inl fst)), (m0, .inr (12, fs)), (m_station, .inl (cT 0, 3, .inl mst)), (o9, .inl (cT 2, 1, .inr (.inl fo)))]) (hS : va_S A s.heap H locs) {ls : Array Slot} (hl : lv_has ls 7 [(4, .int 0), (3, .ref o9), (2, .ref m0), (1, .ref h0), (0, .ref b)]) : W p l e room_1 s m #[Value.ref b] below meth c H locs 215 539454 (lw_Z below #[Value.ref b] s) (F0 m 2633 ls []) := by
  obtain ⟨hx, hb, hr, hml, hown, hts0, hX, hbl, hlocks, hgv⟩ := id C0
  have hts := hts0
  have hbA : ¬ A b := fun h => absurd (hAl b h) (Nat.not_le.mpr hbl)
  have hown : s.vm.findClass RL = some m.cls := hown
  have hb : c.code = cL_law := hb
  refine lv_aload_n hx hb dL_law_2633 rfl (lv_at hl 3 rfl) ?_
  refine lv_aload_n hx hb dL_law_2634 rfl (lv_at hl 4 rfl) ?_
  refine lv_iload hx hb dL_law_2635 (lv_at hl 0 rfl) ?_
  refine lv_iconst (v := 1) hx hb dL_law_2637 (by decide) ?_
  refine lv_iadd hx hb dL_law_2638 ?_
  refine lv_topi (fun z_1 ez_1 => ?_)
  obtain rfl : z_1 = 1 := ez_1.trans (by decide)
  refine va_sld hx hb hX hbl hbA hS (by unfold vp_in; decide) dL_law_2639 ?_
  refine lv_aload_n hx hb dL_law_2640 rfl (lv_at hl 4 rfl) ?_
  refine lv_iload hx hb dL_law_2641 (lv_at hl 0 rfl) ?_
  refine lv_iconst (v := 2) hx hb dL_law_2643 (by decide) ?_
  refine lv_iadd hx hb dL_law_2644 ?_
  refine lv_topi (fun z_2 ez_2 => ?_)
  obtain rfl : z_2 = 2 := ez_2.trans (by decide)
  refine va_sld hx hb hX hbl hbA hS (by unfold vp_in; decide) dL_law_2645 ?_
  refine lv_aload_n hx hb dL_law_2646 rfl (lv_at hl 1 rfl) ?_
  have hF := va_free (wc := [(h0, .inr (11, [.ref x_studio, .ref x_script, .ref x_teller, .ref x_planner, .ref x_plan, .ref x_drifts, .ref x_floor, .ref x_trial, .ref x_tape, .int 0, .int (-1)])), (x_floor, .inr (1, [.ref f_studio, .int 1, .int 0, .ref f_taken, .ref f_on, .ref f_queues, .ref f_queued, .ref f_engaged, .ref f_dressing, .ref f_dressed, .ref f_standing, .ref f_stations, .int 0, .ref f_limits, .ref f_worked, .int 0, .int 0, .int 0])), (f_stations, .inl (cT 0, 3, .inl fst)), (o9, .inl (cT 2, 1, .inr (.inl fo)))]) hD hS hA [0, 1, 2, 5] rfl
  refine va_calli (vx_runSW (As := [.ref h0, .int (xs (Int32.toNatClampNeg 1)), .int (xs (Int32.toNatClampNeg 2)), .ref o9]) (rest := []) ⟨hx, hb, hml, hown, hts⟩ (c_L_station l hst D cT h0 (xs (Int32.toNatClampNeg 1)) (xs (Int32.toNatClampNeg 2)) o9 x_studio x_script x_teller x_planner x_plan x_drifts x_floor x_trial x_tape f_studio f_taken f_on f_queues f_queued f_engaged f_dressing f_dressed f_standing f_stations f_limits f_worked fst fo _ (by assumption)) (vx_cwSW 4 hts zgL_law_L_station_262 rfl rfl rfl (by decide +kernel) ⟨Nat.le_of_ble_eq_true rfl, Nat.le_of_ble_eq_true rfl⟩) (ps_z hP hD hK hG hZ hS hF [0, 1, 2, 5] rfl rfl rfl) rfl rfl hl.1 rfl (lv_room (Nat.le_of_ble_eq_true rfl)) dL_law_2647 ⟨Nat.le_of_ble_eq_true rfl, Nat.le_of_ble_eq_true rfl⟩) hS (fun q _ h => hF q h) hF (fun r_3 uu9 tt9 H locs ht hvm wr_3 hB hz1 hk1 hS => ?_)
  obtain ⟨go_4, k_5, hP1, hD1⟩ := hB
  rw [ht] at hP1
  obtain ⟨hP, hD⟩ := va_join (wr := [(m0, .inr (12, fs)), (m_station, .inl (cT 0, 3, .inl mst))]) (w1 := [(o9, .inl (cT 2, 1, .inr (.inl go_4)))]) hP hD [0, 1, 2, 5] [3, 4] rfl rfl (by decide) (by decide) hk1 hF hP1 hD1
  have hP : va_P D vwCl [(m0, .inr (12, fs)), (m_station, .inl (cT 0, 3, .inl mst)), (o9, .inl (cT 2, 1, .inr (.inl go_4)))] _ := hP
  have hD : va_D A [(m0, .inr (12, fs)), (m_station, .inl (cT 0, 3, .inl mst)), (o9, .inl (cT 2, 1, .inr (.inl go_4)))] := hD
  refine W.widen (k := 217) (n := 539466) (Nat.le_of_ble_eq_true rfl) (Nat.le_of_ble_eq_true rfl) ?_
  refine lv_istore (lv' := [(5, .int r_3), (4, .int 0), (3, .ref o9), (2, .ref m0), (1, .ref h0), (0, .ref b)]) hx hb dL_law_2650 hl (by decide) rfl (fun ls hl => ?_)
  refine lv_aload_n hx hb dL_law_2652 rfl (lv_at hl 3 rfl) ?_
  refine lv_aload_n hx hb dL_law_2653 rfl (lv_at hl 5 rfl) ?_
  refine lv_iload hx hb dL_law_2654 (lv_at hl 1 rfl) ?_
  refine lv_iconst (v := 1) hx hb dL_law_2656 (by decide) ?_
  refine lv_iadd hx hb dL_law_2657 ?_
  refine lv_topi (fun z_6 ez_6 => ?_)
  obtain rfl : z_6 = 1 := ez_6.trans (by decide)
  refine va_sld hx hb hX hbl hbA hS (by unfold vp_in; decide) dL_law_2658 ?_
  refine lv_aload_n hx hb dL_law_2659 rfl (lv_at hl 5 rfl) ?_
  refine lv_iload hx hb dL_law_2660 (lv_at hl 1 rfl) ?_
  refine lv_iconst (v := 2) hx hb dL_law_2662 (by decide) ?_
  refine lv_iadd hx hb dL_law_2663 ?_
  refine lv_topi (fun z_7 ez_7 => ?_)
  obtain rfl : z_7 = 2 := ez_7.trans (by decide)
  refine va_sld hx hb hX hbl hbA hS (by unfold vp_in; decide) dL_law_2664 ?_
  have hF := va_free (wc := [(m0, .inr (12, fs)), (m_station, .inl (cT 0, 3, .inl mst))]) hD hS hA [0, 1] rfl
  refine va_calli (va_runV (As := [.int (xs (Int32.toNatClampNeg 1)), .int (xs (Int32.toNatClampNeg 2))]) (rest := []) ⟨hx, hb, hml, hown, hts⟩ (c_X12_station l D cT m0 (xs (Int32.toNatClampNeg 1)) (xs (Int32.toNatClampNeg 2)) fs 0 m_station mst _ (by assumption) (hfs) (hfs_0) (hfs_88) (hfs_92)) (cwV 2 hts zgL_law_X12_station_264 rfl rfl rfl (by decide +kernel) ⟨Nat.le_of_ble_eq_true rfl, Nat.le_of_ble_eq_true rfl⟩) (pv_w hP hD hK hG [0, 1] rfl rfl rfl 0 rfl rfl) rfl rfl hl.1 rfl (lv_room (Nat.le_of_ble_eq_true rfl)) dL_law_2665 ⟨Nat.le_of_ble_eq_true rfl, Nat.le_of_ble_eq_true rfl⟩) hS (fun q _ h => hF q h) hF (fun r_8 uu9 tt9 H locs ht hvm wr_8 hB hz1 hk1 hS => ?_)
  obtain ⟨gs_9, tt_10, hgs_9, hgs_9_0, k_13, hP1, hD1⟩ := hB
  rw [ht] at hP1
  obtain ⟨hP, hD⟩ := va_join (wr := [(o9, .inl (cT 2, 1, .inr (.inl go_4)))]) (w1 := [(m0, .inr (12, gs_9))]) hP hD [0, 1] [2] rfl rfl (by decide) (by decide) hk1 hF hP1 hD1
  have hP : va_P D vwCl [(o9, .inl (cT 2, 1, .inr (.inl go_4))), (m0, .inr (12, gs_9))] _ := hP
  have hD : va_D A [(o9, .inl (cT 2, 1, .inr (.inl go_4))), (m0, .inr (12, gs_9))] := hD
  refine lv_istore (lv' := [(6, .int r_8), (5, .int r_3), (4, .int 0), (3, .ref o9), (2, .ref m0), (1, .ref h0), (0, .ref b)]) hx hb dL_law_2668 hl (by decide) rfl (fun ls hl => ?_)
  refine lv_aload_n hx hb dL_law_2670 rfl (lv_at hl 4 rfl) ?_
  have hF := va_free (wc := [(m0, .inr (12, gs_9))]) hD hS hA [1] rfl
  refine va_calli (va_runV (As := []) (rest := []) ⟨hx, hb, hml, hown, hts⟩ (c_X12_thrown l D cT m0 gs_9 tt_10 _ (hgs_9) (hgs_9_0)) (cwV 0 hts zgL_law_X12_thrown_149 rfl rfl rfl (by decide +kernel) ⟨Nat.le_of_ble_eq_true rfl, Nat.le_of_ble_eq_true rfl⟩) (pv_w hP hD hK hG [1] rfl rfl rfl 1 rfl rfl) rfl rfl hl.1 rfl (lv_room (Nat.le_of_ble_eq_true rfl)) dL_law_2671 ⟨Nat.le_of_ble_eq_true rfl, Nat.le_of_ble_eq_true rfl⟩) hS (fun q _ h => hF q h) hF (fun r_14 uu9 tt9 H locs ht hvm wr_14 hB hz1 hk1 hS => ?_)
  obtain ⟨hP1, hD1⟩ := hB
  rw [ht] at hP1
  obtain ⟨hP, hD⟩ := va_join (wr := [(o9, .inl (cT 2, 1, .inr (.inl go_4)))]) (w1 := [(m0, .inr (12, gs_9))]) hP hD [1] [0] rfl rfl (by decide) (by decide) hk1 hF hP1 hD1
  have hP : va_P D vwCl [(o9, .inl (cT 2, 1, .inr (.inl go_4))), (m0, .inr (12, gs_9))] _ := hP
  have hD : va_D A [(o9, .inl (cT 2, 1, .inr (.inl go_4))), (m0, .inr (12, gs_9))] := hD
  refine lv_iload hx hb dL_law_2674 (lv_at hl 1 rfl) ?_
  refine lv_icmp_eq (tgt := 2681) hx hb dL_law_2676 (by decide) (fun c_15 => ?_) (fun c_15 => ((c_15 (Eq.trans (wr_14.trans k_13) (Eq.symm wr_3)) : False)).elim)
  refine lv_iload hx hb dL_law_2681 (lv_at hl 1 rfl) ?_
  refine lv_if_ne (tgt := 2698) hx hb dL_law_2683 (by decide) (fun c_16 => ?_) (fun c_16 => ?_)
  · refine lv_goto (tgt := 3043) hx hb dL_law_2698 (by decide) ?_
    exact law_end C0 hA hAl hS (lv_sub hl [2, 6] rfl) (Nat.le_of_ble_eq_true rfl) (Nat.le_of_ble_eq_true rfl)
  · refine lv_aload_n hx hb dL_law_2686 rfl (lv_at hl 3 rfl) ?_
    refine lv_iconst (v := 0) hx hb dL_law_2687 (by decide) ?_
    refine va_lald hx hb hK hP 0 2 rfl rfl (by unfold vp_in; decide) dL_law_2688 ?_
    refine lv_topl (fun j_17 ej_17 => ?_)
    refine lv_iload hx hb dL_law_2689 (lv_at hl 0 rfl) ?_
    obtain ⟨j_18, ej_18⟩ : ∃ y : Int64, y = (r_8).toInt64 := ⟨_, rfl⟩
    refine lv_i2l (v := j_18) hx hb dL_law_2691 ej_18.symm ?_
    refine W.lcmp hx hb dL_law_2692 ?_
    refine lv_topi (fun x_19 ex_19 => ?_)
    refine lv_if_eq (tgt := 2698) hx hb dL_law_2693 (by decide) (fun c_20 => ?_) (fun c_20 => ((c_20 (ex_19.trans ((congr (congrArg lg_cmp (ej_17.trans (k_5 (Eq.trans (Eq.symm wr_3) c_16)))) (ej_18.trans (congrArg Int32.toInt64 (wr_8 (Eq.trans (Eq.symm wr_3) c_16))))).trans (lcmp_self _))) : False)).elim)
    refine lv_goto (tgt := 3043) hx hb dL_law_2698 (by decide) ?_
    exact law_end C0 hA hAl hS (lv_sub hl [2, 6] rfl) (Nat.le_of_ble_eq_true rfl) (Nat.le_of_ble_eq_true rfl)
theorem dL_law_2701 : decode cL_law 2701 = .ok (.aload_n 1, 1) := by decide +kernel
theorem dL_law_2702 : decode cL_law 2702 = .ok (.aload_n 0, 1) := by decide +kernel
theorem dL_law_2703 : decode cL_law 2703 = .ok (.iload 4, 2) := by decide +kernel
theorem dL_law_2705 : decode cL_law 2705 = .ok (.iconst 1, 1) := by decide +kernel
theorem dL_law_2706 : decode cL_law 2706 = .ok (.iadd, 1) := by decide +kernel
theorem dL_law_2707 : decode cL_law 2707 = .ok (.iaload, 1) := by decide +kernel
theorem dL_law_2708 : decode cL_law 2708 = .ok (.aload_n 0, 1) := by decide +kernel
theorem dL_law_2709 : decode cL_law 2709 = .ok (.iload 4, 2) := by decide +kernel
theorem dL_law_2711 : decode cL_law 2711 = .ok (.iconst 2, 1) := by decide +kernel
theorem dL_law_2712 : decode cL_law 2712 = .ok (.iadd, 1) := by decide +kernel
theorem dL_law_2713 : decode cL_law 2713 = .ok (.iaload, 1) := by decide +kernel
theorem dL_law_2714 : decode cL_law 2714 = .ok (.aload_n 3, 1) := by decide +kernel
theorem dL_law_2715 : decode cL_law 2715 = .ok (.invokestatic 265, 3) := by decide +kernel
theorem dL_law_2718 : decode cL_law 2718 = .ok (.istore 5, 2) := by decide +kernel
theorem dL_law_2720 : decode cL_law 2720 = .ok (.aload_n 2, 1) := by decide +kernel
theorem dL_law_2721 : decode cL_law 2721 = .ok (.aload_n 0, 1) := by decide +kernel
theorem dL_law_2722 : decode cL_law 2722 = .ok (.iload 4, 2) := by decide +kernel
theorem dL_law_2724 : decode cL_law 2724 = .ok (.iconst 1, 1) := by decide +kernel
theorem dL_law_2725 : decode cL_law 2725 = .ok (.iadd, 1) := by decide +kernel
theorem dL_law_2726 : decode cL_law 2726 = .ok (.iaload, 1) := by decide +kernel
theorem dL_law_2727 : decode cL_law 2727 = .ok (.aload_n 0, 1) := by decide +kernel
theorem dL_law_2728 : decode cL_law 2728 = .ok (.iload 4, 2) := by decide +kernel
theorem dL_law_2730 : decode cL_law 2730 = .ok (.iconst 2, 1) := by decide +kernel
theorem dL_law_2731 : decode cL_law 2731 = .ok (.iadd, 1) := by decide +kernel
theorem dL_law_2732 : decode cL_law 2732 = .ok (.iaload, 1) := by decide +kernel
theorem dL_law_2733 : decode cL_law 2733 = .ok (.invokevirtual 267, 3) := by decide +kernel
theorem dL_law_2736 : decode cL_law 2736 = .ok (.istore 6, 2) := by decide +kernel
theorem dL_law_2738 : decode cL_law 2738 = .ok (.aload_n 2, 1) := by decide +kernel
theorem dL_law_2739 : decode cL_law 2739 = .ok (.invokevirtual 149, 3) := by decide +kernel
theorem dL_law_2742 : decode cL_law 2742 = .ok (.iload 5, 2) := by decide +kernel
theorem dL_law_2744 : decode cL_law 2744 = .ok (.if_icmp .eq 5, 3) := by decide +kernel
theorem dL_law_2749 : decode cL_law 2749 = .ok (.iload 5, 2) := by decide +kernel
theorem dL_law_2751 : decode cL_law 2751 = .ok (.ifCond .ne 15, 3) := by decide +kernel
theorem dL_law_2766 : decode cL_law 2766 = .ok (.goto 277, 3) := by decide +kernel
set_option maxRecDepth 100000 in
theorem zgL_law_L_queue_265_w : GoodIn lw_tbl zsL_queue := goodIn_app (goodIn_sub (ws := [.codeWith yL_queue cL_queue 5 (some .int) [(0, 10, 13, 37), (0, 10, 17, 13)]]) (fun _ h9 => List.mem_singleton.mp h9 ▸ List.mem_of_getElem? (i := 1809) rfl) (by decide +kernel)) (goodIn_app (goodIn_app (goodIn_app (goodIn_sub (ws := [.methodLink RL 119 yX11_queue, .instanceMethod yX11_queue, .selects RX11 yX11_queue yX11_queue, .initialized RX11, .code yX11_queue cX11_queue 4 (some .int), .classLink RL 37 "java/util/NoSuchElementException", .classLink RL 13 "java/lang/IndexOutOfBoundsException", .methodLink RX11 166 yX11_needShot, .instanceMethod yX11_needShot, .selects RX11 yX11_needShot yX11_needShot, .code yX11_needShot cX11_needShot 3 (some (.object "PuppetFilm$Shot")), .classLink RX11 408 "java/util/NoSuchElementException", .initialized "java/util/NoSuchElementException", .fieldLink RX11 10 "PuppetFilm" "studio" "LPuppetFilm$Studio;", .methodLink RX11 271 yX8_shotAt, .instanceMethod yX8_shotAt, .selects RX8 yX8_shotAt yX8_shotAt, .initialized RX8, .code yX8_shotAt cX8_shotAt 2 (some (.object "PuppetFilm$Shot")), .fieldLink RX8 19 "PuppetFilm$Studio" "shots" "[LPuppetFilm$Shot;"]) (mem_ps [1810, 1811, 1812, 118, 1813, 1357, 848, 1362, 1364, 45, 1365, 1367, 145, 554, 1366, 669, 670, 119, 671, 171] (by decide +kernel)) (by decide +kernel)) zgC_X11) zgC_X8) zgZ)
set_option maxRecDepth 100000 in
theorem zgL_law_L_queue_265 : GoodIn lw_tbl (va_wsS RL 265 yL_queue zsL_queue) := goodIn_app (goodIn_sub (mem_ps [1807, 1808, 117] (by decide +kernel)) (by decide +kernel)) zgL_law_L_queue_265_w
set_option maxRecDepth 100000 in
theorem zgL_law_wsX12_queue_r1 : GoodIn lw_tbl wsX12_queue_r1 := goodIn_sub (mem_ps [1882, 1975, 1976, 2376, 2378, 86, 129, 2379, 1920, 2222, 2223, 2224, 2225, 2227, 63, 2228, 2574, 2576, 105, 2577, 1977, 2578, 2580, 106] rfl) (by decide +kernel)
set_option maxRecDepth 100000 in
theorem zgL_law_wsX12_queue_r2 : GoodIn lw_tbl wsX12_queue_r2 := goodIn_sub (mem_ps [2581, 1930, 1926] rfl) (by decide +kernel)
set_option maxRecDepth 100000 in
theorem zgL_law_X12_queue_267_w : GoodIn lw_tbl wsX12_queue := goodIn_app (goodIn_sub (ws := [.code yX12_queue cX12_queue 3 (some .int)]) (fun _ h9 => List.mem_singleton.mp h9 ▸ List.mem_of_getElem? (i := 2573) rfl) (by decide +kernel)) (goodIn_app (goodIn_app zgL_law_wsX12_queue_r1 zgL_law_wsX12_queue_r2) zgC_X12)
set_option maxRecDepth 100000 in
theorem zgL_law_X12_queue_267 : GoodIn lw_tbl (wsV RL 267 RX12 yX12_queue wsX12_queue) := goodIn_app (goodIn_sub (mem_ps [2570, 2571, 2572, 129] (by decide +kernel)) (by decide +kernel)) zgL_law_X12_queue_267_w
set_option maxHeartbeats 8000000 in
set_option maxRecDepth 100000 in
/-- the law: queue -/
theorem law_case_36 {p : Program} {l : Launch} {e : Env} {s : State} {m : MethodId} {below : List Frame} {meth : Method} {c : Code} {D : va_G} {cT : Nat → ClassId} {b : Nat} {xs : Nat → Int32} {A : Nat → Prop} (hst : l.stackTraces = false) (C0 : lw_At p s m meth c b 7 xs) (hA : ∀ q : Nat, s.heap.size ≤ q → A q) (hAl : ∀ q, A q → s.heap.size ≤ q) (hK : va_K D vwCl (TY cT) s) (hG : GW s) (hZ : GZ A s s.heap) {h0 : Nat} {m0 : Nat} {o9 : Nat} {x_studio : Nat} {x_script : Nat} {x_teller : Nat} {x_planner : Nat} {x_plan : Nat} {x_drifts : Nat} {x_floor : Nat} {x_trial : Nat} {x_tape : Nat} {s_puppets : Nat} {s_shots : Nat} {s_sounds : Nat} {s_rates : Nat} {s_dresses : Nat} {fs : List Value} (hfs : fs.length = 109) (hfs_0 : fs[0]? = some (.int 0)) (hfs_1 : fs[1]? = some (.int 0)) (hfs_38 : fs[38]? = some (.int 0)) {H : Heap} {locs : List Loc} (hP : va_P D vwCl [(h0, .inr (11, [.ref x_studio, .ref x_script, .ref x_teller, .ref x_planner, .ref x_plan, .ref x_drifts, .ref x_floor, .ref x_trial, .ref x_tape, .int 0, .int (-1)])), (x_studio, .inr (8, [.ref s_puppets, .int 0, .ref s_shots, .int 0, .ref s_sounds, .ref s_rates, .ref s_dresses])), (s_shots, .inl (cT 5, 12, .inr (.inr (.inr (.inr (fun _ => none)))))), (m0, .inr (12, fs))] H) (hD : va_D A [(h0, .inr (11, [.ref x_studio, .ref x_script, .ref x_teller, .ref x_planner, .ref x_plan, .ref x_drifts, .ref x_floor, .ref x_trial, .ref x_tape, .int 0, .int (-1)])), (x_studio, .inr (8, [.ref s_puppets, .int 0, .ref s_shots, .int 0, .ref s_sounds, .ref s_rates, .ref s_dresses])), (s_shots, .inl (cT 5, 12, .inr (.inr (.inr (.inr (fun _ => none)))))), (m0, .inr (12, fs))]) (hS : va_S A s.heap H locs) {ls : Array Slot} (hl : lv_has ls 7 [(4, .int 0), (3, .ref o9), (2, .ref m0), (1, .ref h0), (0, .ref b)]) : W p l e room_1 s m #[Value.ref b] below meth c H locs 215 539454 (lw_Z below #[Value.ref b] s) (F0 m 2701 ls []) := by
  obtain ⟨hx, hb, hr, hml, hown, hts0, hX, hbl, hlocks, hgv⟩ := id C0
  have hts := hts0
  have hbA : ¬ A b := fun h => absurd (hAl b h) (Nat.not_le.mpr hbl)
  have hown : s.vm.findClass RL = some m.cls := hown
  have hb : c.code = cL_law := hb
  refine lv_aload_n hx hb dL_law_2701 rfl (lv_at hl 3 rfl) ?_
  refine lv_aload_n hx hb dL_law_2702 rfl (lv_at hl 4 rfl) ?_
  refine lv_iload hx hb dL_law_2703 (lv_at hl 0 rfl) ?_
  refine lv_iconst (v := 1) hx hb dL_law_2705 (by decide) ?_
  refine lv_iadd hx hb dL_law_2706 ?_
  refine lv_topi (fun z_1 ez_1 => ?_)
  obtain rfl : z_1 = 1 := ez_1.trans (by decide)
  refine va_sld hx hb hX hbl hbA hS (by unfold vp_in; decide) dL_law_2707 ?_
  refine lv_aload_n hx hb dL_law_2708 rfl (lv_at hl 4 rfl) ?_
  refine lv_iload hx hb dL_law_2709 (lv_at hl 0 rfl) ?_
  refine lv_iconst (v := 2) hx hb dL_law_2711 (by decide) ?_
  refine lv_iadd hx hb dL_law_2712 ?_
  refine lv_topi (fun z_2 ez_2 => ?_)
  obtain rfl : z_2 = 2 := ez_2.trans (by decide)
  refine va_sld hx hb hX hbl hbA hS (by unfold vp_in; decide) dL_law_2713 ?_
  refine lv_aload_n hx hb dL_law_2714 rfl (lv_at hl 1 rfl) ?_
  have hF := va_free (wc := [(h0, .inr (11, [.ref x_studio, .ref x_script, .ref x_teller, .ref x_planner, .ref x_plan, .ref x_drifts, .ref x_floor, .ref x_trial, .ref x_tape, .int 0, .int (-1)])), (x_studio, .inr (8, [.ref s_puppets, .int 0, .ref s_shots, .int 0, .ref s_sounds, .ref s_rates, .ref s_dresses])), (s_shots, .inl (cT 5, 12, .inr (.inr (.inr (.inr (fun _ => none))))))]) hD hS hA [0, 1, 2] rfl
  refine va_calli (vx_runSW (As := [.ref h0, .int (xs (Int32.toNatClampNeg 1)), .int (xs (Int32.toNatClampNeg 2)), .ref o9]) (rest := []) ⟨hx, hb, hml, hown, hts⟩ (c_L_queue l hst D cT h0 (xs (Int32.toNatClampNeg 1)) (xs (Int32.toNatClampNeg 2)) o9 x_studio x_script x_teller x_planner x_plan x_drifts x_floor x_trial x_tape s_puppets s_shots s_sounds s_rates s_dresses _ ) (vx_cwSW 4 hts zgL_law_L_queue_265 rfl rfl rfl (by decide +kernel) ⟨Nat.le_of_ble_eq_true rfl, Nat.le_of_ble_eq_true rfl⟩) (ps_z hP hD hK hG hZ hS hF [0, 1, 2] rfl rfl rfl) rfl rfl hl.1 rfl (lv_room (Nat.le_of_ble_eq_true rfl)) dL_law_2715 ⟨Nat.le_of_ble_eq_true rfl, Nat.le_of_ble_eq_true rfl⟩) hS (fun q _ h => hF q h) hF (fun r_3 uu9 tt9 H locs ht hvm wr_3 hB hz1 hk1 hS => ?_)
  obtain ⟨hP, hD⟩ := va_join (wr := [(m0, .inr (12, fs))]) (w1 := []) hP hD [0, 1, 2] [3] rfl rfl (by decide) (by decide) hk1 hF vp_nil vd_nil
  have hP : va_P D vwCl [(m0, .inr (12, fs))] _ := hP
  have hD : va_D A [(m0, .inr (12, fs))] := hD
  refine W.widen (k := 216) (n := 539460) (Nat.le_of_ble_eq_true rfl) (Nat.le_of_ble_eq_true rfl) ?_
  obtain rfl : r_3 = 1 := wr_3.trans (rfl)
  refine lv_istore (lv' := [(5, .int 1), (4, .int 0), (3, .ref o9), (2, .ref m0), (1, .ref h0), (0, .ref b)]) hx hb dL_law_2718 hl (by decide) rfl (fun ls hl => ?_)
  refine lv_aload_n hx hb dL_law_2720 rfl (lv_at hl 3 rfl) ?_
  refine lv_aload_n hx hb dL_law_2721 rfl (lv_at hl 5 rfl) ?_
  refine lv_iload hx hb dL_law_2722 (lv_at hl 1 rfl) ?_
  refine lv_iconst (v := 1) hx hb dL_law_2724 (by decide) ?_
  refine lv_iadd hx hb dL_law_2725 ?_
  refine lv_topi (fun z_4 ez_4 => ?_)
  obtain rfl : z_4 = 1 := ez_4.trans (by decide)
  refine va_sld hx hb hX hbl hbA hS (by unfold vp_in; decide) dL_law_2726 ?_
  refine lv_aload_n hx hb dL_law_2727 rfl (lv_at hl 5 rfl) ?_
  refine lv_iload hx hb dL_law_2728 (lv_at hl 1 rfl) ?_
  refine lv_iconst (v := 2) hx hb dL_law_2730 (by decide) ?_
  refine lv_iadd hx hb dL_law_2731 ?_
  refine lv_topi (fun z_5 ez_5 => ?_)
  obtain rfl : z_5 = 2 := ez_5.trans (by decide)
  refine va_sld hx hb hX hbl hbA hS (by unfold vp_in; decide) dL_law_2732 ?_
  have hF := va_free (wc := [(m0, .inr (12, fs))]) hD hS hA [0] rfl
  refine va_calli (va_runV (As := [.int (xs (Int32.toNatClampNeg 1)), .int (xs (Int32.toNatClampNeg 2))]) (rest := []) ⟨hx, hb, hml, hown, hts⟩ (c_X12_queue l D cT m0 (xs (Int32.toNatClampNeg 1)) (xs (Int32.toNatClampNeg 2)) fs 0 _ (hfs) (hfs_0) (hfs_1) (hfs_38)) (cwV 2 hts zgL_law_X12_queue_267 rfl rfl rfl (by decide +kernel) ⟨Nat.le_of_ble_eq_true rfl, Nat.le_of_ble_eq_true rfl⟩) (pv_w hP hD hK hG [0] rfl rfl rfl 0 rfl rfl) rfl rfl hl.1 rfl (lv_room (Nat.le_of_ble_eq_true rfl)) dL_law_2733 ⟨Nat.le_of_ble_eq_true rfl, Nat.le_of_ble_eq_true rfl⟩) hS (fun q _ h => hF q h) hF (fun r_6 uu9 tt9 H locs ht hvm wr_6 hB hz1 hk1 hS => ?_)
  obtain ⟨gs_7, hgs_7, hgs_7_0, hP1, hD1⟩ := hB
  rw [ht] at hP1
  obtain ⟨hP, hD⟩ := va_join (wr := []) (w1 := [(m0, .inr (12, gs_7))]) hP hD [0] [] rfl rfl (by decide) (by decide) hk1 hF hP1 hD1
  have hP : va_P D vwCl [(m0, .inr (12, gs_7))] _ := hP
  have hD : va_D A [(m0, .inr (12, gs_7))] := hD
  refine lv_istore (lv' := [(6, .int r_6), (5, .int 1), (4, .int 0), (3, .ref o9), (2, .ref m0), (1, .ref h0), (0, .ref b)]) hx hb dL_law_2736 hl (by decide) rfl (fun ls hl => ?_)
  refine lv_aload_n hx hb dL_law_2738 rfl (lv_at hl 4 rfl) ?_
  have hF := va_free (wc := [(m0, .inr (12, gs_7))]) hD hS hA [0] rfl
  refine va_calli (va_runV (As := []) (rest := []) ⟨hx, hb, hml, hown, hts⟩ (c_X12_thrown l D cT m0 gs_7 1 _ (hgs_7) (hgs_7_0)) (cwV 0 hts zgL_law_X12_thrown_149 rfl rfl rfl (by decide +kernel) ⟨Nat.le_of_ble_eq_true rfl, Nat.le_of_ble_eq_true rfl⟩) (pv_w hP hD hK hG [0] rfl rfl rfl 0 rfl rfl) rfl rfl hl.1 rfl (lv_room (Nat.le_of_ble_eq_true rfl)) dL_law_2739 ⟨Nat.le_of_ble_eq_true rfl, Nat.le_of_ble_eq_true rfl⟩) hS (fun q _ h => hF q h) hF (fun r_10 uu9 tt9 H locs ht hvm wr_10 hB hz1 hk1 hS => ?_)
  obtain ⟨hP1, hD1⟩ := hB
  rw [ht] at hP1
  obtain ⟨hP, hD⟩ := va_join (wr := []) (w1 := [(m0, .inr (12, gs_7))]) hP hD [0] [] rfl rfl (by decide) (by decide) hk1 hF hP1 hD1
  have hP : va_P D vwCl [(m0, .inr (12, gs_7))] _ := hP
  have hD : va_D A [(m0, .inr (12, gs_7))] := hD
  obtain rfl : r_10 = 1 := wr_10.trans (rfl)
  refine lv_iload hx hb dL_law_2742 (lv_at hl 1 rfl) ?_
  refine lv_icmp_eq (tgt := 2749) hx hb dL_law_2744 (by decide) (fun _ => ?_) (fun c9 => absurd c9 (by decide))
  refine lv_iload hx hb dL_law_2749 (lv_at hl 1 rfl) ?_
  refine lv_if_ne (tgt := 2766) hx hb dL_law_2751 (by decide) (fun _ => ?_) (fun c9 => absurd c9 (by decide))
  refine lv_goto (tgt := 3043) hx hb dL_law_2766 (by decide) ?_
  exact law_end C0 hA hAl hS (lv_sub hl [2, 6] rfl) (Nat.le_of_ble_eq_true rfl) (Nat.le_of_ble_eq_true rfl)
theorem dL_law_2769 : decode cL_law 2769 = .ok (.aload_n 1, 1) := by decide +kernel
theorem dL_law_2770 : decode cL_law 2770 = .ok (.aload_n 0, 1) := by decide +kernel
theorem dL_law_2771 : decode cL_law 2771 = .ok (.iload 4, 2) := by decide +kernel
theorem dL_law_2773 : decode cL_law 2773 = .ok (.iconst 1, 1) := by decide +kernel
theorem dL_law_2774 : decode cL_law 2774 = .ok (.iadd, 1) := by decide +kernel
theorem dL_law_2775 : decode cL_law 2775 = .ok (.iaload, 1) := by decide +kernel
theorem dL_law_2776 : decode cL_law 2776 = .ok (.aload_n 3, 1) := by decide +kernel
theorem dL_law_2777 : decode cL_law 2777 = .ok (.invokestatic 268, 3) := by decide +kernel
theorem dL_law_2780 : decode cL_law 2780 = .ok (.istore 5, 2) := by decide +kernel
theorem dL_law_2782 : decode cL_law 2782 = .ok (.aload_n 2, 1) := by decide +kernel
theorem dL_law_2783 : decode cL_law 2783 = .ok (.aload_n 0, 1) := by decide +kernel
theorem dL_law_2784 : decode cL_law 2784 = .ok (.iload 4, 2) := by decide +kernel
theorem dL_law_2786 : decode cL_law 2786 = .ok (.iconst 1, 1) := by decide +kernel
theorem dL_law_2787 : decode cL_law 2787 = .ok (.iadd, 1) := by decide +kernel
theorem dL_law_2788 : decode cL_law 2788 = .ok (.iaload, 1) := by decide +kernel
theorem dL_law_2789 : decode cL_law 2789 = .ok (.invokevirtual 270, 3) := by decide +kernel
theorem dL_law_2792 : decode cL_law 2792 = .ok (.istore 6, 2) := by decide +kernel
theorem dL_law_2794 : decode cL_law 2794 = .ok (.aload_n 2, 1) := by decide +kernel
theorem dL_law_2795 : decode cL_law 2795 = .ok (.invokevirtual 149, 3) := by decide +kernel
theorem dL_law_2798 : decode cL_law 2798 = .ok (.iload 5, 2) := by decide +kernel
theorem dL_law_2800 : decode cL_law 2800 = .ok (.if_icmp .eq 5, 3) := by decide +kernel
theorem dL_law_2805 : decode cL_law 2805 = .ok (.iload 5, 2) := by decide +kernel
theorem dL_law_2807 : decode cL_law 2807 = .ok (.ifCond .ne 15, 3) := by decide +kernel
theorem dL_law_2810 : decode cL_law 2810 = .ok (.aload_n 3, 1) := by decide +kernel
theorem dL_law_2811 : decode cL_law 2811 = .ok (.iconst 0, 1) := by decide +kernel
theorem dL_law_2812 : decode cL_law 2812 = .ok (.laload, 1) := by decide +kernel
theorem dL_law_2813 : decode cL_law 2813 = .ok (.iload 6, 2) := by decide +kernel
theorem dL_law_2815 : decode cL_law 2815 = .ok (.i2l, 1) := by decide +kernel
theorem dL_law_2816 : decode cL_law 2816 = .ok (.lcmp, 1) := by decide +kernel
theorem dL_law_2817 : decode cL_law 2817 = .ok (.ifCond .eq 5, 3) := by decide +kernel
theorem dL_law_2822 : decode cL_law 2822 = .ok (.goto 221, 3) := by decide +kernel
set_option maxRecDepth 100000 in
theorem zgL_law_wsL_floor_r1 : GoodIn lw_tbl wsL_floor_r1 := goodIn_sub (mem_ps [849, 1827, 1828, 1829, 118, 1830, 560, 499, 953, 758, 759, 934, 935, 936, 937, 135, 737, 738, 739, 128, 740, 515, 498, 516] rfl) (by decide +kernel)
set_option maxRecDepth 100000 in
theorem zgL_law_wsL_floor_r2 : GoodIn lw_tbl wsL_floor_r2 := goodIn_sub (mem_ps [741, 743, 6, 744, 514, 513, 495, 165, 120, 166, 745, 747, 7, 748, 501, 496, 505, 1233, 749, 751, 8, 752, 503, 504] rfl) (by decide +kernel)
set_option maxRecDepth 100000 in
theorem zgL_law_wsL_floor_r3 : GoodIn lw_tbl wsL_floor_r3 := goodIn_sub (mem_ps [753, 755, 9, 756, 502, 666, 667, 761, 763, 10, 764, 1217, 765, 669, 670, 119, 671, 171, 766, 767, 768, 769, 500, 771] rfl) (by decide +kernel)
set_option maxRecDepth 100000 in
theorem zgL_law_wsL_floor_r4 : GoodIn lw_tbl wsL_floor_r4 := goodIn_sub (mem_ps [772, 773, 775, 11, 776, 777, 779, 12, 780, 781, 783, 13, 784, 785, 786, 787, 788, 507, 789, 711, 712, 713, 1235, 1225] rfl) (by decide +kernel)
set_option maxRecDepth 100000 in
theorem zgL_law_wsL_floor_r5 : GoodIn lw_tbl wsL_floor_r5 := goodIn_sub (mem_ps [714, 716, 5, 717, 167, 1229, 613, 790, 792, 14, 793, 794, 796, 15, 797, 798, 800, 16, 801, 506, 802, 804, 17, 805] rfl) (by decide +kernel)
set_option maxRecDepth 100000 in
theorem zgL_law_wsL_floor_r6 : GoodIn lw_tbl wsL_floor_r6 := goodIn_sub (mem_ps [806, 808, 18, 809, 810, 677, 678, 679, 178, 811, 813, 19, 814, 508, 512, 829, 694, 137, 695, 830, 831, 832, 815, 817] rfl) (by decide +kernel)
set_option maxRecDepth 100000 in
theorem zgL_law_wsL_floor_r7 : GoodIn lw_tbl wsL_floor_r7 := goodIn_sub (mem_ps [20, 818, 819, 821, 21, 822, 823, 824, 825, 826, 827, 690, 691, 692, 176, 693, 828, 697, 698, 699, 700, 701, 144, 702] rfl) (by decide +kernel)
set_option maxRecDepth 100000 in
theorem zgL_law_wsL_floor_r8 : GoodIn lw_tbl wsL_floor_r8 := goodIn_sub (mem_ps [703, 704, 705, 833, 834, 835, 836, 497, 1250] rfl) (by decide +kernel)
set_option maxRecDepth 100000 in
theorem zgL_law_L_floor_268_w : GoodIn lw_tbl wsL_floor := goodIn_app (goodIn_sub (ws := [.codeWith yL_floor cL_floor 4 (some .int) [(0, 9, 12, 15)]]) (fun _ h9 => List.mem_singleton.mp h9 ▸ List.mem_of_getElem? (i := 1826) rfl) (by decide +kernel)) (goodIn_app (goodIn_app (goodIn_app (goodIn_app (goodIn_app (goodIn_app (goodIn_app zgL_law_wsL_floor_r1 (goodIn_app zgL_law_wsL_floor_r2 (goodIn_app zgL_law_wsL_floor_r3 (goodIn_app zgL_law_wsL_floor_r4 (goodIn_app zgL_law_wsL_floor_r5 (goodIn_app zgL_law_wsL_floor_r6 (goodIn_app zgL_law_wsL_floor_r7 zgL_law_wsL_floor_r8))))))) zgC_X11) zgC_X1) zgC_X7) zgC_X8) zgC_X5) zgF_196)
set_option maxRecDepth 100000 in
theorem zgL_law_L_floor_268 : GoodIn lw_tbl (va_wsS RL 268 yL_floor wsL_floor) := goodIn_app (goodIn_sub (mem_ps [1824, 1825, 117] (by decide +kernel)) (by decide +kernel)) zgL_law_L_floor_268_w
set_option maxRecDepth 100000 in
theorem zgL_law_wsX12_floor_r1 : GoodIn lw_tbl wsX12_floor_r1 := goodIn_sub (mem_ps [1882, 1964, 2222, 2223, 129, 2224, 2225, 2227, 63, 2228, 2586, 2588, 107, 2589, 2590, 2592, 108, 2593, 1977, 1929, 1978, 1980, 1979, 1947] rfl) (by decide +kernel)
set_option maxRecDepth 100000 in
theorem zgL_law_wsX12_floor_r2 : GoodIn lw_tbl wsX12_floor_r2 := goodIn_sub (mem_ps [2594, 2596, 109, 2597, 1975, 1976, 2578, 2580, 106, 2581, 1930, 1926, 2598, 2600, 110, 2601, 2602, 2604, 111, 2605, 2478, 2480, 97, 2481] rfl) (by decide +kernel)
set_option maxRecDepth 100000 in
theorem zgL_law_wsX12_floor_r3 : GoodIn lw_tbl wsX12_floor_r3 := goodIn_sub (mem_ps [1927, 1928, 2482, 2484, 98, 2485, 1892, 2606, 2608, 112, 2609, 2610, 2612, 113, 2613, 1974, 1971, 1973, 1972, 1946, 1931, 2614, 2616, 114] rfl) (by decide +kernel)
set_option maxRecDepth 100000 in
theorem zgL_law_wsX12_floor_r4 : GoodIn lw_tbl wsX12_floor_r4 := goodIn_sub (mem_ps [2617, 1920, 2574, 2576, 105, 2577, 2618, 2620, 115, 2621, 2471, 2472, 2473, 2345, 2346, 2347] rfl) (by decide +kernel)
set_option maxRecDepth 100000 in
theorem zgL_law_X12_floor_270_w : GoodIn lw_tbl wsX12_floor := goodIn_app (goodIn_sub (ws := [.code yX12_floor cX12_floor 3 (some .int)]) (fun _ h9 => List.mem_singleton.mp h9 ▸ List.mem_of_getElem? (i := 2585) rfl) (by decide +kernel)) (goodIn_app (goodIn_app zgL_law_wsX12_floor_r1 (goodIn_app zgL_law_wsX12_floor_r2 (goodIn_app zgL_law_wsX12_floor_r3 zgL_law_wsX12_floor_r4))) zgC_X12)
set_option maxRecDepth 100000 in
theorem zgL_law_X12_floor_270 : GoodIn lw_tbl (wsV RL 270 RX12 yX12_floor wsX12_floor) := goodIn_app (goodIn_sub (mem_ps [2582, 2583, 2584, 129] (by decide +kernel)) (by decide +kernel)) zgL_law_X12_floor_270_w
set_option maxHeartbeats 8000000 in
set_option maxRecDepth 100000 in
/-- the law: floor -/
theorem law_case_37 {p : Program} {l : Launch} {e : Env} {s : State} {m : MethodId} {below : List Frame} {meth : Method} {c : Code} {D : va_G} {cT : Nat → ClassId} {b : Nat} {xs : Nat → Int32} {A : Nat → Prop} (hst : l.stackTraces = false) (C0 : lw_At p s m meth c b 7 xs) (hA : ∀ q : Nat, s.heap.size ≤ q → A q) (hAl : ∀ q, A q → s.heap.size ≤ q) (hK : va_K D vwCl (TY cT) s) (hG : GW s) (hZ : GZ A s s.heap) {h0 : Nat} {m0 : Nat} {o9 : Nat} {x_studio : Nat} {x_script : Nat} {x_teller : Nat} {x_planner : Nat} {x_plan : Nat} {x_drifts : Nat} {x_floor : Nat} {x_trial : Nat} {x_tape : Nat} {f_taken : Nat} {f_on : Nat} {f_queues : Nat} {f_queued : Nat} {f_engaged : Nat} {f_dressing : Nat} {f_dressed : Nat} {f_standing : Nat} {f_stations : Nat} {f_limits : Nat} {f_worked : Nat} {fon : Nat → Int32} {fwo : Nat → Int32} {s_puppets : Nat} {s_shots : Nat} {s_sounds : Nat} {s_rates : Nat} {s_dresses : Nat} {fs : List Value} {m_queued : Nat} {m_onNow : Nat} {mon : Nat → Int32} {fo : Nat → Int64} (q0 : ∀ k, k < 3 → fon k = -1) (q1 : ∀ k, k < 3 → mon k = -1) (hfs : fs.length = 109) (hfs_0 : fs[0]? = some (.int 0)) (hfs_82 : fs[82]? = some (.int 0)) (hfs_93 : fs[93]? = some (.ref m_queued)) (hfs_95 : fs[95]? = some (.ref m_onNow)) {H : Heap} {locs : List Loc} (hP : va_P D vwCl [(h0, .inr (11, [.ref x_studio, .ref x_script, .ref x_teller, .ref x_planner, .ref x_plan, .ref x_drifts, .ref x_floor, .ref x_trial, .ref x_tape, .int 0, .int (-1)])), (x_floor, .inr (1, [.ref x_studio, .int 1, .int 0, .ref f_taken, .ref f_on, .ref f_queues, .ref f_queued, .ref f_engaged, .ref f_dressing, .ref f_dressed, .ref f_standing, .ref f_stations, .int 0, .ref f_limits, .ref f_worked, .int 0, .int 0, .int 0])), (f_on, .inl (cT 0, 3, .inl fon)), (f_queued, .inl (cT 0, 3, .inl (fun _ => 0))), (f_worked, .inl (cT 0, 6, .inl fwo)), (x_studio, .inr (8, [.ref s_puppets, .int 0, .ref s_shots, .int 0, .ref s_sounds, .ref s_rates, .ref s_dresses])), (s_shots, .inl (cT 5, 12, .inr (.inr (.inr (.inr (fun _ => none)))))), (m0, .inr (12, fs)), (m_queued, .inl (cT 0, 3, .inl (fun _ => 0))), (m_onNow, .inl (cT 0, 3, .inl mon)), (o9, .inl (cT 2, 1, .inr (.inl fo)))] H) (hD : va_D A [(h0, .inr (11, [.ref x_studio, .ref x_script, .ref x_teller, .ref x_planner, .ref x_plan, .ref x_drifts, .ref x_floor, .ref x_trial, .ref x_tape, .int 0, .int (-1)])), (x_floor, .inr (1, [.ref x_studio, .int 1, .int 0, .ref f_taken, .ref f_on, .ref f_queues, .ref f_queued, .ref f_engaged, .ref f_dressing, .ref f_dressed, .ref f_standing, .ref f_stations, .int 0, .ref f_limits, .ref f_worked, .int 0, .int 0, .int 0])), (f_on, .inl (cT 0, 3, .inl fon)), (f_queued, .inl (cT 0, 3, .inl (fun _ => 0))), (f_worked, .inl (cT 0, 6, .inl fwo)), (x_studio, .inr (8, [.ref s_puppets, .int 0, .ref s_shots, .int 0, .ref s_sounds, .ref s_rates, .ref s_dresses])), (s_shots, .inl (cT 5, 12, .inr (.inr (.inr (.inr (fun _ => none)))))), (m0, .inr (12, fs)), (m_queued, .inl (cT 0, 3, .inl (fun _ => 0))), (m_onNow, .inl (cT 0, 3, .inl mon)), (o9, .inl (cT 2, 1, .inr (.inl fo)))]) (hS : va_S A s.heap H locs) {ls : Array Slot} (hl : lv_has ls 7 [(4, .int 0), (3, .ref o9), (2, .ref m0), (1, .ref h0), (0, .ref b)]) : W p l e room_1 s m #[Value.ref b] below meth c H locs 215 539454 (lw_Z below #[Value.ref b] s) (F0 m 2769 ls []) := by
  obtain ⟨hx, hb, hr, hml, hown, hts0, hX, hbl, hlocks, hgv⟩ := id C0
  have hts := hts0
  have hbA : ¬ A b := fun h => absurd (hAl b h) (Nat.not_le.mpr hbl)
  have hown : s.vm.findClass RL = some m.cls := hown
  have hb : c.code = cL_law := hb
  refine lv_aload_n hx hb dL_law_2769 rfl (lv_at hl 3 rfl) ?_
  refine lv_aload_n hx hb dL_law_2770 rfl (lv_at hl 4 rfl) ?_
  refine lv_iload hx hb dL_law_2771 (lv_at hl 0 rfl) ?_
  refine lv_iconst (v := 1) hx hb dL_law_2773 (by decide) ?_
  refine lv_iadd hx hb dL_law_2774 ?_
  refine lv_topi (fun z_1 ez_1 => ?_)
  obtain rfl : z_1 = 1 := ez_1.trans (by decide)
  refine va_sld hx hb hX hbl hbA hS (by unfold vp_in; decide) dL_law_2775 ?_
  refine lv_aload_n hx hb dL_law_2776 rfl (lv_at hl 1 rfl) ?_
  have hF := va_free (wc := [(h0, .inr (11, [.ref x_studio, .ref x_script, .ref x_teller, .ref x_planner, .ref x_plan, .ref x_drifts, .ref x_floor, .ref x_trial, .ref x_tape, .int 0, .int (-1)])), (x_floor, .inr (1, [.ref x_studio, .int 1, .int 0, .ref f_taken, .ref f_on, .ref f_queues, .ref f_queued, .ref f_engaged, .ref f_dressing, .ref f_dressed, .ref f_standing, .ref f_stations, .int 0, .ref f_limits, .ref f_worked, .int 0, .int 0, .int 0])), (f_on, .inl (cT 0, 3, .inl fon)), (f_queued, .inl (cT 0, 3, .inl (fun _ => 0))), (f_worked, .inl (cT 0, 6, .inl fwo)), (x_studio, .inr (8, [.ref s_puppets, .int 0, .ref s_shots, .int 0, .ref s_sounds, .ref s_rates, .ref s_dresses])), (s_shots, .inl (cT 5, 12, .inr (.inr (.inr (.inr (fun _ => none)))))), (o9, .inl (cT 2, 1, .inr (.inl fo)))]) hD hS hA [0, 1, 2, 3, 4, 5, 6, 10] rfl
  refine va_calli (vx_runSW (As := [.ref h0, .int (xs (Int32.toNatClampNeg 1)), .ref o9]) (rest := []) ⟨hx, hb, hml, hown, hts⟩ (c_L_floor l hst D cT h0 (xs (Int32.toNatClampNeg 1)) o9 x_studio x_script x_teller x_planner x_plan x_drifts x_floor x_trial x_tape f_taken f_on f_queues f_queued f_engaged f_dressing f_dressed f_standing f_stations f_limits f_worked fon fwo s_puppets s_shots s_sounds s_rates s_dresses fo _ (by assumption)) (vx_cwSW 3 hts zgL_law_L_floor_268 rfl rfl rfl (by decide +kernel) ⟨Nat.le_of_ble_eq_true rfl, Nat.le_of_ble_eq_true rfl⟩) (ps_z hP hD hK hG hZ hS hF [0, 1, 2, 3, 4, 5, 6, 10] rfl rfl rfl) rfl rfl hl.1 rfl (lv_room (Nat.le_of_ble_eq_true rfl)) dL_law_2777 ⟨Nat.le_of_ble_eq_true rfl, Nat.le_of_ble_eq_true rfl⟩) hS (fun q _ h => hF q h) hF (fun r_2 uu9 tt9 H locs ht hvm wr_2 hB hz1 hk1 hS => ?_)
  obtain ⟨go_3, k_4, hP1, hD1⟩ := hB
  rw [ht] at hP1
  obtain ⟨hP, hD⟩ := va_join (wr := [(m0, .inr (12, fs)), (m_queued, .inl (cT 0, 3, .inl (fun _ => 0))), (m_onNow, .inl (cT 0, 3, .inl mon))]) (w1 := [(o9, .inl (cT 2, 1, .inr (.inl go_3)))]) hP hD [0, 1, 2, 3, 4, 5, 6, 10] [7, 8, 9] rfl rfl (by decide) (by decide) hk1 hF hP1 hD1
  have hP : va_P D vwCl [(m0, .inr (12, fs)), (m_queued, .inl (cT 0, 3, .inl (fun _ => 0))), (m_onNow, .inl (cT 0, 3, .inl mon)), (o9, .inl (cT 2, 1, .inr (.inl go_3)))] _ := hP
  have hD : va_D A [(m0, .inr (12, fs)), (m_queued, .inl (cT 0, 3, .inl (fun _ => 0))), (m_onNow, .inl (cT 0, 3, .inl mon)), (o9, .inl (cT 2, 1, .inr (.inl go_3)))] := hD
  refine W.widen (k := 216) (n := 539460) (Nat.le_of_ble_eq_true rfl) (Nat.le_of_ble_eq_true rfl) ?_
  refine lv_istore (lv' := [(5, .int r_2), (4, .int 0), (3, .ref o9), (2, .ref m0), (1, .ref h0), (0, .ref b)]) hx hb dL_law_2780 hl (by decide) rfl (fun ls hl => ?_)
  refine lv_aload_n hx hb dL_law_2782 rfl (lv_at hl 3 rfl) ?_
  refine lv_aload_n hx hb dL_law_2783 rfl (lv_at hl 5 rfl) ?_
  refine lv_iload hx hb dL_law_2784 (lv_at hl 1 rfl) ?_
  refine lv_iconst (v := 1) hx hb dL_law_2786 (by decide) ?_
  refine lv_iadd hx hb dL_law_2787 ?_
  refine lv_topi (fun z_5 ez_5 => ?_)
  obtain rfl : z_5 = 1 := ez_5.trans (by decide)
  refine va_sld hx hb hX hbl hbA hS (by unfold vp_in; decide) dL_law_2788 ?_
  have hF := va_free (wc := [(m0, .inr (12, fs)), (m_queued, .inl (cT 0, 3, .inl (fun _ => 0))), (m_onNow, .inl (cT 0, 3, .inl mon))]) hD hS hA [0, 1, 2] rfl
  refine va_calli (va_runV (As := [.int (xs (Int32.toNatClampNeg 1))]) (rest := []) ⟨hx, hb, hml, hown, hts⟩ (c_X12_floor l D cT m0 (xs (Int32.toNatClampNeg 1)) fs 0 m_queued m_onNow mon _ (by assumption) (hfs) (hfs_0) (hfs_82) (hfs_93) (hfs_95)) (cwV 1 hts zgL_law_X12_floor_270 rfl rfl rfl (by decide +kernel) ⟨Nat.le_of_ble_eq_true rfl, Nat.le_of_ble_eq_true rfl⟩) (pv_w hP hD hK hG [0, 1, 2] rfl rfl rfl 0 rfl rfl) rfl rfl hl.1 rfl (lv_room (Nat.le_of_ble_eq_true rfl)) dL_law_2789 ⟨Nat.le_of_ble_eq_true rfl, Nat.le_of_ble_eq_true rfl⟩) hS (fun q _ h => hF q h) hF (fun r_6 uu9 tt9 H locs ht hvm wr_6 hB hz1 hk1 hS => ?_)
  obtain ⟨gs_7, tt_8, hgs_7, hgs_7_0, k_11, hP1, hD1⟩ := hB
  rw [ht] at hP1
  obtain ⟨hP, hD⟩ := va_join (wr := [(o9, .inl (cT 2, 1, .inr (.inl go_3)))]) (w1 := [(m0, .inr (12, gs_7))]) hP hD [0, 1, 2] [3] rfl rfl (by decide) (by decide) hk1 hF hP1 hD1
  have hP : va_P D vwCl [(o9, .inl (cT 2, 1, .inr (.inl go_3))), (m0, .inr (12, gs_7))] _ := hP
  have hD : va_D A [(o9, .inl (cT 2, 1, .inr (.inl go_3))), (m0, .inr (12, gs_7))] := hD
  refine lv_istore (lv' := [(6, .int r_6), (5, .int r_2), (4, .int 0), (3, .ref o9), (2, .ref m0), (1, .ref h0), (0, .ref b)]) hx hb dL_law_2792 hl (by decide) rfl (fun ls hl => ?_)
  refine lv_aload_n hx hb dL_law_2794 rfl (lv_at hl 4 rfl) ?_
  have hF := va_free (wc := [(m0, .inr (12, gs_7))]) hD hS hA [1] rfl
  refine va_calli (va_runV (As := []) (rest := []) ⟨hx, hb, hml, hown, hts⟩ (c_X12_thrown l D cT m0 gs_7 tt_8 _ (hgs_7) (hgs_7_0)) (cwV 0 hts zgL_law_X12_thrown_149 rfl rfl rfl (by decide +kernel) ⟨Nat.le_of_ble_eq_true rfl, Nat.le_of_ble_eq_true rfl⟩) (pv_w hP hD hK hG [1] rfl rfl rfl 1 rfl rfl) rfl rfl hl.1 rfl (lv_room (Nat.le_of_ble_eq_true rfl)) dL_law_2795 ⟨Nat.le_of_ble_eq_true rfl, Nat.le_of_ble_eq_true rfl⟩) hS (fun q _ h => hF q h) hF (fun r_12 uu9 tt9 H locs ht hvm wr_12 hB hz1 hk1 hS => ?_)
  obtain ⟨hP1, hD1⟩ := hB
  rw [ht] at hP1
  obtain ⟨hP, hD⟩ := va_join (wr := [(o9, .inl (cT 2, 1, .inr (.inl go_3)))]) (w1 := [(m0, .inr (12, gs_7))]) hP hD [1] [0] rfl rfl (by decide) (by decide) hk1 hF hP1 hD1
  have hP : va_P D vwCl [(o9, .inl (cT 2, 1, .inr (.inl go_3))), (m0, .inr (12, gs_7))] _ := hP
  have hD : va_D A [(o9, .inl (cT 2, 1, .inr (.inl go_3))), (m0, .inr (12, gs_7))] := hD
  refine lv_iload hx hb dL_law_2798 (lv_at hl 1 rfl) ?_
  refine lv_icmp_eq (tgt := 2805) hx hb dL_law_2800 (by decide) (fun c_13 => ?_) (fun c_13 => ((c_13 (Eq.trans (wr_12.trans k_11) (Eq.symm wr_2)) : False)).elim)
  refine lv_iload hx hb dL_law_2805 (lv_at hl 1 rfl) ?_
  refine lv_if_ne (tgt := 2822) hx hb dL_law_2807 (by decide) (fun c_14 => ?_) (fun c_14 => ?_)
  · refine lv_goto (tgt := 3043) hx hb dL_law_2822 (by decide) ?_
    exact law_end C0 hA hAl hS (lv_sub hl [2, 6] rfl) (Nat.le_of_ble_eq_true rfl) (Nat.le_of_ble_eq_true rfl)
  · refine lv_aload_n hx hb dL_law_2810 rfl (lv_at hl 3 rfl) ?_
    refine lv_iconst (v := 0) hx hb dL_law_2811 (by decide) ?_
    refine va_lald hx hb hK hP 0 2 rfl rfl (by unfold vp_in; decide) dL_law_2812 ?_
    refine lv_topl (fun j_15 ej_15 => ?_)
    refine lv_iload hx hb dL_law_2813 (lv_at hl 0 rfl) ?_
    obtain ⟨j_16, ej_16⟩ : ∃ y : Int64, y = (r_6).toInt64 := ⟨_, rfl⟩
    refine lv_i2l (v := j_16) hx hb dL_law_2815 ej_16.symm ?_
    refine W.lcmp hx hb dL_law_2816 ?_
    refine lv_topi (fun x_17 ex_17 => ?_)
    refine lv_if_eq (tgt := 2822) hx hb dL_law_2817 (by decide) (fun c_18 => ?_) (fun c_18 => ((c_18 (ex_17.trans ((congr (congrArg lg_cmp (ej_15.trans (k_4 (Eq.trans (Eq.symm wr_2) c_14)))) (ej_16.trans (congrArg Int32.toInt64 (wr_6 (Eq.trans (Eq.symm wr_2) c_14))))).trans (lcmp_self _))) : False)).elim)
    refine lv_goto (tgt := 3043) hx hb dL_law_2822 (by decide) ?_
    exact law_end C0 hA hAl hS (lv_sub hl [2, 6] rfl) (Nat.le_of_ble_eq_true rfl) (Nat.le_of_ble_eq_true rfl)
theorem dL_law_2825 : decode cL_law 2825 = .ok (.aload_n 1, 1) := by decide +kernel
theorem dL_law_2826 : decode cL_law 2826 = .ok (.aload_n 0, 1) := by decide +kernel
theorem dL_law_2827 : decode cL_law 2827 = .ok (.iload 4, 2) := by decide +kernel
theorem dL_law_2829 : decode cL_law 2829 = .ok (.iconst 1, 1) := by decide +kernel
theorem dL_law_2830 : decode cL_law 2830 = .ok (.iadd, 1) := by decide +kernel
theorem dL_law_2831 : decode cL_law 2831 = .ok (.iaload, 1) := by decide +kernel
theorem dL_law_2832 : decode cL_law 2832 = .ok (.aload_n 0, 1) := by decide +kernel
theorem dL_law_2833 : decode cL_law 2833 = .ok (.iload 4, 2) := by decide +kernel
theorem dL_law_2835 : decode cL_law 2835 = .ok (.iconst 2, 1) := by decide +kernel
theorem dL_law_2836 : decode cL_law 2836 = .ok (.iadd, 1) := by decide +kernel
theorem dL_law_2837 : decode cL_law 2837 = .ok (.iaload, 1) := by decide +kernel
theorem dL_law_2838 : decode cL_law 2838 = .ok (.aload_n 3, 1) := by decide +kernel
theorem dL_law_2839 : decode cL_law 2839 = .ok (.invokestatic 271, 3) := by decide +kernel
theorem dL_law_2842 : decode cL_law 2842 = .ok (.istore 5, 2) := by decide +kernel
theorem dL_law_2844 : decode cL_law 2844 = .ok (.aload_n 2, 1) := by decide +kernel
theorem dL_law_2845 : decode cL_law 2845 = .ok (.aload_n 0, 1) := by decide +kernel
theorem dL_law_2846 : decode cL_law 2846 = .ok (.iload 4, 2) := by decide +kernel
theorem dL_law_2848 : decode cL_law 2848 = .ok (.iconst 1, 1) := by decide +kernel
theorem dL_law_2849 : decode cL_law 2849 = .ok (.iadd, 1) := by decide +kernel
theorem dL_law_2850 : decode cL_law 2850 = .ok (.iaload, 1) := by decide +kernel
theorem dL_law_2851 : decode cL_law 2851 = .ok (.aload_n 0, 1) := by decide +kernel
theorem dL_law_2852 : decode cL_law 2852 = .ok (.iload 4, 2) := by decide +kernel
theorem dL_law_2854 : decode cL_law 2854 = .ok (.iconst 2, 1) := by decide +kernel
theorem dL_law_2855 : decode cL_law 2855 = .ok (.iadd, 1) := by decide +kernel
theorem dL_law_2856 : decode cL_law 2856 = .ok (.iaload, 1) := by decide +kernel
theorem dL_law_2857 : decode cL_law 2857 = .ok (.invokevirtual 273, 3) := by decide +kernel
theorem dL_law_2860 : decode cL_law 2860 = .ok (.istore 6, 2) := by decide +kernel
theorem dL_law_2862 : decode cL_law 2862 = .ok (.aload_n 2, 1) := by decide +kernel
theorem dL_law_2863 : decode cL_law 2863 = .ok (.invokevirtual 149, 3) := by decide +kernel
theorem dL_law_2866 : decode cL_law 2866 = .ok (.iload 5, 2) := by decide +kernel
theorem dL_law_2868 : decode cL_law 2868 = .ok (.if_icmp .eq 5, 3) := by decide +kernel
theorem dL_law_2873 : decode cL_law 2873 = .ok (.iload 5, 2) := by decide +kernel
theorem dL_law_2875 : decode cL_law 2875 = .ok (.ifCond .ne 15, 3) := by decide +kernel
theorem dL_law_2878 : decode cL_law 2878 = .ok (.aload_n 3, 1) := by decide +kernel
theorem dL_law_2879 : decode cL_law 2879 = .ok (.iconst 0, 1) := by decide +kernel
theorem dL_law_2880 : decode cL_law 2880 = .ok (.laload, 1) := by decide +kernel
theorem dL_law_2881 : decode cL_law 2881 = .ok (.iload 6, 2) := by decide +kernel
theorem dL_law_2883 : decode cL_law 2883 = .ok (.i2l, 1) := by decide +kernel
theorem dL_law_2884 : decode cL_law 2884 = .ok (.lcmp, 1) := by decide +kernel
theorem dL_law_2885 : decode cL_law 2885 = .ok (.ifCond .eq 5, 3) := by decide +kernel
theorem dL_law_2890 : decode cL_law 2890 = .ok (.goto 153, 3) := by decide +kernel
set_option maxRecDepth 100000 in
theorem zgL_law_wsL_on_r1 : GoodIn lw_tbl wsL_on_r1 := goodIn_sub (mem_ps [848, 849, 1834, 1835, 1836, 118, 1837, 937, 135, 560, 1803, 1804, 1805, 862, 134, 953, 758, 759, 1838, 1839, 1840, 128, 1841, 501] rfl) (by decide +kernel)
set_option maxRecDepth 100000 in
theorem zgL_law_wsL_on_r2 : GoodIn lw_tbl wsL_on_r2 := goodIn_sub (mem_ps [666, 667, 1842, 1843, 1844, 1845, 496, 505, 1233, 506, 1846, 765, 669, 670, 119, 671, 171, 1814, 1815, 1816, 1817, 503, 1847, 1848] rfl) (by decide +kernel)
set_option maxRecDepth 100000 in
theorem zgL_law_wsL_on_r3 : GoodIn lw_tbl wsL_on_r3 := goodIn_sub (mem_ps [1849, 1850, 1823, 753, 755, 9, 756, 502] rfl) (by decide +kernel)
set_option maxRecDepth 100000 in
theorem zgL_law_L_on_271_w : GoodIn lw_tbl wsL_on := goodIn_app (goodIn_sub (ws := [.codeWith yL_on cL_on 5 (some .int) [(0, 10, 13, 13), (0, 10, 17, 15)]]) (fun _ h9 => List.mem_singleton.mp h9 ▸ List.mem_of_getElem? (i := 1833) rfl) (by decide +kernel)) (goodIn_app (goodIn_app (goodIn_app (goodIn_app (goodIn_app (goodIn_app (goodIn_app zgL_law_wsL_on_r1 (goodIn_app zgL_law_wsL_on_r2 zgL_law_wsL_on_r3)) zgC_X11) zgC_X1) zgC_X7) zgC_X8) zgF_196) zgF_350)
set_option maxRecDepth 100000 in
theorem zgL_law_L_on_271 : GoodIn lw_tbl (va_wsS RL 271 yL_on wsL_on) := goodIn_app (goodIn_sub (mem_ps [1831, 1832, 117] (by decide +kernel)) (by decide +kernel)) zgL_law_L_on_271_w
set_option maxRecDepth 100000 in
theorem zgL_law_X12_on_273_w : GoodIn lw_tbl wsX12_on := goodIn_app (goodIn_sub (ws := [.code yX12_on cX12_on 3 (some .int)]) (fun _ h9 => List.mem_singleton.mp h9 ▸ List.mem_of_getElem? (i := 2625) rfl) (by decide +kernel)) (goodIn_app (goodIn_sub (ws := [.fieldLink RX12 1 "PuppetFilmModel" "thrown" "I", .fieldLink RX12 225 "PuppetFilmModel" "onNow" "[I", .fieldLink RX12 228 "PuppetFilmModel" "dressing" "[I", .fieldLink RX12 231 "PuppetFilmModel" "dressed" "[I", .fieldLink RX12 219 "PuppetFilmModel" "queued" "[I", .fieldLink RX12 222 "PuppetFilmModel" "queue" "[I", .methodLink RX12 267 yX12_within, .static yX12_within, .initialized RX12, .code yX12_within cX12_within 3 (some .boolean), .methodLink RX12 271 yX12_may, .instanceMethod yX12_may, .selects RX12 yX12_may yX12_may, .code yX12_may cX12_may 3 (some .boolean)]) (mem_ps [1882, 1977, 1978, 1979, 1975, 1976, 2222, 2223, 129, 2224, 2225, 2227, 63, 2228] (by decide +kernel)) (by decide +kernel)) zgC_X12)
set_option maxRecDepth 100000 in
theorem zgL_law_X12_on_273 : GoodIn lw_tbl (wsV RL 273 RX12 yX12_on wsX12_on) := goodIn_app (goodIn_sub (mem_ps [2622, 2623, 2624, 129] (by decide +kernel)) (by decide +kernel)) zgL_law_X12_on_273_w
set_option maxHeartbeats 8000000 in
set_option maxRecDepth 100000 in
/-- the law: on -/
theorem law_case_38 {p : Program} {l : Launch} {e : Env} {s : State} {m : MethodId} {below : List Frame} {meth : Method} {c : Code} {D : va_G} {cT : Nat → ClassId} {b : Nat} {xs : Nat → Int32} {A : Nat → Prop} (hst : l.stackTraces = false) (C0 : lw_At p s m meth c b 7 xs) (hA : ∀ q : Nat, s.heap.size ≤ q → A q) (hAl : ∀ q, A q → s.heap.size ≤ q) (hK : va_K D vwCl (TY cT) s) (hG : GW s) (hZ : GZ A s s.heap) {h0 : Nat} {m0 : Nat} {o9 : Nat} {x_studio : Nat} {x_script : Nat} {x_teller : Nat} {x_planner : Nat} {x_plan : Nat} {x_drifts : Nat} {x_floor : Nat} {x_trial : Nat} {x_tape : Nat} {f_taken : Nat} {f_on : Nat} {f_queues : Nat} {f_queued : Nat} {f_engaged : Nat} {f_dressing : Nat} {f_dressed : Nat} {f_standing : Nat} {f_stations : Nat} {f_limits : Nat} {f_worked : Nat} {fon : Nat → Int32} {s_puppets : Nat} {s_shots : Nat} {s_sounds : Nat} {s_rates : Nat} {s_dresses : Nat} {fs : List Value} {m_queued : Nat} {m_onNow : Nat} {m_dressing : Nat} {mon : Nat → Int32} {mdi : Nat → Int32} {fo : Nat → Int64} (q0 : ∀ k, k < 3 → fon k = -1) (q1 : ∀ k, k < 3 → mon k = -1) (q2 : ∀ k, k < 3 → mdi k = -1) (hfs : fs.length = 109) (hfs_0 : fs[0]? = some (.int 0)) (hfs_93 : fs[93]? = some (.ref m_queued)) (hfs_95 : fs[95]? = some (.ref m_onNow)) (hfs_96 : fs[96]? = some (.ref m_dressing)) {H : Heap} {locs : List Loc} (hP : va_P D vwCl [(h0, .inr (11, [.ref x_studio, .ref x_script, .ref x_teller, .ref x_planner, .ref x_plan, .ref x_drifts, .ref x_floor, .ref x_trial, .ref x_tape, .int 0, .int (-1)])), (x_floor, .inr (1, [.ref x_studio, .int 1, .int 0, .ref f_taken, .ref f_on, .ref f_queues, .ref f_queued, .ref f_engaged, .ref f_dressing, .ref f_dressed, .ref f_standing, .ref f_stations, .int 0, .ref f_limits, .ref f_worked, .int 0, .int 0, .int 0])), (f_on, .inl (cT 0, 3, .inl fon)), (f_queued, .inl (cT 0, 3, .inl (fun _ => 0))), (x_studio, .inr (8, [.ref s_puppets, .int 0, .ref s_shots, .int 0, .ref s_sounds, .ref s_rates, .ref s_dresses])), (s_shots, .inl (cT 5, 12, .inr (.inr (.inr (.inr (fun _ => none)))))), (m0, .inr (12, fs)), (m_onNow, .inl (cT 0, 3, .inl mon)), (m_dressing, .inl (cT 0, 3, .inl mdi)), (m_queued, .inl (cT 0, 3, .inl (fun _ => 0))), (o9, .inl (cT 2, 1, .inr (.inl fo)))] H) (hD : va_D A [(h0, .inr (11, [.ref x_studio, .ref x_script, .ref x_teller, .ref x_planner, .ref x_plan, .ref x_drifts, .ref x_floor, .ref x_trial, .ref x_tape, .int 0, .int (-1)])), (x_floor, .inr (1, [.ref x_studio, .int 1, .int 0, .ref f_taken, .ref f_on, .ref f_queues, .ref f_queued, .ref f_engaged, .ref f_dressing, .ref f_dressed, .ref f_standing, .ref f_stations, .int 0, .ref f_limits, .ref f_worked, .int 0, .int 0, .int 0])), (f_on, .inl (cT 0, 3, .inl fon)), (f_queued, .inl (cT 0, 3, .inl (fun _ => 0))), (x_studio, .inr (8, [.ref s_puppets, .int 0, .ref s_shots, .int 0, .ref s_sounds, .ref s_rates, .ref s_dresses])), (s_shots, .inl (cT 5, 12, .inr (.inr (.inr (.inr (fun _ => none)))))), (m0, .inr (12, fs)), (m_onNow, .inl (cT 0, 3, .inl mon)), (m_dressing, .inl (cT 0, 3, .inl mdi)), (m_queued, .inl (cT 0, 3, .inl (fun _ => 0))), (o9, .inl (cT 2, 1, .inr (.inl fo)))]) (hS : va_S A s.heap H locs) {ls : Array Slot} (hl : lv_has ls 7 [(4, .int 0), (3, .ref o9), (2, .ref m0), (1, .ref h0), (0, .ref b)]) : W p l e room_1 s m #[Value.ref b] below meth c H locs 215 539454 (lw_Z below #[Value.ref b] s) (F0 m 2825 ls []) := by
  obtain ⟨hx, hb, hr, hml, hown, hts0, hX, hbl, hlocks, hgv⟩ := id C0
  have hts := hts0
  have hbA : ¬ A b := fun h => absurd (hAl b h) (Nat.not_le.mpr hbl)
  have hown : s.vm.findClass RL = some m.cls := hown
  have hb : c.code = cL_law := hb
  refine lv_aload_n hx hb dL_law_2825 rfl (lv_at hl 3 rfl) ?_
  refine lv_aload_n hx hb dL_law_2826 rfl (lv_at hl 4 rfl) ?_
  refine lv_iload hx hb dL_law_2827 (lv_at hl 0 rfl) ?_
  refine lv_iconst (v := 1) hx hb dL_law_2829 (by decide) ?_
  refine lv_iadd hx hb dL_law_2830 ?_
  refine lv_topi (fun z_1 ez_1 => ?_)
  obtain rfl : z_1 = 1 := ez_1.trans (by decide)
  refine va_sld hx hb hX hbl hbA hS (by unfold vp_in; decide) dL_law_2831 ?_
  refine lv_aload_n hx hb dL_law_2832 rfl (lv_at hl 4 rfl) ?_
  refine lv_iload hx hb dL_law_2833 (lv_at hl 0 rfl) ?_
  refine lv_iconst (v := 2) hx hb dL_law_2835 (by decide) ?_
  refine lv_iadd hx hb dL_law_2836 ?_
  refine lv_topi (fun z_2 ez_2 => ?_)
  obtain rfl : z_2 = 2 := ez_2.trans (by decide)
  refine va_sld hx hb hX hbl hbA hS (by unfold vp_in; decide) dL_law_2837 ?_
  refine lv_aload_n hx hb dL_law_2838 rfl (lv_at hl 1 rfl) ?_
  have hF := va_free (wc := [(h0, .inr (11, [.ref x_studio, .ref x_script, .ref x_teller, .ref x_planner, .ref x_plan, .ref x_drifts, .ref x_floor, .ref x_trial, .ref x_tape, .int 0, .int (-1)])), (x_floor, .inr (1, [.ref x_studio, .int 1, .int 0, .ref f_taken, .ref f_on, .ref f_queues, .ref f_queued, .ref f_engaged, .ref f_dressing, .ref f_dressed, .ref f_standing, .ref f_stations, .int 0, .ref f_limits, .ref f_worked, .int 0, .int 0, .int 0])), (f_on, .inl (cT 0, 3, .inl fon)), (f_queued, .inl (cT 0, 3, .inl (fun _ => 0))), (x_studio, .inr (8, [.ref s_puppets, .int 0, .ref s_shots, .int 0, .ref s_sounds, .ref s_rates, .ref s_dresses])), (s_shots, .inl (cT 5, 12, .inr (.inr (.inr (.inr (fun _ => none)))))), (o9, .inl (cT 2, 1, .inr (.inl fo)))]) hD hS hA [0, 1, 2, 3, 4, 5, 10] rfl
  refine va_calli (vx_runSW (As := [.ref h0, .int (xs (Int32.toNatClampNeg 1)), .int (xs (Int32.toNatClampNeg 2)), .ref o9]) (rest := []) ⟨hx, hb, hml, hown, hts⟩ (c_L_on l hst D cT h0 (xs (Int32.toNatClampNeg 1)) (xs (Int32.toNatClampNeg 2)) o9 x_studio x_script x_teller x_planner x_plan x_drifts x_floor x_trial x_tape f_taken f_on f_queues f_queued f_engaged f_dressing f_dressed f_standing f_stations f_limits f_worked fon s_puppets s_shots s_sounds s_rates s_dresses fo _ (by assumption)) (vx_cwSW 4 hts zgL_law_L_on_271 rfl rfl rfl (by decide +kernel) ⟨Nat.le_of_ble_eq_true rfl, Nat.le_of_ble_eq_true rfl⟩) (ps_z hP hD hK hG hZ hS hF [0, 1, 2, 3, 4, 5, 10] rfl rfl rfl) rfl rfl hl.1 rfl (lv_room (Nat.le_of_ble_eq_true rfl)) dL_law_2839 ⟨Nat.le_of_ble_eq_true rfl, Nat.le_of_ble_eq_true rfl⟩) hS (fun q _ h => hF q h) hF (fun r_3 uu9 tt9 H locs ht hvm wr_3 hB hz1 hk1 hS => ?_)
  obtain ⟨go_4, k_5, hP1, hD1⟩ := hB
  rw [ht] at hP1
  obtain ⟨hP, hD⟩ := va_join (wr := [(m0, .inr (12, fs)), (m_onNow, .inl (cT 0, 3, .inl mon)), (m_dressing, .inl (cT 0, 3, .inl mdi)), (m_queued, .inl (cT 0, 3, .inl (fun _ => 0)))]) (w1 := [(o9, .inl (cT 2, 1, .inr (.inl go_4)))]) hP hD [0, 1, 2, 3, 4, 5, 10] [6, 7, 8, 9] rfl rfl (by decide) (by decide) hk1 hF hP1 hD1
  have hP : va_P D vwCl [(m0, .inr (12, fs)), (m_onNow, .inl (cT 0, 3, .inl mon)), (m_dressing, .inl (cT 0, 3, .inl mdi)), (m_queued, .inl (cT 0, 3, .inl (fun _ => 0))), (o9, .inl (cT 2, 1, .inr (.inl go_4)))] _ := hP
  have hD : va_D A [(m0, .inr (12, fs)), (m_onNow, .inl (cT 0, 3, .inl mon)), (m_dressing, .inl (cT 0, 3, .inl mdi)), (m_queued, .inl (cT 0, 3, .inl (fun _ => 0))), (o9, .inl (cT 2, 1, .inr (.inl go_4)))] := hD
  refine W.widen (k := 217) (n := 539466) (Nat.le_of_ble_eq_true rfl) (Nat.le_of_ble_eq_true rfl) ?_
  refine lv_istore (lv' := [(5, .int r_3), (4, .int 0), (3, .ref o9), (2, .ref m0), (1, .ref h0), (0, .ref b)]) hx hb dL_law_2842 hl (by decide) rfl (fun ls hl => ?_)
  refine lv_aload_n hx hb dL_law_2844 rfl (lv_at hl 3 rfl) ?_
  refine lv_aload_n hx hb dL_law_2845 rfl (lv_at hl 5 rfl) ?_
  refine lv_iload hx hb dL_law_2846 (lv_at hl 1 rfl) ?_
  refine lv_iconst (v := 1) hx hb dL_law_2848 (by decide) ?_
  refine lv_iadd hx hb dL_law_2849 ?_
  refine lv_topi (fun z_6 ez_6 => ?_)
  obtain rfl : z_6 = 1 := ez_6.trans (by decide)
  refine va_sld hx hb hX hbl hbA hS (by unfold vp_in; decide) dL_law_2850 ?_
  refine lv_aload_n hx hb dL_law_2851 rfl (lv_at hl 5 rfl) ?_
  refine lv_iload hx hb dL_law_2852 (lv_at hl 1 rfl) ?_
  refine lv_iconst (v := 2) hx hb dL_law_2854 (by decide) ?_
  refine lv_iadd hx hb dL_law_2855 ?_
  refine lv_topi (fun z_7 ez_7 => ?_)
  obtain rfl : z_7 = 2 := ez_7.trans (by decide)
  refine va_sld hx hb hX hbl hbA hS (by unfold vp_in; decide) dL_law_2856 ?_
  have hF := va_free (wc := [(m0, .inr (12, fs)), (m_onNow, .inl (cT 0, 3, .inl mon)), (m_dressing, .inl (cT 0, 3, .inl mdi)), (m_queued, .inl (cT 0, 3, .inl (fun _ => 0)))]) hD hS hA [0, 1, 2, 3] rfl
  refine va_calli (va_runV (As := [.int (xs (Int32.toNatClampNeg 1)), .int (xs (Int32.toNatClampNeg 2))]) (rest := []) ⟨hx, hb, hml, hown, hts⟩ (c_X12_on l D cT m0 (xs (Int32.toNatClampNeg 1)) (xs (Int32.toNatClampNeg 2)) fs 0 m_queued m_onNow m_dressing mon mdi _ (by assumption) (by assumption) (hfs) (hfs_0) (hfs_93) (hfs_95) (hfs_96)) (cwV 2 hts zgL_law_X12_on_273 rfl rfl rfl (by decide +kernel) ⟨Nat.le_of_ble_eq_true rfl, Nat.le_of_ble_eq_true rfl⟩) (pv_w hP hD hK hG [0, 1, 2, 3] rfl rfl rfl 0 rfl rfl) rfl rfl hl.1 rfl (lv_room (Nat.le_of_ble_eq_true rfl)) dL_law_2857 ⟨Nat.le_of_ble_eq_true rfl, Nat.le_of_ble_eq_true rfl⟩) hS (fun q _ h => hF q h) hF (fun r_8 uu9 tt9 H locs ht hvm wr_8 hB hz1 hk1 hS => ?_)
  obtain ⟨gs_9, tt_10, hgs_9, hgs_9_0, k_13, hP1, hD1⟩ := hB
  rw [ht] at hP1
  obtain ⟨hP, hD⟩ := va_join (wr := [(o9, .inl (cT 2, 1, .inr (.inl go_4)))]) (w1 := [(m0, .inr (12, gs_9))]) hP hD [0, 1, 2, 3] [4] rfl rfl (by decide) (by decide) hk1 hF hP1 hD1
  have hP : va_P D vwCl [(o9, .inl (cT 2, 1, .inr (.inl go_4))), (m0, .inr (12, gs_9))] _ := hP
  have hD : va_D A [(o9, .inl (cT 2, 1, .inr (.inl go_4))), (m0, .inr (12, gs_9))] := hD
  refine lv_istore (lv' := [(6, .int r_8), (5, .int r_3), (4, .int 0), (3, .ref o9), (2, .ref m0), (1, .ref h0), (0, .ref b)]) hx hb dL_law_2860 hl (by decide) rfl (fun ls hl => ?_)
  refine lv_aload_n hx hb dL_law_2862 rfl (lv_at hl 4 rfl) ?_
  have hF := va_free (wc := [(m0, .inr (12, gs_9))]) hD hS hA [1] rfl
  refine va_calli (va_runV (As := []) (rest := []) ⟨hx, hb, hml, hown, hts⟩ (c_X12_thrown l D cT m0 gs_9 tt_10 _ (hgs_9) (hgs_9_0)) (cwV 0 hts zgL_law_X12_thrown_149 rfl rfl rfl (by decide +kernel) ⟨Nat.le_of_ble_eq_true rfl, Nat.le_of_ble_eq_true rfl⟩) (pv_w hP hD hK hG [1] rfl rfl rfl 1 rfl rfl) rfl rfl hl.1 rfl (lv_room (Nat.le_of_ble_eq_true rfl)) dL_law_2863 ⟨Nat.le_of_ble_eq_true rfl, Nat.le_of_ble_eq_true rfl⟩) hS (fun q _ h => hF q h) hF (fun r_14 uu9 tt9 H locs ht hvm wr_14 hB hz1 hk1 hS => ?_)
  obtain ⟨hP1, hD1⟩ := hB
  rw [ht] at hP1
  obtain ⟨hP, hD⟩ := va_join (wr := [(o9, .inl (cT 2, 1, .inr (.inl go_4)))]) (w1 := [(m0, .inr (12, gs_9))]) hP hD [1] [0] rfl rfl (by decide) (by decide) hk1 hF hP1 hD1
  have hP : va_P D vwCl [(o9, .inl (cT 2, 1, .inr (.inl go_4))), (m0, .inr (12, gs_9))] _ := hP
  have hD : va_D A [(o9, .inl (cT 2, 1, .inr (.inl go_4))), (m0, .inr (12, gs_9))] := hD
  refine lv_iload hx hb dL_law_2866 (lv_at hl 1 rfl) ?_
  refine lv_icmp_eq (tgt := 2873) hx hb dL_law_2868 (by decide) (fun c_15 => ?_) (fun c_15 => ((c_15 (Eq.trans (wr_14.trans k_13) (Eq.symm wr_3)) : False)).elim)
  refine lv_iload hx hb dL_law_2873 (lv_at hl 1 rfl) ?_
  refine lv_if_ne (tgt := 2890) hx hb dL_law_2875 (by decide) (fun c_16 => ?_) (fun c_16 => ?_)
  · refine lv_goto (tgt := 3043) hx hb dL_law_2890 (by decide) ?_
    exact law_end C0 hA hAl hS (lv_sub hl [2, 6] rfl) (Nat.le_of_ble_eq_true rfl) (Nat.le_of_ble_eq_true rfl)
  · refine lv_aload_n hx hb dL_law_2878 rfl (lv_at hl 3 rfl) ?_
    refine lv_iconst (v := 0) hx hb dL_law_2879 (by decide) ?_
    refine va_lald hx hb hK hP 0 2 rfl rfl (by unfold vp_in; decide) dL_law_2880 ?_
    refine lv_topl (fun j_17 ej_17 => ?_)
    refine lv_iload hx hb dL_law_2881 (lv_at hl 0 rfl) ?_
    obtain ⟨j_18, ej_18⟩ : ∃ y : Int64, y = (r_8).toInt64 := ⟨_, rfl⟩
    refine lv_i2l (v := j_18) hx hb dL_law_2883 ej_18.symm ?_
    refine W.lcmp hx hb dL_law_2884 ?_
    refine lv_topi (fun x_19 ex_19 => ?_)
    refine lv_if_eq (tgt := 2890) hx hb dL_law_2885 (by decide) (fun c_20 => ?_) (fun c_20 => ((c_20 (ex_19.trans ((congr (congrArg lg_cmp (ej_17.trans (k_5 (Eq.trans (Eq.symm wr_3) c_16)))) (ej_18.trans (congrArg Int32.toInt64 (wr_8 (Eq.trans (Eq.symm wr_3) c_16))))).trans (lcmp_self _))) : False)).elim)
    refine lv_goto (tgt := 3043) hx hb dL_law_2890 (by decide) ?_
    exact law_end C0 hA hAl hS (lv_sub hl [2, 6] rfl) (Nat.le_of_ble_eq_true rfl) (Nat.le_of_ble_eq_true rfl)
theorem dL_law_2893 : decode cL_law 2893 = .ok (.aload_n 1, 1) := by decide +kernel
theorem dL_law_2894 : decode cL_law 2894 = .ok (.aload_n 0, 1) := by decide +kernel
theorem dL_law_2895 : decode cL_law 2895 = .ok (.iload 4, 2) := by decide +kernel
theorem dL_law_2897 : decode cL_law 2897 = .ok (.iconst 1, 1) := by decide +kernel
theorem dL_law_2898 : decode cL_law 2898 = .ok (.iadd, 1) := by decide +kernel
theorem dL_law_2899 : decode cL_law 2899 = .ok (.iaload, 1) := by decide +kernel
theorem dL_law_2900 : decode cL_law 2900 = .ok (.aload_n 3, 1) := by decide +kernel
theorem dL_law_2901 : decode cL_law 2901 = .ok (.invokestatic 274, 3) := by decide +kernel
theorem dL_law_2904 : decode cL_law 2904 = .ok (.istore 5, 2) := by decide +kernel
theorem dL_law_2906 : decode cL_law 2906 = .ok (.aload_n 2, 1) := by decide +kernel
theorem dL_law_2907 : decode cL_law 2907 = .ok (.aload_n 0, 1) := by decide +kernel
theorem dL_law_2908 : decode cL_law 2908 = .ok (.iload 4, 2) := by decide +kernel
theorem dL_law_2910 : decode cL_law 2910 = .ok (.iconst 1, 1) := by decide +kernel
theorem dL_law_2911 : decode cL_law 2911 = .ok (.iadd, 1) := by decide +kernel
theorem dL_law_2912 : decode cL_law 2912 = .ok (.iaload, 1) := by decide +kernel
theorem dL_law_2913 : decode cL_law 2913 = .ok (.invokevirtual 276, 3) := by decide +kernel
theorem dL_law_2916 : decode cL_law 2916 = .ok (.istore 6, 2) := by decide +kernel
theorem dL_law_2918 : decode cL_law 2918 = .ok (.aload_n 2, 1) := by decide +kernel
theorem dL_law_2919 : decode cL_law 2919 = .ok (.invokevirtual 149, 3) := by decide +kernel
theorem dL_law_2922 : decode cL_law 2922 = .ok (.iload 5, 2) := by decide +kernel
theorem dL_law_2924 : decode cL_law 2924 = .ok (.if_icmp .eq 5, 3) := by decide +kernel
theorem dL_law_2929 : decode cL_law 2929 = .ok (.iload 5, 2) := by decide +kernel
theorem dL_law_2931 : decode cL_law 2931 = .ok (.ifCond .ne 15, 3) := by decide +kernel
theorem dL_law_2934 : decode cL_law 2934 = .ok (.aload_n 3, 1) := by decide +kernel
theorem dL_law_2935 : decode cL_law 2935 = .ok (.iconst 0, 1) := by decide +kernel
theorem dL_law_2936 : decode cL_law 2936 = .ok (.laload, 1) := by decide +kernel
theorem dL_law_2937 : decode cL_law 2937 = .ok (.iload 6, 2) := by decide +kernel
theorem dL_law_2939 : decode cL_law 2939 = .ok (.i2l, 1) := by decide +kernel
theorem dL_law_2940 : decode cL_law 2940 = .ok (.lcmp, 1) := by decide +kernel
theorem dL_law_2941 : decode cL_law 2941 = .ok (.ifCond .eq 5, 3) := by decide +kernel
theorem dL_law_2946 : decode cL_law 2946 = .ok (.goto 97, 3) := by decide +kernel
set_option maxRecDepth 100000 in
theorem zgL_law_L_stands_274_w : GoodIn lw_tbl wsL_stands := goodIn_app (goodIn_sub (ws := [.codeWith yL_stands cL_stands 4 (some .int) [(0, 9, 12, 15)]]) (fun _ h9 => List.mem_singleton.mp h9 ▸ List.mem_of_getElem? (i := 1853) rfl) (by decide +kernel)) (goodIn_app (goodIn_app (goodIn_app (goodIn_sub (ws := [.classLink RL 15 "java/lang/IllegalArgumentException", .methodLink RL 128 yX11_stands, .instanceMethod yX11_stands, .selects RX11 yX11_stands yX11_stands, .initialized RX11, .code yX11_stands cX11_stands 2 (some .int), .fieldLink RX11 60 "PuppetFilm" "floor" "LPuppetFilm$Floor;", .methodLink RX11 97 yX11_within, .static yX11_within, .code yX11_within cX11_within 3 (some .boolean), .methodLink RX11 93 yX11_need, .static yX11_need, .code yX11_need cX11_need 1 none, .classLink RX11 192 "java/lang/IllegalArgumentException", .initialized "java/lang/IllegalArgumentException", .methodLink RX11 391 yX1_standsIn, .instanceMethod yX1_standsIn, .selects RX1 yX1_standsIn yX1_standsIn, .initialized RX1, .code yX1_standsIn cX1_standsIn 2 (some .int), .fieldLink RX1 33 "PuppetFilm$Floor" "standing" "[I", .static yX11_entry, .code yX11_entry cX11_entry 3 (some .int)]) (mem_ps [849, 1854, 1855, 1856, 118, 1857, 560, 953, 758, 759, 934, 935, 936, 937, 135, 1858, 786, 787, 128, 788, 507, 666, 667] (by decide +kernel)) (by decide +kernel)) zgC_X11) zgC_X1) zgF_196)
set_option maxRecDepth 100000 in
theorem zgL_law_L_stands_274 : GoodIn lw_tbl (va_wsS RL 274 yL_stands wsL_stands) := goodIn_app (goodIn_sub (mem_ps [1851, 1852, 117] (by decide +kernel)) (by decide +kernel)) zgL_law_L_stands_274_w
set_option maxRecDepth 100000 in
theorem zgL_law_X12_stands_276_w : GoodIn lw_tbl wsX12_stands := goodIn_app (goodIn_sub (ws := [.code yX12_stands cX12_stands 2 (some .int)]) (fun _ h9 => List.mem_singleton.mp h9 ▸ List.mem_of_getElem? (i := 2629) rfl) (by decide +kernel)) (goodIn_app (goodIn_sub (ws := [.fieldLink RX12 1 "PuppetFilmModel" "thrown" "I", .fieldLink RX12 234 "PuppetFilmModel" "standsIn" "[I", .methodLink RX12 267 yX12_within, .static yX12_within, .initialized RX12, .code yX12_within cX12_within 3 (some .boolean), .methodLink RX12 271 yX12_may, .instanceMethod yX12_may, .selects RX12 yX12_may yX12_may, .code yX12_may cX12_may 3 (some .boolean)]) (mem_ps [1882, 1980, 2222, 2223, 129, 2224, 2225, 2227, 63, 2228] (by decide +kernel)) (by decide +kernel)) zgC_X12)
set_option maxRecDepth 100000 in
theorem zgL_law_X12_stands_276 : GoodIn lw_tbl (wsV RL 276 RX12 yX12_stands wsX12_stands) := goodIn_app (goodIn_sub (mem_ps [2626, 2627, 2628, 129] (by decide +kernel)) (by decide +kernel)) zgL_law_X12_stands_276_w
set_option maxHeartbeats 8000000 in
set_option maxRecDepth 100000 in
/-- the law: stands -/
theorem law_case_39 {p : Program} {l : Launch} {e : Env} {s : State} {m : MethodId} {below : List Frame} {meth : Method} {c : Code} {D : va_G} {cT : Nat → ClassId} {b : Nat} {xs : Nat → Int32} {A : Nat → Prop} (hst : l.stackTraces = false) (C0 : lw_At p s m meth c b 7 xs) (hA : ∀ q : Nat, s.heap.size ≤ q → A q) (hAl : ∀ q, A q → s.heap.size ≤ q) (hK : va_K D vwCl (TY cT) s) (hG : GW s) (hZ : GZ A s s.heap) {h0 : Nat} {m0 : Nat} {o9 : Nat} {x_studio : Nat} {x_script : Nat} {x_teller : Nat} {x_planner : Nat} {x_plan : Nat} {x_drifts : Nat} {x_floor : Nat} {x_trial : Nat} {x_tape : Nat} {f_studio : Nat} {f_taken : Nat} {f_on : Nat} {f_queues : Nat} {f_queued : Nat} {f_engaged : Nat} {f_dressing : Nat} {f_dressed : Nat} {f_standing : Nat} {f_stations : Nat} {f_limits : Nat} {f_worked : Nat} {fsg : Nat → Int32} {fs : List Value} {m_standsIn : Nat} {msi : Nat → Int32} {fo : Nat → Int64} (q0 : ∀ k, k < 8 → fsg k = -1) (q1 : ∀ k, k < 8 → msi k = -1) (hfs : fs.length = 109) (hfs_0 : fs[0]? = some (.int 0)) (hfs_98 : fs[98]? = some (.ref m_standsIn)) {H : Heap} {locs : List Loc} (hP : va_P D vwCl [(h0, .inr (11, [.ref x_studio, .ref x_script, .ref x_teller, .ref x_planner, .ref x_plan, .ref x_drifts, .ref x_floor, .ref x_trial, .ref x_tape, .int 0, .int (-1)])), (x_floor, .inr (1, [.ref f_studio, .int 1, .int 0, .ref f_taken, .ref f_on, .ref f_queues, .ref f_queued, .ref f_engaged, .ref f_dressing, .ref f_dressed, .ref f_standing, .ref f_stations, .int 0, .ref f_limits, .ref f_worked, .int 0, .int 0, .int 0])), (f_standing, .inl (cT 0, 8, .inl fsg)), (m0, .inr (12, fs)), (m_standsIn, .inl (cT 0, 8, .inl msi)), (o9, .inl (cT 2, 1, .inr (.inl fo)))] H) (hD : va_D A [(h0, .inr (11, [.ref x_studio, .ref x_script, .ref x_teller, .ref x_planner, .ref x_plan, .ref x_drifts, .ref x_floor, .ref x_trial, .ref x_tape, .int 0, .int (-1)])), (x_floor, .inr (1, [.ref f_studio, .int 1, .int 0, .ref f_taken, .ref f_on, .ref f_queues, .ref f_queued, .ref f_engaged, .ref f_dressing, .ref f_dressed, .ref f_standing, .ref f_stations, .int 0, .ref f_limits, .ref f_worked, .int 0, .int 0, .int 0])), (f_standing, .inl (cT 0, 8, .inl fsg)), (m0, .inr (12, fs)), (m_standsIn, .inl (cT 0, 8, .inl msi)), (o9, .inl (cT 2, 1, .inr (.inl fo)))]) (hS : va_S A s.heap H locs) {ls : Array Slot} (hl : lv_has ls 7 [(4, .int 0), (3, .ref o9), (2, .ref m0), (1, .ref h0), (0, .ref b)]) : W p l e room_1 s m #[Value.ref b] below meth c H locs 215 539454 (lw_Z below #[Value.ref b] s) (F0 m 2893 ls []) := by
  obtain ⟨hx, hb, hr, hml, hown, hts0, hX, hbl, hlocks, hgv⟩ := id C0
  have hts := hts0
  have hbA : ¬ A b := fun h => absurd (hAl b h) (Nat.not_le.mpr hbl)
  have hown : s.vm.findClass RL = some m.cls := hown
  have hb : c.code = cL_law := hb
  refine lv_aload_n hx hb dL_law_2893 rfl (lv_at hl 3 rfl) ?_
  refine lv_aload_n hx hb dL_law_2894 rfl (lv_at hl 4 rfl) ?_
  refine lv_iload hx hb dL_law_2895 (lv_at hl 0 rfl) ?_
  refine lv_iconst (v := 1) hx hb dL_law_2897 (by decide) ?_
  refine lv_iadd hx hb dL_law_2898 ?_
  refine lv_topi (fun z_1 ez_1 => ?_)
  obtain rfl : z_1 = 1 := ez_1.trans (by decide)
  refine va_sld hx hb hX hbl hbA hS (by unfold vp_in; decide) dL_law_2899 ?_
  refine lv_aload_n hx hb dL_law_2900 rfl (lv_at hl 1 rfl) ?_
  have hF := va_free (wc := [(h0, .inr (11, [.ref x_studio, .ref x_script, .ref x_teller, .ref x_planner, .ref x_plan, .ref x_drifts, .ref x_floor, .ref x_trial, .ref x_tape, .int 0, .int (-1)])), (x_floor, .inr (1, [.ref f_studio, .int 1, .int 0, .ref f_taken, .ref f_on, .ref f_queues, .ref f_queued, .ref f_engaged, .ref f_dressing, .ref f_dressed, .ref f_standing, .ref f_stations, .int 0, .ref f_limits, .ref f_worked, .int 0, .int 0, .int 0])), (f_standing, .inl (cT 0, 8, .inl fsg)), (o9, .inl (cT 2, 1, .inr (.inl fo)))]) hD hS hA [0, 1, 2, 5] rfl
  refine va_calli (vx_runSW (As := [.ref h0, .int (xs (Int32.toNatClampNeg 1)), .ref o9]) (rest := []) ⟨hx, hb, hml, hown, hts⟩ (c_L_stands l hst D cT h0 (xs (Int32.toNatClampNeg 1)) o9 x_studio x_script x_teller x_planner x_plan x_drifts x_floor x_trial x_tape f_studio f_taken f_on f_queues f_queued f_engaged f_dressing f_dressed f_standing f_stations f_limits f_worked fsg fo _ (by assumption)) (vx_cwSW 3 hts zgL_law_L_stands_274 rfl rfl rfl (by decide +kernel) ⟨Nat.le_of_ble_eq_true rfl, Nat.le_of_ble_eq_true rfl⟩) (ps_z hP hD hK hG hZ hS hF [0, 1, 2, 5] rfl rfl rfl) rfl rfl hl.1 rfl (lv_room (Nat.le_of_ble_eq_true rfl)) dL_law_2901 ⟨Nat.le_of_ble_eq_true rfl, Nat.le_of_ble_eq_true rfl⟩) hS (fun q _ h => hF q h) hF (fun r_2 uu9 tt9 H locs ht hvm wr_2 hB hz1 hk1 hS => ?_)
  obtain ⟨go_3, k_4, hP1, hD1⟩ := hB
  rw [ht] at hP1
  obtain ⟨hP, hD⟩ := va_join (wr := [(m0, .inr (12, fs)), (m_standsIn, .inl (cT 0, 8, .inl msi))]) (w1 := [(o9, .inl (cT 2, 1, .inr (.inl go_3)))]) hP hD [0, 1, 2, 5] [3, 4] rfl rfl (by decide) (by decide) hk1 hF hP1 hD1
  have hP : va_P D vwCl [(m0, .inr (12, fs)), (m_standsIn, .inl (cT 0, 8, .inl msi)), (o9, .inl (cT 2, 1, .inr (.inl go_3)))] _ := hP
  have hD : va_D A [(m0, .inr (12, fs)), (m_standsIn, .inl (cT 0, 8, .inl msi)), (o9, .inl (cT 2, 1, .inr (.inl go_3)))] := hD
  refine W.widen (k := 216) (n := 539460) (Nat.le_of_ble_eq_true rfl) (Nat.le_of_ble_eq_true rfl) ?_
  refine lv_istore (lv' := [(5, .int r_2), (4, .int 0), (3, .ref o9), (2, .ref m0), (1, .ref h0), (0, .ref b)]) hx hb dL_law_2904 hl (by decide) rfl (fun ls hl => ?_)
  refine lv_aload_n hx hb dL_law_2906 rfl (lv_at hl 3 rfl) ?_
  refine lv_aload_n hx hb dL_law_2907 rfl (lv_at hl 5 rfl) ?_
  refine lv_iload hx hb dL_law_2908 (lv_at hl 1 rfl) ?_
  refine lv_iconst (v := 1) hx hb dL_law_2910 (by decide) ?_
  refine lv_iadd hx hb dL_law_2911 ?_
  refine lv_topi (fun z_5 ez_5 => ?_)
  obtain rfl : z_5 = 1 := ez_5.trans (by decide)
  refine va_sld hx hb hX hbl hbA hS (by unfold vp_in; decide) dL_law_2912 ?_
  have hF := va_free (wc := [(m0, .inr (12, fs)), (m_standsIn, .inl (cT 0, 8, .inl msi))]) hD hS hA [0, 1] rfl
  refine va_calli (va_runV (As := [.int (xs (Int32.toNatClampNeg 1))]) (rest := []) ⟨hx, hb, hml, hown, hts⟩ (c_X12_stands l D cT m0 (xs (Int32.toNatClampNeg 1)) fs 0 m_standsIn msi _ (by assumption) (hfs) (hfs_0) (hfs_98)) (cwV 1 hts zgL_law_X12_stands_276 rfl rfl rfl (by decide +kernel) ⟨Nat.le_of_ble_eq_true rfl, Nat.le_of_ble_eq_true rfl⟩) (pv_w hP hD hK hG [0, 1] rfl rfl rfl 0 rfl rfl) rfl rfl hl.1 rfl (lv_room (Nat.le_of_ble_eq_true rfl)) dL_law_2913 ⟨Nat.le_of_ble_eq_true rfl, Nat.le_of_ble_eq_true rfl⟩) hS (fun q _ h => hF q h) hF (fun r_6 uu9 tt9 H locs ht hvm wr_6 hB hz1 hk1 hS => ?_)
  obtain ⟨gs_7, tt_8, hgs_7, hgs_7_0, k_11, hP1, hD1⟩ := hB
  rw [ht] at hP1
  obtain ⟨hP, hD⟩ := va_join (wr := [(o9, .inl (cT 2, 1, .inr (.inl go_3)))]) (w1 := [(m0, .inr (12, gs_7))]) hP hD [0, 1] [2] rfl rfl (by decide) (by decide) hk1 hF hP1 hD1
  have hP : va_P D vwCl [(o9, .inl (cT 2, 1, .inr (.inl go_3))), (m0, .inr (12, gs_7))] _ := hP
  have hD : va_D A [(o9, .inl (cT 2, 1, .inr (.inl go_3))), (m0, .inr (12, gs_7))] := hD
  refine lv_istore (lv' := [(6, .int r_6), (5, .int r_2), (4, .int 0), (3, .ref o9), (2, .ref m0), (1, .ref h0), (0, .ref b)]) hx hb dL_law_2916 hl (by decide) rfl (fun ls hl => ?_)
  refine lv_aload_n hx hb dL_law_2918 rfl (lv_at hl 4 rfl) ?_
  have hF := va_free (wc := [(m0, .inr (12, gs_7))]) hD hS hA [1] rfl
  refine va_calli (va_runV (As := []) (rest := []) ⟨hx, hb, hml, hown, hts⟩ (c_X12_thrown l D cT m0 gs_7 tt_8 _ (hgs_7) (hgs_7_0)) (cwV 0 hts zgL_law_X12_thrown_149 rfl rfl rfl (by decide +kernel) ⟨Nat.le_of_ble_eq_true rfl, Nat.le_of_ble_eq_true rfl⟩) (pv_w hP hD hK hG [1] rfl rfl rfl 1 rfl rfl) rfl rfl hl.1 rfl (lv_room (Nat.le_of_ble_eq_true rfl)) dL_law_2919 ⟨Nat.le_of_ble_eq_true rfl, Nat.le_of_ble_eq_true rfl⟩) hS (fun q _ h => hF q h) hF (fun r_12 uu9 tt9 H locs ht hvm wr_12 hB hz1 hk1 hS => ?_)
  obtain ⟨hP1, hD1⟩ := hB
  rw [ht] at hP1
  obtain ⟨hP, hD⟩ := va_join (wr := [(o9, .inl (cT 2, 1, .inr (.inl go_3)))]) (w1 := [(m0, .inr (12, gs_7))]) hP hD [1] [0] rfl rfl (by decide) (by decide) hk1 hF hP1 hD1
  have hP : va_P D vwCl [(o9, .inl (cT 2, 1, .inr (.inl go_3))), (m0, .inr (12, gs_7))] _ := hP
  have hD : va_D A [(o9, .inl (cT 2, 1, .inr (.inl go_3))), (m0, .inr (12, gs_7))] := hD
  refine lv_iload hx hb dL_law_2922 (lv_at hl 1 rfl) ?_
  refine lv_icmp_eq (tgt := 2929) hx hb dL_law_2924 (by decide) (fun c_13 => ?_) (fun c_13 => ((c_13 (Eq.trans (wr_12.trans k_11) (Eq.symm wr_2)) : False)).elim)
  refine lv_iload hx hb dL_law_2929 (lv_at hl 1 rfl) ?_
  refine lv_if_ne (tgt := 2946) hx hb dL_law_2931 (by decide) (fun c_14 => ?_) (fun c_14 => ?_)
  · refine lv_goto (tgt := 3043) hx hb dL_law_2946 (by decide) ?_
    exact law_end C0 hA hAl hS (lv_sub hl [2, 6] rfl) (Nat.le_of_ble_eq_true rfl) (Nat.le_of_ble_eq_true rfl)
  · refine lv_aload_n hx hb dL_law_2934 rfl (lv_at hl 3 rfl) ?_
    refine lv_iconst (v := 0) hx hb dL_law_2935 (by decide) ?_
    refine va_lald hx hb hK hP 0 2 rfl rfl (by unfold vp_in; decide) dL_law_2936 ?_
    refine lv_topl (fun j_15 ej_15 => ?_)
    refine lv_iload hx hb dL_law_2937 (lv_at hl 0 rfl) ?_
    obtain ⟨j_16, ej_16⟩ : ∃ y : Int64, y = (r_6).toInt64 := ⟨_, rfl⟩
    refine lv_i2l (v := j_16) hx hb dL_law_2939 ej_16.symm ?_
    refine W.lcmp hx hb dL_law_2940 ?_
    refine lv_topi (fun x_17 ex_17 => ?_)
    refine lv_if_eq (tgt := 2946) hx hb dL_law_2941 (by decide) (fun c_18 => ?_) (fun c_18 => ((c_18 (ex_17.trans ((congr (congrArg lg_cmp (ej_15.trans (k_4 (Eq.trans (Eq.symm wr_2) c_14)))) (ej_16.trans (congrArg Int32.toInt64 (wr_6 (Eq.trans (Eq.symm wr_2) c_14))))).trans (lcmp_self _))) : False)).elim)
    refine lv_goto (tgt := 3043) hx hb dL_law_2946 (by decide) ?_
    exact law_end C0 hA hAl hS (lv_sub hl [2, 6] rfl) (Nat.le_of_ble_eq_true rfl) (Nat.le_of_ble_eq_true rfl)
theorem dL_law_2949 : decode cL_law 2949 = .ok (.aload_n 1, 1) := by decide +kernel
theorem dL_law_2950 : decode cL_law 2950 = .ok (.aload_n 0, 1) := by decide +kernel
theorem dL_law_2951 : decode cL_law 2951 = .ok (.iload 4, 2) := by decide +kernel
theorem dL_law_2953 : decode cL_law 2953 = .ok (.iconst 1, 1) := by decide +kernel
theorem dL_law_2954 : decode cL_law 2954 = .ok (.iadd, 1) := by decide +kernel
theorem dL_law_2955 : decode cL_law 2955 = .ok (.iaload, 1) := by decide +kernel
theorem dL_law_2956 : decode cL_law 2956 = .ok (.aload_n 3, 1) := by decide +kernel
theorem dL_law_2957 : decode cL_law 2957 = .ok (.invokestatic 277, 3) := by decide +kernel
theorem dL_law_2960 : decode cL_law 2960 = .ok (.istore 5, 2) := by decide +kernel
theorem dL_law_2962 : decode cL_law 2962 = .ok (.aload_n 2, 1) := by decide +kernel
theorem dL_law_2963 : decode cL_law 2963 = .ok (.aload_n 0, 1) := by decide +kernel
theorem dL_law_2964 : decode cL_law 2964 = .ok (.iload 4, 2) := by decide +kernel
theorem dL_law_2966 : decode cL_law 2966 = .ok (.iconst 1, 1) := by decide +kernel
theorem dL_law_2967 : decode cL_law 2967 = .ok (.iadd, 1) := by decide +kernel
theorem dL_law_2968 : decode cL_law 2968 = .ok (.iaload, 1) := by decide +kernel
theorem dL_law_2969 : decode cL_law 2969 = .ok (.invokevirtual 279, 3) := by decide +kernel
theorem dL_law_2972 : decode cL_law 2972 = .ok (.istore 6, 2) := by decide +kernel
theorem dL_law_2974 : decode cL_law 2974 = .ok (.aload_n 2, 1) := by decide +kernel
theorem dL_law_2975 : decode cL_law 2975 = .ok (.invokevirtual 149, 3) := by decide +kernel
theorem dL_law_2978 : decode cL_law 2978 = .ok (.iload 5, 2) := by decide +kernel
theorem dL_law_2980 : decode cL_law 2980 = .ok (.if_icmp .eq 5, 3) := by decide +kernel
theorem dL_law_2985 : decode cL_law 2985 = .ok (.iload 5, 2) := by decide +kernel
theorem dL_law_2987 : decode cL_law 2987 = .ok (.ifCond .ne 15, 3) := by decide +kernel
theorem dL_law_3002 : decode cL_law 3002 = .ok (.goto 41, 3) := by decide +kernel
set_option maxRecDepth 100000 in
theorem zgL_law_wsL_worked_r1 : GoodIn lw_tbl wsL_worked_r1 := goodIn_sub (mem_ps [849, 1862, 1863, 1864, 118, 1865, 560, 511, 953, 758, 759, 934, 935, 936, 937, 135, 1866, 1867, 1868, 128, 1869, 513, 741, 743] rfl) (by decide +kernel)
set_option maxRecDepth 100000 in
theorem zgL_law_wsL_worked_r2 : GoodIn lw_tbl wsL_worked_r2 := goodIn_sub (mem_ps [6, 744, 498, 514, 495, 165, 120, 166, 666, 667] rfl) (by decide +kernel)
set_option maxRecDepth 100000 in
theorem zgL_law_L_worked_277_w : GoodIn lw_tbl wsL_worked := goodIn_app (goodIn_sub (ws := [.codeWith yL_worked cL_worked 4 (some .int) [(0, 9, 12, 15)]]) (fun _ h9 => List.mem_singleton.mp h9 ▸ List.mem_of_getElem? (i := 1861) rfl) (by decide +kernel)) (goodIn_app (goodIn_app (goodIn_app (goodIn_app zgL_law_wsL_worked_r1 zgL_law_wsL_worked_r2) zgC_X11) zgC_X1) zgF_196)
set_option maxRecDepth 100000 in
theorem zgL_law_L_worked_277 : GoodIn lw_tbl (va_wsS RL 277 yL_worked wsL_worked) := goodIn_app (goodIn_sub (mem_ps [1859, 1860, 117] (by decide +kernel)) (by decide +kernel)) zgL_law_L_worked_277_w
set_option maxRecDepth 100000 in
theorem zgL_law_X12_worked_279_w : GoodIn lw_tbl wsX12_worked := goodIn_app (goodIn_sub (ws := [.code yX12_worked cX12_worked 2 (some .int)]) (fun _ h9 => List.mem_singleton.mp h9 ▸ List.mem_of_getElem? (i := 2633) rfl) (by decide +kernel)) (goodIn_app (goodIn_sub (ws := [.fieldLink RX12 1 "PuppetFilmModel" "thrown" "I", .fieldLink RX12 525 "PuppetFilmModel" "animators" "I", .methodLink RX12 267 yX12_within, .static yX12_within, .initialized RX12, .code yX12_within cX12_within 3 (some .boolean), .methodLink RX12 271 yX12_may, .instanceMethod yX12_may, .selects RX12 yX12_may yX12_may, .code yX12_may cX12_may 3 (some .boolean), .methodLink RX12 543 yX12_weekly, .instanceMethod yX12_weekly, .selects RX12 yX12_weekly yX12_weekly, .code yX12_weekly cX12_weekly 2 (some .int), .fieldLink RX12 210 "PuppetFilmModel" "workedIn" "[I", .fieldLink RX12 513 "PuppetFilmModel" "half" "I", .fieldLink RX12 213 "PuppetFilmModel" "worked" "[I"]) (mem_ps [1882, 1970, 2222, 2223, 129, 2224, 2225, 2227, 63, 2228, 2618, 2620, 115, 2621, 1972, 1964, 1973] (by decide +kernel)) (by decide +kernel)) zgC_X12)
set_option maxRecDepth 100000 in
theorem zgL_law_X12_worked_279 : GoodIn lw_tbl (wsV RL 279 RX12 yX12_worked wsX12_worked) := goodIn_app (goodIn_sub (mem_ps [2630, 2631, 2632, 129] (by decide +kernel)) (by decide +kernel)) zgL_law_X12_worked_279_w
set_option maxHeartbeats 8000000 in
set_option maxRecDepth 100000 in
/-- the law: worked -/
theorem law_case_40 {p : Program} {l : Launch} {e : Env} {s : State} {m : MethodId} {below : List Frame} {meth : Method} {c : Code} {D : va_G} {cT : Nat → ClassId} {b : Nat} {xs : Nat → Int32} {A : Nat → Prop} (hst : l.stackTraces = false) (C0 : lw_At p s m meth c b 7 xs) (hA : ∀ q : Nat, s.heap.size ≤ q → A q) (hAl : ∀ q, A q → s.heap.size ≤ q) (hK : va_K D vwCl (TY cT) s) (hG : GW s) (hZ : GZ A s s.heap) {h0 : Nat} {m0 : Nat} {o9 : Nat} {x_studio : Nat} {x_script : Nat} {x_teller : Nat} {x_planner : Nat} {x_plan : Nat} {x_drifts : Nat} {x_floor : Nat} {x_trial : Nat} {x_tape : Nat} {f_studio : Nat} {f_taken : Nat} {f_on : Nat} {f_queues : Nat} {f_queued : Nat} {f_engaged : Nat} {f_dressing : Nat} {f_dressed : Nat} {f_standing : Nat} {f_stations : Nat} {f_limits : Nat} {f_worked : Nat} {fs : List Value} (hfs : fs.length = 109) (hfs_0 : fs[0]? = some (.int 0)) (hfs_88 : fs[88]? = some (.int 0)) {H : Heap} {locs : List Loc} (hP : va_P D vwCl [(h0, .inr (11, [.ref x_studio, .ref x_script, .ref x_teller, .ref x_planner, .ref x_plan, .ref x_drifts, .ref x_floor, .ref x_trial, .ref x_tape, .int 0, .int (-1)])), (x_floor, .inr (1, [.ref f_studio, .int 1, .int 0, .ref f_taken, .ref f_on, .ref f_queues, .ref f_queued, .ref f_engaged, .ref f_dressing, .ref f_dressed, .ref f_standing, .ref f_stations, .int 0, .ref f_limits, .ref f_worked, .int 0, .int 0, .int 0])), (m0, .inr (12, fs))] H) (hD : va_D A [(h0, .inr (11, [.ref x_studio, .ref x_script, .ref x_teller, .ref x_planner, .ref x_plan, .ref x_drifts, .ref x_floor, .ref x_trial, .ref x_tape, .int 0, .int (-1)])), (x_floor, .inr (1, [.ref f_studio, .int 1, .int 0, .ref f_taken, .ref f_on, .ref f_queues, .ref f_queued, .ref f_engaged, .ref f_dressing, .ref f_dressed, .ref f_standing, .ref f_stations, .int 0, .ref f_limits, .ref f_worked, .int 0, .int 0, .int 0])), (m0, .inr (12, fs))]) (hS : va_S A s.heap H locs) {ls : Array Slot} (hl : lv_has ls 7 [(4, .int 0), (3, .ref o9), (2, .ref m0), (1, .ref h0), (0, .ref b)]) : W p l e room_1 s m #[Value.ref b] below meth c H locs 215 539454 (lw_Z below #[Value.ref b] s) (F0 m 2949 ls []) := by
  obtain ⟨hx, hb, hr, hml, hown, hts0, hX, hbl, hlocks, hgv⟩ := id C0
  have hts := hts0
  have hbA : ¬ A b := fun h => absurd (hAl b h) (Nat.not_le.mpr hbl)
  have hown : s.vm.findClass RL = some m.cls := hown
  have hb : c.code = cL_law := hb
  refine lv_aload_n hx hb dL_law_2949 rfl (lv_at hl 3 rfl) ?_
  refine lv_aload_n hx hb dL_law_2950 rfl (lv_at hl 4 rfl) ?_
  refine lv_iload hx hb dL_law_2951 (lv_at hl 0 rfl) ?_
  refine lv_iconst (v := 1) hx hb dL_law_2953 (by decide) ?_
  refine lv_iadd hx hb dL_law_2954 ?_
  refine lv_topi (fun z_1 ez_1 => ?_)
  obtain rfl : z_1 = 1 := ez_1.trans (by decide)
  refine va_sld hx hb hX hbl hbA hS (by unfold vp_in; decide) dL_law_2955 ?_
  refine lv_aload_n hx hb dL_law_2956 rfl (lv_at hl 1 rfl) ?_
  have hF := va_free (wc := [(h0, .inr (11, [.ref x_studio, .ref x_script, .ref x_teller, .ref x_planner, .ref x_plan, .ref x_drifts, .ref x_floor, .ref x_trial, .ref x_tape, .int 0, .int (-1)])), (x_floor, .inr (1, [.ref f_studio, .int 1, .int 0, .ref f_taken, .ref f_on, .ref f_queues, .ref f_queued, .ref f_engaged, .ref f_dressing, .ref f_dressed, .ref f_standing, .ref f_stations, .int 0, .ref f_limits, .ref f_worked, .int 0, .int 0, .int 0]))]) hD hS hA [0, 1] rfl
  refine va_calli (vx_runSW (As := [.ref h0, .int (xs (Int32.toNatClampNeg 1)), .ref o9]) (rest := []) ⟨hx, hb, hml, hown, hts⟩ (c_L_worked l hst D cT h0 (xs (Int32.toNatClampNeg 1)) o9 x_studio x_script x_teller x_planner x_plan x_drifts x_floor x_trial x_tape f_studio f_taken f_on f_queues f_queued f_engaged f_dressing f_dressed f_standing f_stations f_limits f_worked _ ) (vx_cwSW 3 hts zgL_law_L_worked_277 rfl rfl rfl (by decide +kernel) ⟨Nat.le_of_ble_eq_true rfl, Nat.le_of_ble_eq_true rfl⟩) (ps_z hP hD hK hG hZ hS hF [0, 1] rfl rfl rfl) rfl rfl hl.1 rfl (lv_room (Nat.le_of_ble_eq_true rfl)) dL_law_2957 ⟨Nat.le_of_ble_eq_true rfl, Nat.le_of_ble_eq_true rfl⟩) hS (fun q _ h => hF q h) hF (fun r_2 uu9 tt9 H locs ht hvm wr_2 hB hz1 hk1 hS => ?_)
  obtain ⟨hP, hD⟩ := va_join (wr := [(m0, .inr (12, fs))]) (w1 := []) hP hD [0, 1] [2] rfl rfl (by decide) (by decide) hk1 hF vp_nil vd_nil
  have hP : va_P D vwCl [(m0, .inr (12, fs))] _ := hP
  have hD : va_D A [(m0, .inr (12, fs))] := hD
  refine W.widen (k := 216) (n := 539460) (Nat.le_of_ble_eq_true rfl) (Nat.le_of_ble_eq_true rfl) ?_
  obtain rfl : r_2 = 1 := wr_2.trans (rfl)
  refine lv_istore (lv' := [(5, .int 1), (4, .int 0), (3, .ref o9), (2, .ref m0), (1, .ref h0), (0, .ref b)]) hx hb dL_law_2960 hl (by decide) rfl (fun ls hl => ?_)
  refine lv_aload_n hx hb dL_law_2962 rfl (lv_at hl 3 rfl) ?_
  refine lv_aload_n hx hb dL_law_2963 rfl (lv_at hl 5 rfl) ?_
  refine lv_iload hx hb dL_law_2964 (lv_at hl 1 rfl) ?_
  refine lv_iconst (v := 1) hx hb dL_law_2966 (by decide) ?_
  refine lv_iadd hx hb dL_law_2967 ?_
  refine lv_topi (fun z_3 ez_3 => ?_)
  obtain rfl : z_3 = 1 := ez_3.trans (by decide)
  refine va_sld hx hb hX hbl hbA hS (by unfold vp_in; decide) dL_law_2968 ?_
  have hF := va_free (wc := [(m0, .inr (12, fs))]) hD hS hA [0] rfl
  refine va_calli (va_runV (As := [.int (xs (Int32.toNatClampNeg 1))]) (rest := []) ⟨hx, hb, hml, hown, hts⟩ (c_X12_worked l D cT m0 (xs (Int32.toNatClampNeg 1)) fs 0 _ (hfs) (hfs_0) (hfs_88)) (cwV 1 hts zgL_law_X12_worked_279 rfl rfl rfl (by decide +kernel) ⟨Nat.le_of_ble_eq_true rfl, Nat.le_of_ble_eq_true rfl⟩) (pv_w hP hD hK hG [0] rfl rfl rfl 0 rfl rfl) rfl rfl hl.1 rfl (lv_room (Nat.le_of_ble_eq_true rfl)) dL_law_2969 ⟨Nat.le_of_ble_eq_true rfl, Nat.le_of_ble_eq_true rfl⟩) hS (fun q _ h => hF q h) hF (fun r_4 uu9 tt9 H locs ht hvm wr_4 hB hz1 hk1 hS => ?_)
  obtain ⟨gs_5, hgs_5, hgs_5_0, hP1, hD1⟩ := hB
  rw [ht] at hP1
  obtain ⟨hP, hD⟩ := va_join (wr := []) (w1 := [(m0, .inr (12, gs_5))]) hP hD [0] [] rfl rfl (by decide) (by decide) hk1 hF hP1 hD1
  have hP : va_P D vwCl [(m0, .inr (12, gs_5))] _ := hP
  have hD : va_D A [(m0, .inr (12, gs_5))] := hD
  refine lv_istore (lv' := [(6, .int r_4), (5, .int 1), (4, .int 0), (3, .ref o9), (2, .ref m0), (1, .ref h0), (0, .ref b)]) hx hb dL_law_2972 hl (by decide) rfl (fun ls hl => ?_)
  refine lv_aload_n hx hb dL_law_2974 rfl (lv_at hl 4 rfl) ?_
  have hF := va_free (wc := [(m0, .inr (12, gs_5))]) hD hS hA [0] rfl
  refine va_calli (va_runV (As := []) (rest := []) ⟨hx, hb, hml, hown, hts⟩ (c_X12_thrown l D cT m0 gs_5 1 _ (hgs_5) (hgs_5_0)) (cwV 0 hts zgL_law_X12_thrown_149 rfl rfl rfl (by decide +kernel) ⟨Nat.le_of_ble_eq_true rfl, Nat.le_of_ble_eq_true rfl⟩) (pv_w hP hD hK hG [0] rfl rfl rfl 0 rfl rfl) rfl rfl hl.1 rfl (lv_room (Nat.le_of_ble_eq_true rfl)) dL_law_2975 ⟨Nat.le_of_ble_eq_true rfl, Nat.le_of_ble_eq_true rfl⟩) hS (fun q _ h => hF q h) hF (fun r_8 uu9 tt9 H locs ht hvm wr_8 hB hz1 hk1 hS => ?_)
  obtain ⟨hP1, hD1⟩ := hB
  rw [ht] at hP1
  obtain ⟨hP, hD⟩ := va_join (wr := []) (w1 := [(m0, .inr (12, gs_5))]) hP hD [0] [] rfl rfl (by decide) (by decide) hk1 hF hP1 hD1
  have hP : va_P D vwCl [(m0, .inr (12, gs_5))] _ := hP
  have hD : va_D A [(m0, .inr (12, gs_5))] := hD
  obtain rfl : r_8 = 1 := wr_8.trans (rfl)
  refine lv_iload hx hb dL_law_2978 (lv_at hl 1 rfl) ?_
  refine lv_icmp_eq (tgt := 2985) hx hb dL_law_2980 (by decide) (fun _ => ?_) (fun c9 => absurd c9 (by decide))
  refine lv_iload hx hb dL_law_2985 (lv_at hl 1 rfl) ?_
  refine lv_if_ne (tgt := 3002) hx hb dL_law_2987 (by decide) (fun _ => ?_) (fun c9 => absurd c9 (by decide))
  refine lv_goto (tgt := 3043) hx hb dL_law_3002 (by decide) ?_
  exact law_end C0 hA hAl hS (lv_sub hl [2, 6] rfl) (Nat.le_of_ble_eq_true rfl) (Nat.le_of_ble_eq_true rfl)
theorem dL_law_3005 : decode cL_law 3005 = .ok (.aload_n 1, 1) := by decide +kernel
theorem dL_law_3006 : decode cL_law 3006 = .ok (.invokevirtual 280, 3) := by decide +kernel
theorem dL_law_3009 : decode cL_law 3009 = .ok (.aload_n 2, 1) := by decide +kernel
theorem dL_law_3010 : decode cL_law 3010 = .ok (.invokevirtual 283, 3) := by decide +kernel
theorem dL_law_3013 : decode cL_law 3013 = .ok (.if_icmp .eq 30, 3) := by decide +kernel
set_option maxRecDepth 100000 in
theorem zgL_law_wsX11_foretold_r1 : GoodIn lw_tbl wsX11_foretold_r1 := goodIn_sub (mem_ps [561, 560, 726, 727, 728, 128, 729, 498, 500, 730, 732, 731, 138, 501, 502, 503, 504, 505, 506, 507, 508, 510, 512, 513] rfl) (by decide +kernel)
set_option maxRecDepth 100000 in
theorem zgL_law_wsX11_foretold_r2 : GoodIn lw_tbl wsX11_foretold_r2 := goodIn_sub (mem_ps [514, 516, 733, 734, 735, 736, 737, 738, 739, 740, 515, 741, 743, 6, 744, 495, 165, 120, 166, 745, 747, 7, 748, 496] rfl) (by decide +kernel)
set_option maxRecDepth 100000 in
theorem zgL_law_wsX11_foretold_r3 : GoodIn lw_tbl wsX11_foretold_r3 := goodIn_sub (mem_ps [1233, 749, 751, 8, 752, 753, 755, 9, 756, 758, 118, 759, 666, 667, 761, 763, 10, 764, 1217, 765, 669, 670, 119, 671] rfl) (by decide +kernel)
set_option maxRecDepth 100000 in
theorem zgL_law_wsX11_foretold_r4 : GoodIn lw_tbl wsX11_foretold_r4 := goodIn_sub (mem_ps [171, 766, 767, 768, 769, 771, 772, 773, 775, 11, 776, 777, 779, 12, 780, 781, 783, 13, 784, 785, 786, 787, 788, 789] rfl) (by decide +kernel)
set_option maxRecDepth 100000 in
theorem zgL_law_wsX11_foretold_r5 : GoodIn lw_tbl wsX11_foretold_r5 := goodIn_sub (mem_ps [711, 712, 713, 1235, 1225, 714, 716, 5, 717, 167, 1229, 613, 790, 792, 14, 793, 794, 796, 15, 797, 798, 800, 16, 801] rfl) (by decide +kernel)
set_option maxRecDepth 100000 in
theorem zgL_law_wsX11_foretold_r6 : GoodIn lw_tbl wsX11_foretold_r6 := goodIn_sub (mem_ps [802, 804, 17, 805, 806, 808, 18, 809, 810, 677, 678, 679, 178, 811, 813, 19, 814, 829, 694, 137, 695, 830, 831, 832] rfl) (by decide +kernel)
set_option maxRecDepth 100000 in
theorem zgL_law_wsX11_foretold_r7 : GoodIn lw_tbl wsX11_foretold_r7 := goodIn_sub (mem_ps [815, 817, 20, 818, 819, 821, 21, 822, 823, 824, 825, 826, 827, 690, 691, 692, 176, 693, 828, 697, 698, 699, 700, 701] rfl) (by decide +kernel)
set_option maxRecDepth 100000 in
theorem zgL_law_wsX11_foretold_r8 : GoodIn lw_tbl wsX11_foretold_r8 := goodIn_sub (mem_ps [144, 702, 703, 704, 705, 833, 834, 835, 836, 497, 1250, 837, 838, 839, 840] rfl) (by decide +kernel)
set_option maxRecDepth 100000 in
theorem zgL_law_X11_foretold_280_w : GoodIn lw_tbl wsX11_foretold := goodIn_app (goodIn_sub (ws := [.code yX11_foretold cX11_foretold 2 (some .int)]) (fun _ h9 => List.mem_singleton.mp h9 ▸ List.mem_of_getElem? (i := 725) rfl) (by decide +kernel)) (goodIn_app (goodIn_app (goodIn_app (goodIn_app (goodIn_app (goodIn_app zgL_law_wsX11_foretold_r1 (goodIn_app zgL_law_wsX11_foretold_r2 (goodIn_app zgL_law_wsX11_foretold_r3 (goodIn_app zgL_law_wsX11_foretold_r4 (goodIn_app zgL_law_wsX11_foretold_r5 (goodIn_app zgL_law_wsX11_foretold_r6 (goodIn_app zgL_law_wsX11_foretold_r7 zgL_law_wsX11_foretold_r8))))))) zgC_X11) zgC_X1) zgC_X7) zgC_X8) zgC_X5)
set_option maxRecDepth 100000 in
theorem zgL_law_X11_foretold_280 : GoodIn lw_tbl (wsV RL 280 RX11 yX11_foretold wsX11_foretold) := goodIn_app (goodIn_sub (mem_ps [722, 723, 724, 118] (by decide +kernel)) (by decide +kernel)) zgL_law_X11_foretold_280_w
set_option maxRecDepth 100000 in
theorem zgL_law_wsX12_foretold_r1 : GoodIn lw_tbl wsX12_foretold_r1 := goodIn_sub (mem_ps [1882, 1964, 1981, 1972, 1982, 1973, 1983, 1975, 1984, 1976, 1985, 1977, 1986, 1978, 1987, 1979, 1988, 1980, 1989, 1930, 1990, 2638, 2639, 129] rfl) (by decide +kernel)
set_option maxRecDepth 100000 in
theorem zgL_law_wsX12_foretold_r2 : GoodIn lw_tbl wsX12_foretold_r2 := goodIn_sub (mem_ps [2640, 2641, 2643, 116, 2644, 2586, 2588, 107, 2589, 2590, 2592, 108, 2593, 1929, 1947, 2594, 2596, 109, 2597, 2578, 2580, 106, 2581, 1926] rfl) (by decide +kernel)
set_option maxRecDepth 100000 in
theorem zgL_law_wsX12_foretold_r3 : GoodIn lw_tbl wsX12_foretold_r3 := goodIn_sub (mem_ps [2598, 2600, 110, 2601, 2602, 2604, 111, 2605, 2478, 2480, 97, 2481, 1927, 1928, 2482, 2484, 98, 2485, 1892, 2606, 2608, 112, 2609, 2610] rfl) (by decide +kernel)
set_option maxRecDepth 100000 in
theorem zgL_law_wsX12_foretold_r4 : GoodIn lw_tbl wsX12_foretold_r4 := goodIn_sub (mem_ps [2612, 113, 2613, 1974, 1971, 1946, 1931, 2614, 2616, 114, 2617, 1920, 2574, 2576, 105, 2577, 2618, 2620, 115, 2621, 2471, 2472, 2473, 2345] rfl) (by decide +kernel)
set_option maxRecDepth 100000 in
theorem zgL_law_wsX12_foretold_r5 : GoodIn lw_tbl wsX12_foretold_r5 := goodIn_sub (mem_ps [2346, 2347] rfl) (by decide +kernel)
set_option maxRecDepth 100000 in
theorem zgL_law_X12_foretold_283_w : GoodIn lw_tbl wsX12_foretold := goodIn_app (goodIn_sub (ws := [.code yX12_foretold cX12_foretold 3 (some .int)]) (fun _ h9 => List.mem_singleton.mp h9 ▸ List.mem_of_getElem? (i := 2637) rfl) (by decide +kernel)) (goodIn_app (goodIn_app zgL_law_wsX12_foretold_r1 (goodIn_app zgL_law_wsX12_foretold_r2 (goodIn_app zgL_law_wsX12_foretold_r3 (goodIn_app zgL_law_wsX12_foretold_r4 zgL_law_wsX12_foretold_r5)))) zgC_X12)
set_option maxRecDepth 100000 in
theorem zgL_law_X12_foretold_283 : GoodIn lw_tbl (wsV RL 283 RX12 yX12_foretold wsX12_foretold) := goodIn_app (goodIn_sub (mem_ps [2634, 2635, 2636, 129] (by decide +kernel)) (by decide +kernel)) zgL_law_X12_foretold_283_w
set_option maxHeartbeats 8000000 in
set_option maxRecDepth 100000 in
/-- the law: foretold -/
theorem law_case_41 {p : Program} {l : Launch} {e : Env} {s : State} {m : MethodId} {below : List Frame} {meth : Method} {c : Code} {D : va_G} {cT : Nat → ClassId} {b : Nat} {xs : Nat → Int32} {A : Nat → Prop} (hst : l.stackTraces = false) (C0 : lw_At p s m meth c b 7 xs) (hA : ∀ q : Nat, s.heap.size ≤ q → A q) (hAl : ∀ q, A q → s.heap.size ≤ q) (hK : va_K D vwCl (TY cT) s) (hG : GW s) (hZ : GZ A s s.heap) {h0 : Nat} {m0 : Nat} {o9 : Nat} {x_studio : Nat} {x_script : Nat} {x_teller : Nat} {x_planner : Nat} {x_plan : Nat} {x_drifts : Nat} {x_floor : Nat} {x_trial : Nat} {x_tape : Nat} {t_studio : Nat} {t_taken : Nat} {t_on : Nat} {t_queues : Nat} {t_queued : Nat} {t_engaged : Nat} {t_dressing : Nat} {t_dressed : Nat} {t_standing : Nat} {t_stations : Nat} {t_limits : Nat} {t_worked : Nat} {tfon : Nat → Int32} {tfdi : Nat → Int32} {tfsg : Nat → Int32} {tfst : Nat → Int32} {f_studio : Nat} {f_taken : Nat} {f_on : Nat} {f_queues : Nat} {f_queued : Nat} {f_engaged : Nat} {f_dressing : Nat} {f_dressed : Nat} {f_standing : Nat} {f_stations : Nat} {f_limits : Nat} {f_worked : Nat} {fon : Nat → Int32} {fdi : Nat → Int32} {fsg : Nat → Int32} {fst : Nat → Int32} {fs : List Value} {m_shotMany : Nat} {m_workedIn : Nat} {m_worked : Nat} {m_queued : Nat} {m_queue : Nat} {m_onNow : Nat} {m_dressing : Nat} {m_dressed : Nat} {m_standsIn : Nat} {m_keptWorkedIn : Nat} {m_keptWorked : Nat} {m_keptQueued : Nat} {m_keptQueue : Nat} {m_keptOn : Nat} {m_keptDressing : Nat} {m_keptDressed : Nat} {m_keptStands : Nat} {m_keptShot : Nat} {fa_workedIn : Nat → Int32} {fb_keptWorkedIn : Nat → Int32} {fa_worked : Nat → Int32} {fb_keptWorked : Nat → Int32} {fb_keptQueued : Nat → Int32} {fa_queue : Nat → Int32} {fb_keptQueue : Nat → Int32} {mon : Nat → Int32} {fb_keptOn : Nat → Int32} {fa_dressing : Nat → Int32} {fb_keptDressing : Nat → Int32} {fa_dressed : Nat → Int32} {fb_keptDressed : Nat → Int32} {fa_standsIn : Nat → Int32} {fb_keptStands : Nat → Int32} {fa_shotMany : Nat → Int32} {fb_keptShot : Nat → Int32} (q0 : ∀ k, k < 3 → fon k = -1) (q1 : ∀ k, k < 3 → mon k = -1) (hfs : fs.length = 109) (hfs_0 : fs[0]? = some (.int 0)) (hfs_48 : fs[48]? = some (.ref m_shotMany)) (hfs_82 : fs[82]? = some (.int 0)) (hfs_90 : fs[90]? = some (.ref m_workedIn)) (hfs_91 : fs[91]? = some (.ref m_worked)) (hfs_93 : fs[93]? = some (.ref m_queued)) (hfs_94 : fs[94]? = some (.ref m_queue)) (hfs_95 : fs[95]? = some (.ref m_onNow)) (hfs_96 : fs[96]? = some (.ref m_dressing)) (hfs_97 : fs[97]? = some (.ref m_dressed)) (hfs_98 : fs[98]? = some (.ref m_standsIn)) (hfs_100 : fs[100]? = some (.ref m_keptWorkedIn)) (hfs_101 : fs[101]? = some (.ref m_keptWorked)) (hfs_102 : fs[102]? = some (.ref m_keptQueued)) (hfs_103 : fs[103]? = some (.ref m_keptQueue)) (hfs_104 : fs[104]? = some (.ref m_keptOn)) (hfs_105 : fs[105]? = some (.ref m_keptDressing)) (hfs_106 : fs[106]? = some (.ref m_keptDressed)) (hfs_107 : fs[107]? = some (.ref m_keptStands)) (hfs_108 : fs[108]? = some (.ref m_keptShot)) {H : Heap} {locs : List Loc} (hP : va_P D vwCl [(h0, .inr (11, [.ref x_studio, .ref x_script, .ref x_teller, .ref x_planner, .ref x_plan, .ref x_drifts, .ref x_floor, .ref x_trial, .ref x_tape, .int 0, .int (-1)])), (x_trial, .inr (1, [.ref t_studio, .int 0, .int 0, .ref t_taken, .ref t_on, .ref t_queues, .ref t_queued, .ref t_engaged, .ref t_dressing, .ref t_dressed, .ref t_standing, .ref t_stations, .int 0, .ref t_limits, .ref t_worked, .int 0, .int 0, .int 0])), (t_taken, .inl (cT 0, 12, .inl (fun _ => 0))), (t_on, .inl (cT 0, 3, .inl tfon)), (t_queues, .inl (cT 0, 30, .inl (fun _ => 0))), (t_queued, .inl (cT 0, 3, .inl (fun _ => 0))), (t_engaged, .inl (cT 0, 12, .inl (fun _ => 0))), (t_dressing, .inl (cT 0, 3, .inl tfdi)), (t_dressed, .inl (cT 0, 3, .inl (fun _ => 0))), (t_standing, .inl (cT 0, 8, .inl tfsg)), (t_stations, .inl (cT 0, 3, .inl tfst)), (t_limits, .inl (cT 0, 6, .inl (fun _ => 0))), (t_worked, .inl (cT 0, 6, .inl (fun _ => 0))), (x_floor, .inr (1, [.ref f_studio, .int 1, .int 0, .ref f_taken, .ref f_on, .ref f_queues, .ref f_queued, .ref f_engaged, .ref f_dressing, .ref f_dressed, .ref f_standing, .ref f_stations, .int 0, .ref f_limits, .ref f_worked, .int 0, .int 0, .int 0])), (f_taken, .inl (cT 0, 12, .inl (fun _ => 0))), (f_on, .inl (cT 0, 3, .inl fon)), (f_queues, .inl (cT 0, 30, .inl (fun _ => 0))), (f_queued, .inl (cT 0, 3, .inl (fun _ => 0))), (f_engaged, .inl (cT 0, 12, .inl (fun _ => 0))), (f_dressing, .inl (cT 0, 3, .inl fdi)), (f_dressed, .inl (cT 0, 3, .inl (fun _ => 0))), (f_standing, .inl (cT 0, 8, .inl fsg)), (f_stations, .inl (cT 0, 3, .inl fst)), (f_limits, .inl (cT 0, 6, .inl (fun _ => 0))), (f_worked, .inl (cT 0, 6, .inl (fun _ => 0))), (m0, .inr (12, fs)), (m_workedIn, .inl (cT 0, 6, .inl fa_workedIn)), (m_keptWorkedIn, .inl (cT 0, 6, .inl fb_keptWorkedIn)), (m_worked, .inl (cT 0, 6, .inl fa_worked)), (m_keptWorked, .inl (cT 0, 6, .inl fb_keptWorked)), (m_queued, .inl (cT 0, 3, .inl (fun _ => 0))), (m_keptQueued, .inl (cT 0, 3, .inl fb_keptQueued)), (m_queue, .inl (cT 0, 30, .inl fa_queue)), (m_keptQueue, .inl (cT 0, 30, .inl fb_keptQueue)), (m_onNow, .inl (cT 0, 3, .inl mon)), (m_keptOn, .inl (cT 0, 3, .inl fb_keptOn)), (m_dressing, .inl (cT 0, 3, .inl fa_dressing)), (m_keptDressing, .inl (cT 0, 3, .inl fb_keptDressing)), (m_dressed, .inl (cT 0, 3, .inl fa_dressed)), (m_keptDressed, .inl (cT 0, 3, .inl fb_keptDressed)), (m_standsIn, .inl (cT 0, 8, .inl fa_standsIn)), (m_keptStands, .inl (cT 0, 8, .inl fb_keptStands)), (m_shotMany, .inl (cT 0, 12, .inl fa_shotMany)), (m_keptShot, .inl (cT 0, 12, .inl fb_keptShot))] H) (hD : va_D A [(h0, .inr (11, [.ref x_studio, .ref x_script, .ref x_teller, .ref x_planner, .ref x_plan, .ref x_drifts, .ref x_floor, .ref x_trial, .ref x_tape, .int 0, .int (-1)])), (x_trial, .inr (1, [.ref t_studio, .int 0, .int 0, .ref t_taken, .ref t_on, .ref t_queues, .ref t_queued, .ref t_engaged, .ref t_dressing, .ref t_dressed, .ref t_standing, .ref t_stations, .int 0, .ref t_limits, .ref t_worked, .int 0, .int 0, .int 0])), (t_taken, .inl (cT 0, 12, .inl (fun _ => 0))), (t_on, .inl (cT 0, 3, .inl tfon)), (t_queues, .inl (cT 0, 30, .inl (fun _ => 0))), (t_queued, .inl (cT 0, 3, .inl (fun _ => 0))), (t_engaged, .inl (cT 0, 12, .inl (fun _ => 0))), (t_dressing, .inl (cT 0, 3, .inl tfdi)), (t_dressed, .inl (cT 0, 3, .inl (fun _ => 0))), (t_standing, .inl (cT 0, 8, .inl tfsg)), (t_stations, .inl (cT 0, 3, .inl tfst)), (t_limits, .inl (cT 0, 6, .inl (fun _ => 0))), (t_worked, .inl (cT 0, 6, .inl (fun _ => 0))), (x_floor, .inr (1, [.ref f_studio, .int 1, .int 0, .ref f_taken, .ref f_on, .ref f_queues, .ref f_queued, .ref f_engaged, .ref f_dressing, .ref f_dressed, .ref f_standing, .ref f_stations, .int 0, .ref f_limits, .ref f_worked, .int 0, .int 0, .int 0])), (f_taken, .inl (cT 0, 12, .inl (fun _ => 0))), (f_on, .inl (cT 0, 3, .inl fon)), (f_queues, .inl (cT 0, 30, .inl (fun _ => 0))), (f_queued, .inl (cT 0, 3, .inl (fun _ => 0))), (f_engaged, .inl (cT 0, 12, .inl (fun _ => 0))), (f_dressing, .inl (cT 0, 3, .inl fdi)), (f_dressed, .inl (cT 0, 3, .inl (fun _ => 0))), (f_standing, .inl (cT 0, 8, .inl fsg)), (f_stations, .inl (cT 0, 3, .inl fst)), (f_limits, .inl (cT 0, 6, .inl (fun _ => 0))), (f_worked, .inl (cT 0, 6, .inl (fun _ => 0))), (m0, .inr (12, fs)), (m_workedIn, .inl (cT 0, 6, .inl fa_workedIn)), (m_keptWorkedIn, .inl (cT 0, 6, .inl fb_keptWorkedIn)), (m_worked, .inl (cT 0, 6, .inl fa_worked)), (m_keptWorked, .inl (cT 0, 6, .inl fb_keptWorked)), (m_queued, .inl (cT 0, 3, .inl (fun _ => 0))), (m_keptQueued, .inl (cT 0, 3, .inl fb_keptQueued)), (m_queue, .inl (cT 0, 30, .inl fa_queue)), (m_keptQueue, .inl (cT 0, 30, .inl fb_keptQueue)), (m_onNow, .inl (cT 0, 3, .inl mon)), (m_keptOn, .inl (cT 0, 3, .inl fb_keptOn)), (m_dressing, .inl (cT 0, 3, .inl fa_dressing)), (m_keptDressing, .inl (cT 0, 3, .inl fb_keptDressing)), (m_dressed, .inl (cT 0, 3, .inl fa_dressed)), (m_keptDressed, .inl (cT 0, 3, .inl fb_keptDressed)), (m_standsIn, .inl (cT 0, 8, .inl fa_standsIn)), (m_keptStands, .inl (cT 0, 8, .inl fb_keptStands)), (m_shotMany, .inl (cT 0, 12, .inl fa_shotMany)), (m_keptShot, .inl (cT 0, 12, .inl fb_keptShot))]) (hS : va_S A s.heap H locs) {ls : Array Slot} (hl : lv_has ls 7 [(4, .int 0), (3, .ref o9), (2, .ref m0), (1, .ref h0), (0, .ref b)]) : W p l e room_1 s m #[Value.ref b] below meth c H locs 215 539454 (lw_Z below #[Value.ref b] s) (F0 m 3005 ls []) := by
  obtain ⟨hx, hb, hr, hml, hown, hts0, hX, hbl, hlocks, hgv⟩ := id C0
  have hts := hts0
  have hbA : ¬ A b := fun h => absurd (hAl b h) (Nat.not_le.mpr hbl)
  have hown : s.vm.findClass RL = some m.cls := hown
  have hb : c.code = cL_law := hb
  refine lv_aload_n hx hb dL_law_3005 rfl (lv_at hl 3 rfl) ?_
  have hF := va_free (wc := [(h0, .inr (11, [.ref x_studio, .ref x_script, .ref x_teller, .ref x_planner, .ref x_plan, .ref x_drifts, .ref x_floor, .ref x_trial, .ref x_tape, .int 0, .int (-1)])), (x_trial, .inr (1, [.ref t_studio, .int 0, .int 0, .ref t_taken, .ref t_on, .ref t_queues, .ref t_queued, .ref t_engaged, .ref t_dressing, .ref t_dressed, .ref t_standing, .ref t_stations, .int 0, .ref t_limits, .ref t_worked, .int 0, .int 0, .int 0])), (t_taken, .inl (cT 0, 12, .inl (fun _ => 0))), (t_on, .inl (cT 0, 3, .inl tfon)), (t_queues, .inl (cT 0, 30, .inl (fun _ => 0))), (t_queued, .inl (cT 0, 3, .inl (fun _ => 0))), (t_engaged, .inl (cT 0, 12, .inl (fun _ => 0))), (t_dressing, .inl (cT 0, 3, .inl tfdi)), (t_dressed, .inl (cT 0, 3, .inl (fun _ => 0))), (t_standing, .inl (cT 0, 8, .inl tfsg)), (t_stations, .inl (cT 0, 3, .inl tfst)), (t_limits, .inl (cT 0, 6, .inl (fun _ => 0))), (t_worked, .inl (cT 0, 6, .inl (fun _ => 0))), (x_floor, .inr (1, [.ref f_studio, .int 1, .int 0, .ref f_taken, .ref f_on, .ref f_queues, .ref f_queued, .ref f_engaged, .ref f_dressing, .ref f_dressed, .ref f_standing, .ref f_stations, .int 0, .ref f_limits, .ref f_worked, .int 0, .int 0, .int 0])), (f_taken, .inl (cT 0, 12, .inl (fun _ => 0))), (f_on, .inl (cT 0, 3, .inl fon)), (f_queues, .inl (cT 0, 30, .inl (fun _ => 0))), (f_queued, .inl (cT 0, 3, .inl (fun _ => 0))), (f_engaged, .inl (cT 0, 12, .inl (fun _ => 0))), (f_dressing, .inl (cT 0, 3, .inl fdi)), (f_dressed, .inl (cT 0, 3, .inl (fun _ => 0))), (f_standing, .inl (cT 0, 8, .inl fsg)), (f_stations, .inl (cT 0, 3, .inl fst)), (f_limits, .inl (cT 0, 6, .inl (fun _ => 0))), (f_worked, .inl (cT 0, 6, .inl (fun _ => 0)))]) hD hS hA [0, 1, 2, 3, 4, 5, 6, 7, 8, 9, 10, 11, 12, 13, 14, 15, 16, 17, 18, 19, 20, 21, 22, 23, 24] rfl
  refine va_calli (va_runV (As := []) (rest := []) ⟨hx, hb, hml, hown, hts⟩ (c_X11_foretold l D cT h0 x_studio x_script x_teller x_planner x_plan x_drifts x_floor x_trial x_tape t_studio t_taken t_on t_queues t_queued t_engaged t_dressing t_dressed t_standing t_stations t_limits t_worked tfon tfdi tfsg tfst f_studio f_taken f_on f_queues f_queued f_engaged f_dressing f_dressed f_standing f_stations f_limits f_worked fon fdi fsg fst _ (by assumption)) (cwV 0 hts zgL_law_X11_foretold_280 rfl rfl rfl (by decide +kernel) ⟨Nat.le_of_ble_eq_true rfl, Nat.le_of_ble_eq_true rfl⟩) (pv_w hP hD hK hG [0, 1, 2, 3, 4, 5, 6, 7, 8, 9, 10, 11, 12, 13, 14, 15, 16, 17, 18, 19, 20, 21, 22, 23, 24] rfl rfl rfl 0 rfl rfl) rfl rfl hl.1 rfl (lv_room (Nat.le_of_ble_eq_true rfl)) dL_law_3006 ⟨Nat.le_of_ble_eq_true rfl, Nat.le_of_ble_eq_true rfl⟩) hS (fun q _ h => hF q h) hF (fun r_1 uu9 tt9 H locs ht hvm wr_1 hB hz1 hk1 hS => ?_)
  obtain ⟨hP, hD⟩ := va_join (wr := [(m0, .inr (12, fs)), (m_workedIn, .inl (cT 0, 6, .inl fa_workedIn)), (m_keptWorkedIn, .inl (cT 0, 6, .inl fb_keptWorkedIn)), (m_worked, .inl (cT 0, 6, .inl fa_worked)), (m_keptWorked, .inl (cT 0, 6, .inl fb_keptWorked)), (m_queued, .inl (cT 0, 3, .inl (fun _ => 0))), (m_keptQueued, .inl (cT 0, 3, .inl fb_keptQueued)), (m_queue, .inl (cT 0, 30, .inl fa_queue)), (m_keptQueue, .inl (cT 0, 30, .inl fb_keptQueue)), (m_onNow, .inl (cT 0, 3, .inl mon)), (m_keptOn, .inl (cT 0, 3, .inl fb_keptOn)), (m_dressing, .inl (cT 0, 3, .inl fa_dressing)), (m_keptDressing, .inl (cT 0, 3, .inl fb_keptDressing)), (m_dressed, .inl (cT 0, 3, .inl fa_dressed)), (m_keptDressed, .inl (cT 0, 3, .inl fb_keptDressed)), (m_standsIn, .inl (cT 0, 8, .inl fa_standsIn)), (m_keptStands, .inl (cT 0, 8, .inl fb_keptStands)), (m_shotMany, .inl (cT 0, 12, .inl fa_shotMany)), (m_keptShot, .inl (cT 0, 12, .inl fb_keptShot))]) (w1 := []) hP hD [0, 1, 2, 3, 4, 5, 6, 7, 8, 9, 10, 11, 12, 13, 14, 15, 16, 17, 18, 19, 20, 21, 22, 23, 24] [25, 26, 27, 28, 29, 30, 31, 32, 33, 34, 35, 36, 37, 38, 39, 40, 41, 42, 43] rfl rfl (by decide) (by decide) hk1 hF vp_nil vd_nil
  have hP : va_P D vwCl [(m0, .inr (12, fs)), (m_workedIn, .inl (cT 0, 6, .inl fa_workedIn)), (m_keptWorkedIn, .inl (cT 0, 6, .inl fb_keptWorkedIn)), (m_worked, .inl (cT 0, 6, .inl fa_worked)), (m_keptWorked, .inl (cT 0, 6, .inl fb_keptWorked)), (m_queued, .inl (cT 0, 3, .inl (fun _ => 0))), (m_keptQueued, .inl (cT 0, 3, .inl fb_keptQueued)), (m_queue, .inl (cT 0, 30, .inl fa_queue)), (m_keptQueue, .inl (cT 0, 30, .inl fb_keptQueue)), (m_onNow, .inl (cT 0, 3, .inl mon)), (m_keptOn, .inl (cT 0, 3, .inl fb_keptOn)), (m_dressing, .inl (cT 0, 3, .inl fa_dressing)), (m_keptDressing, .inl (cT 0, 3, .inl fb_keptDressing)), (m_dressed, .inl (cT 0, 3, .inl fa_dressed)), (m_keptDressed, .inl (cT 0, 3, .inl fb_keptDressed)), (m_standsIn, .inl (cT 0, 8, .inl fa_standsIn)), (m_keptStands, .inl (cT 0, 8, .inl fb_keptStands)), (m_shotMany, .inl (cT 0, 12, .inl fa_shotMany)), (m_keptShot, .inl (cT 0, 12, .inl fb_keptShot))] _ := hP
  have hD : va_D A [(m0, .inr (12, fs)), (m_workedIn, .inl (cT 0, 6, .inl fa_workedIn)), (m_keptWorkedIn, .inl (cT 0, 6, .inl fb_keptWorkedIn)), (m_worked, .inl (cT 0, 6, .inl fa_worked)), (m_keptWorked, .inl (cT 0, 6, .inl fb_keptWorked)), (m_queued, .inl (cT 0, 3, .inl (fun _ => 0))), (m_keptQueued, .inl (cT 0, 3, .inl fb_keptQueued)), (m_queue, .inl (cT 0, 30, .inl fa_queue)), (m_keptQueue, .inl (cT 0, 30, .inl fb_keptQueue)), (m_onNow, .inl (cT 0, 3, .inl mon)), (m_keptOn, .inl (cT 0, 3, .inl fb_keptOn)), (m_dressing, .inl (cT 0, 3, .inl fa_dressing)), (m_keptDressing, .inl (cT 0, 3, .inl fb_keptDressing)), (m_dressed, .inl (cT 0, 3, .inl fa_dressed)), (m_keptDressed, .inl (cT 0, 3, .inl fb_keptDressed)), (m_standsIn, .inl (cT 0, 8, .inl fa_standsIn)), (m_keptStands, .inl (cT 0, 8, .inl fb_keptStands)), (m_shotMany, .inl (cT 0, 12, .inl fa_shotMany)), (m_keptShot, .inl (cT 0, 12, .inl fb_keptShot))] := hD
  obtain rfl : r_1 = 0 := wr_1.trans (rfl)
  refine lv_aload_n hx hb dL_law_3009 rfl (lv_at hl 2 rfl) ?_
  have hF := va_free (wc := [(m0, .inr (12, fs)), (m_workedIn, .inl (cT 0, 6, .inl fa_workedIn)), (m_keptWorkedIn, .inl (cT 0, 6, .inl fb_keptWorkedIn)), (m_worked, .inl (cT 0, 6, .inl fa_worked)), (m_keptWorked, .inl (cT 0, 6, .inl fb_keptWorked)), (m_queued, .inl (cT 0, 3, .inl (fun _ => 0))), (m_keptQueued, .inl (cT 0, 3, .inl fb_keptQueued)), (m_queue, .inl (cT 0, 30, .inl fa_queue)), (m_keptQueue, .inl (cT 0, 30, .inl fb_keptQueue)), (m_onNow, .inl (cT 0, 3, .inl mon)), (m_keptOn, .inl (cT 0, 3, .inl fb_keptOn)), (m_dressing, .inl (cT 0, 3, .inl fa_dressing)), (m_keptDressing, .inl (cT 0, 3, .inl fb_keptDressing)), (m_dressed, .inl (cT 0, 3, .inl fa_dressed)), (m_keptDressed, .inl (cT 0, 3, .inl fb_keptDressed)), (m_standsIn, .inl (cT 0, 8, .inl fa_standsIn)), (m_keptStands, .inl (cT 0, 8, .inl fb_keptStands)), (m_shotMany, .inl (cT 0, 12, .inl fa_shotMany)), (m_keptShot, .inl (cT 0, 12, .inl fb_keptShot))]) hD hS hA [0, 1, 2, 3, 4, 5, 6, 7, 8, 9, 10, 11, 12, 13, 14, 15, 16, 17, 18] rfl
  refine va_calli (va_runV (As := []) (rest := [.int 0]) ⟨hx, hb, hml, hown, hts⟩ (c_X12_foretold l D cT m0 fs 0 m_shotMany m_workedIn m_worked m_queued m_queue m_onNow m_dressing m_dressed m_standsIn m_keptWorkedIn m_keptWorked m_keptQueued m_keptQueue m_keptOn m_keptDressing m_keptDressed m_keptStands m_keptShot fa_workedIn fb_keptWorkedIn fa_worked fb_keptWorked fb_keptQueued fa_queue fb_keptQueue mon fb_keptOn fa_dressing fb_keptDressing fa_dressed fb_keptDressed fa_standsIn fb_keptStands fa_shotMany fb_keptShot _ (by assumption) (hfs) (hfs_0) (hfs_48) (hfs_82) (hfs_90) (hfs_91) (hfs_93) (hfs_94) (hfs_95) (hfs_96) (hfs_97) (hfs_98) (hfs_100) (hfs_101) (hfs_102) (hfs_103) (hfs_104) (hfs_105) (hfs_106) (hfs_107) (hfs_108)) (cwV 0 hts zgL_law_X12_foretold_283 rfl rfl rfl (by decide +kernel) ⟨Nat.le_of_ble_eq_true rfl, Nat.le_of_ble_eq_true rfl⟩) (pv_w hP hD hK hG [0, 1, 2, 3, 4, 5, 6, 7, 8, 9, 10, 11, 12, 13, 14, 15, 16, 17, 18] rfl rfl rfl 0 rfl rfl) rfl rfl hl.1 rfl (lv_room (Nat.le_of_ble_eq_true rfl)) dL_law_3010 ⟨Nat.le_of_ble_eq_true rfl, Nat.le_of_ble_eq_true rfl⟩) hS (fun q _ h => hF q h) hF (fun r_2 uu9 tt9 H locs ht hvm wr_2 hB hz1 hk1 hS => ?_)
  obtain ⟨gs_3, hgs_3, hgs_3_0, hP1, hD1⟩ := hB
  rw [ht] at hP1
  obtain ⟨hP, hD⟩ := va_join (wr := []) (w1 := [(m0, .inr (12, gs_3))]) hP hD [0, 1, 2, 3, 4, 5, 6, 7, 8, 9, 10, 11, 12, 13, 14, 15, 16, 17, 18] [] rfl rfl (by decide) (by decide) hk1 hF hP1 hD1
  have hP : va_P D vwCl [(m0, .inr (12, gs_3))] _ := hP
  have hD : va_D A [(m0, .inr (12, gs_3))] := hD
  obtain rfl : r_2 = 0 := wr_2.trans (rfl)
  refine lv_icmp_eq (tgt := 3043) hx hb dL_law_3013 (by decide) (fun _ => ?_) (fun c9 => absurd c9 (by decide))
  exact law_end C0 hA hAl hS (lv_sub hl [0, 4] rfl) (Nat.le_of_ble_eq_true rfl) (Nat.le_of_ble_eq_true rfl)
theorem dL_law_3018 : decode cL_law 3018 = .ok (.aload_n 1, 1) := by decide +kernel
theorem dL_law_3019 : decode cL_law 3019 = .ok (.aload_n 0, 1) := by decide +kernel
theorem dL_law_3020 : decode cL_law 3020 = .ok (.iload 4, 2) := by decide +kernel
theorem dL_law_3022 : decode cL_law 3022 = .ok (.iconst 1, 1) := by decide +kernel
theorem dL_law_3023 : decode cL_law 3023 = .ok (.iadd, 1) := by decide +kernel
theorem dL_law_3024 : decode cL_law 3024 = .ok (.iaload, 1) := by decide +kernel
theorem dL_law_3025 : decode cL_law 3025 = .ok (.invokevirtual 284, 3) := by decide +kernel
theorem dL_law_3028 : decode cL_law 3028 = .ok (.aload_n 2, 1) := by decide +kernel
theorem dL_law_3029 : decode cL_law 3029 = .ok (.aload_n 0, 1) := by decide +kernel
theorem dL_law_3030 : decode cL_law 3030 = .ok (.iload 4, 2) := by decide +kernel
theorem dL_law_3032 : decode cL_law 3032 = .ok (.iconst 1, 1) := by decide +kernel
theorem dL_law_3033 : decode cL_law 3033 = .ok (.iadd, 1) := by decide +kernel
theorem dL_law_3034 : decode cL_law 3034 = .ok (.iaload, 1) := by decide +kernel
theorem dL_law_3035 : decode cL_law 3035 = .ok (.invokevirtual 287, 3) := by decide +kernel
theorem dL_law_3038 : decode cL_law 3038 = .ok (.if_icmp .eq 5, 3) := by decide +kernel
set_option maxRecDepth 100000 in
theorem zinX0 : ∀ w ∈ wsX00, w ∈ lw_tbl := mem_ps [478, 480, 482, 484, 486] (by decide +kernel)
theorem zgC_X0 : GoodIn lw_tbl wsX00 := goodIn_sub zinX0 (by decide +kernel)
set_option maxRecDepth 100000 in
theorem zgL_law_X11_count_284_w : GoodIn lw_tbl wsX11_count := goodIn_app (goodIn_sub (ws := [.code yX11_count cX11_count 2 (some .int)]) (fun _ h9 => List.mem_singleton.mp h9 ▸ List.mem_of_getElem? (i := 844) rfl) (by decide +kernel)) (goodIn_app (goodIn_app (goodIn_app (goodIn_app (goodIn_app (goodIn_sub (ws := [.fieldLink RX11 10 "PuppetFilm" "studio" "LPuppetFilm$Studio;", .fieldLink RX11 75 "PuppetFilm$Studio" "puppetCount" "I", .fieldLink RX11 132 "PuppetFilm$Studio" "shotCount" "I", .fieldLink RX11 44 "PuppetFilm" "plan" "LPuppetFilm$Plan;", .fieldLink RX11 304 "PuppetFilm$Plan" "rows" "I", .fieldLink RX11 60 "PuppetFilm" "floor" "LPuppetFilm$Floor;", .fieldLink RX11 321 "PuppetFilm$Floor" "half" "I", .fieldLink RX11 125 "PuppetFilm" "taped" "I", .fieldLink RX11 51 "PuppetFilm" "drifts" "LPuppetFilm$Drifts;", .fieldLink RX11 330 "PuppetFilm$Drifts" "count" "I"]) (mem_ps [554, 168, 173, 558, 451, 560, 499, 563, 559, 473] (by decide +kernel)) (by decide +kernel)) zgC_X11) zgC_X8) zgC_X3) zgC_X1) zgC_X0)
set_option maxRecDepth 100000 in
theorem zgL_law_X11_count_284 : GoodIn lw_tbl (wsV RL 284 RX11 yX11_count wsX11_count) := goodIn_app (goodIn_sub (mem_ps [841, 842, 843, 118] (by decide +kernel)) (by decide +kernel)) zgL_law_X11_count_284_w
set_option maxRecDepth 100000 in
theorem zgL_law_X12_count_287_w : GoodIn lw_tbl wsX12_count := goodIn_app (goodIn_sub (ws := [.code yX12_count cX12_count 2 (some .int)]) (fun _ h9 => List.mem_singleton.mp h9 ▸ List.mem_of_getElem? (i := 2648) rfl) (by decide +kernel)) (goodIn_app (goodIn_sub (ws := [.fieldLink RX12 1 "PuppetFilmModel" "thrown" "I", .fieldLink RX12 264 "PuppetFilmModel" "puppets" "I", .fieldLink RX12 398 "PuppetFilmModel" "shots" "I", .fieldLink RX12 504 "PuppetFilmModel" "rows" "I", .fieldLink RX12 513 "PuppetFilmModel" "half" "I", .fieldLink RX12 279 "PuppetFilmModel" "taped" "I", .fieldLink RX12 516 "PuppetFilmModel" "drifts" "I"]) (mem_ps [1882, 1883, 1920, 1960, 1964, 1894, 1965] (by decide +kernel)) (by decide +kernel)) zgC_X12)
set_option maxRecDepth 100000 in
theorem zgL_law_X12_count_287 : GoodIn lw_tbl (wsV RL 287 RX12 yX12_count wsX12_count) := goodIn_app (goodIn_sub (mem_ps [2645, 2646, 2647, 129] (by decide +kernel)) (by decide +kernel)) zgL_law_X12_count_287_w
set_option maxHeartbeats 8000000 in
set_option maxRecDepth 100000 in
/-- the law: count -/
theorem law_case_42 {p : Program} {l : Launch} {e : Env} {s : State} {m : MethodId} {below : List Frame} {meth : Method} {c : Code} {D : va_G} {cT : Nat → ClassId} {b : Nat} {xs : Nat → Int32} {A : Nat → Prop} (hst : l.stackTraces = false) (C0 : lw_At p s m meth c b 7 xs) (hA : ∀ q : Nat, s.heap.size ≤ q → A q) (hAl : ∀ q, A q → s.heap.size ≤ q) (hK : va_K D vwCl (TY cT) s) (hG : GW s) (hZ : GZ A s s.heap) {h0 : Nat} {m0 : Nat} {o9 : Nat} {x_studio : Nat} {x_script : Nat} {x_teller : Nat} {x_planner : Nat} {x_plan : Nat} {x_drifts : Nat} {x_floor : Nat} {x_trial : Nat} {x_tape : Nat} {s_puppets : Nat} {s_shots : Nat} {s_sounds : Nat} {s_rates : Nat} {s_dresses : Nat} {n_studio : Nat} {n_shots : Nat} {n_units : Nat} {n_begins : Nat} {f_studio : Nat} {f_taken : Nat} {f_on : Nat} {f_queues : Nat} {f_queued : Nat} {f_engaged : Nat} {f_dressing : Nat} {f_dressed : Nat} {f_standing : Nat} {f_stations : Nat} {f_limits : Nat} {f_worked : Nat} {d_shots : Nat} {d_frames : Nat} {d_values : Nat} {d_halves : Nat} {fs : List Value} (hfs : fs.length = 109) (hfs_0 : fs[0]? = some (.int 0)) (hfs_1 : fs[1]? = some (.int 0)) (hfs_12 : fs[12]? = some (.int 0)) (hfs_38 : fs[38]? = some (.int 0)) (hfs_78 : fs[78]? = some (.int 0)) (hfs_82 : fs[82]? = some (.int 0)) (hfs_83 : fs[83]? = some (.int 0)) {H : Heap} {locs : List Loc} (hP : va_P D vwCl [(h0, .inr (11, [.ref x_studio, .ref x_script, .ref x_teller, .ref x_planner, .ref x_plan, .ref x_drifts, .ref x_floor, .ref x_trial, .ref x_tape, .int 0, .int (-1)])), (x_studio, .inr (8, [.ref s_puppets, .int 0, .ref s_shots, .int 0, .ref s_sounds, .ref s_rates, .ref s_dresses])), (x_plan, .inr (3, [.ref n_studio, .int 0, .ref n_shots, .ref n_units, .ref n_begins])), (x_floor, .inr (1, [.ref f_studio, .int 1, .int 0, .ref f_taken, .ref f_on, .ref f_queues, .ref f_queued, .ref f_engaged, .ref f_dressing, .ref f_dressed, .ref f_standing, .ref f_stations, .int 0, .ref f_limits, .ref f_worked, .int 0, .int 0, .int 0])), (x_drifts, .inr (0, [.int 0, .ref d_shots, .ref d_frames, .ref d_values, .ref d_halves])), (m0, .inr (12, fs))] H) (hD : va_D A [(h0, .inr (11, [.ref x_studio, .ref x_script, .ref x_teller, .ref x_planner, .ref x_plan, .ref x_drifts, .ref x_floor, .ref x_trial, .ref x_tape, .int 0, .int (-1)])), (x_studio, .inr (8, [.ref s_puppets, .int 0, .ref s_shots, .int 0, .ref s_sounds, .ref s_rates, .ref s_dresses])), (x_plan, .inr (3, [.ref n_studio, .int 0, .ref n_shots, .ref n_units, .ref n_begins])), (x_floor, .inr (1, [.ref f_studio, .int 1, .int 0, .ref f_taken, .ref f_on, .ref f_queues, .ref f_queued, .ref f_engaged, .ref f_dressing, .ref f_dressed, .ref f_standing, .ref f_stations, .int 0, .ref f_limits, .ref f_worked, .int 0, .int 0, .int 0])), (x_drifts, .inr (0, [.int 0, .ref d_shots, .ref d_frames, .ref d_values, .ref d_halves])), (m0, .inr (12, fs))]) (hS : va_S A s.heap H locs) {ls : Array Slot} (hl : lv_has ls 7 [(4, .int 0), (3, .ref o9), (2, .ref m0), (1, .ref h0), (0, .ref b)]) : W p l e room_1 s m #[Value.ref b] below meth c H locs 215 539454 (lw_Z below #[Value.ref b] s) (F0 m 3018 ls []) := by
  obtain ⟨hx, hb, hr, hml, hown, hts0, hX, hbl, hlocks, hgv⟩ := id C0
  have hts := hts0
  have hbA : ¬ A b := fun h => absurd (hAl b h) (Nat.not_le.mpr hbl)
  have hown : s.vm.findClass RL = some m.cls := hown
  have hb : c.code = cL_law := hb
  refine lv_aload_n hx hb dL_law_3018 rfl (lv_at hl 3 rfl) ?_
  refine lv_aload_n hx hb dL_law_3019 rfl (lv_at hl 4 rfl) ?_
  refine lv_iload hx hb dL_law_3020 (lv_at hl 0 rfl) ?_
  refine lv_iconst (v := 1) hx hb dL_law_3022 (by decide) ?_
  refine lv_iadd hx hb dL_law_3023 ?_
  refine lv_topi (fun z_1 ez_1 => ?_)
  obtain rfl : z_1 = 1 := ez_1.trans (by decide)
  refine va_sld hx hb hX hbl hbA hS (by unfold vp_in; decide) dL_law_3024 ?_
  have hF := va_free (wc := [(h0, .inr (11, [.ref x_studio, .ref x_script, .ref x_teller, .ref x_planner, .ref x_plan, .ref x_drifts, .ref x_floor, .ref x_trial, .ref x_tape, .int 0, .int (-1)])), (x_studio, .inr (8, [.ref s_puppets, .int 0, .ref s_shots, .int 0, .ref s_sounds, .ref s_rates, .ref s_dresses])), (x_plan, .inr (3, [.ref n_studio, .int 0, .ref n_shots, .ref n_units, .ref n_begins])), (x_floor, .inr (1, [.ref f_studio, .int 1, .int 0, .ref f_taken, .ref f_on, .ref f_queues, .ref f_queued, .ref f_engaged, .ref f_dressing, .ref f_dressed, .ref f_standing, .ref f_stations, .int 0, .ref f_limits, .ref f_worked, .int 0, .int 0, .int 0])), (x_drifts, .inr (0, [.int 0, .ref d_shots, .ref d_frames, .ref d_values, .ref d_halves]))]) hD hS hA [0, 1, 2, 3, 4] rfl
  refine va_calli (va_runV (As := [.int (xs (Int32.toNatClampNeg 1))]) (rest := []) ⟨hx, hb, hml, hown, hts⟩ (c_X11_count l D cT h0 (xs (Int32.toNatClampNeg 1)) x_studio x_script x_teller x_planner x_plan x_drifts x_floor x_trial x_tape s_puppets s_shots s_sounds s_rates s_dresses n_studio n_shots n_units n_begins f_studio f_taken f_on f_queues f_queued f_engaged f_dressing f_dressed f_standing f_stations f_limits f_worked d_shots d_frames d_values d_halves _ ) (cwV 1 hts zgL_law_X11_count_284 rfl rfl rfl (by decide +kernel) ⟨Nat.le_of_ble_eq_true rfl, Nat.le_of_ble_eq_true rfl⟩) (pv_w hP hD hK hG [0, 1, 2, 3, 4] rfl rfl rfl 0 rfl rfl) rfl rfl hl.1 rfl (lv_room (Nat.le_of_ble_eq_true rfl)) dL_law_3025 ⟨Nat.le_of_ble_eq_true rfl, Nat.le_of_ble_eq_true rfl⟩) hS (fun q _ h => hF q h) hF (fun r_2 uu9 tt9 H locs ht hvm wr_2 hB hz1 hk1 hS => ?_)
  obtain ⟨hP, hD⟩ := va_join (wr := [(m0, .inr (12, fs))]) (w1 := []) hP hD [0, 1, 2, 3, 4] [5] rfl rfl (by decide) (by decide) hk1 hF vp_nil vd_nil
  have hP : va_P D vwCl [(m0, .inr (12, fs))] _ := hP
  have hD : va_D A [(m0, .inr (12, fs))] := hD
  refine lv_aload_n hx hb dL_law_3028 rfl (lv_at hl 2 rfl) ?_
  refine lv_aload_n hx hb dL_law_3029 rfl (lv_at hl 4 rfl) ?_
  refine lv_iload hx hb dL_law_3030 (lv_at hl 0 rfl) ?_
  refine lv_iconst (v := 1) hx hb dL_law_3032 (by decide) ?_
  refine lv_iadd hx hb dL_law_3033 ?_
  refine lv_topi (fun z_3 ez_3 => ?_)
  obtain rfl : z_3 = 1 := ez_3.trans (by decide)
  refine va_sld hx hb hX hbl hbA hS (by unfold vp_in; decide) dL_law_3034 ?_
  have hF := va_free (wc := [(m0, .inr (12, fs))]) hD hS hA [0] rfl
  refine va_calli (va_runV (As := [.int (xs (Int32.toNatClampNeg 1))]) (rest := [.int r_2]) ⟨hx, hb, hml, hown, hts⟩ (c_X12_count l D cT m0 (xs (Int32.toNatClampNeg 1)) fs 0 _ (hfs) (hfs_0) (hfs_1) (hfs_12) (hfs_38) (hfs_78) (hfs_82) (hfs_83)) (cwV 1 hts zgL_law_X12_count_287 rfl rfl rfl (by decide +kernel) ⟨Nat.le_of_ble_eq_true rfl, Nat.le_of_ble_eq_true rfl⟩) (pv_w hP hD hK hG [0] rfl rfl rfl 0 rfl rfl) rfl rfl hl.1 rfl (lv_room (Nat.le_of_ble_eq_true rfl)) dL_law_3035 ⟨Nat.le_of_ble_eq_true rfl, Nat.le_of_ble_eq_true rfl⟩) hS (fun q _ h => hF q h) hF (fun r_4 uu9 tt9 H locs ht hvm wr_4 hB hz1 hk1 hS => ?_)
  obtain ⟨gs_5, hgs_5, hgs_5_0, hP1, hD1⟩ := hB
  rw [ht] at hP1
  obtain ⟨hP, hD⟩ := va_join (wr := []) (w1 := [(m0, .inr (12, gs_5))]) hP hD [0] [] rfl rfl (by decide) (by decide) hk1 hF hP1 hD1
  have hP : va_P D vwCl [(m0, .inr (12, gs_5))] _ := hP
  have hD : va_D A [(m0, .inr (12, gs_5))] := hD
  refine lv_icmp_eq (tgt := 3043) hx hb dL_law_3038 (by decide) (fun c_8 => ?_) (fun c_8 => ((c_8 (Eq.trans wr_2 (Eq.symm wr_4)) : False)).elim)
  exact law_end C0 hA hAl hS (lv_sub hl [0, 4] rfl) (Nat.le_of_ble_eq_true rfl) (Nat.le_of_ble_eq_true rfl)
