theorem dL_law_1783 : decode cL_law 1783 = .ok (.aload_n 1, 1) := by decide +kernel
theorem dL_law_1784 : decode cL_law 1784 = .ok (.aload_n 0, 1) := by decide +kernel
theorem dL_law_1785 : decode cL_law 1785 = .ok (.iload 4, 2) := by decide +kernel
theorem dL_law_1787 : decode cL_law 1787 = .ok (.iconst 1, 1) := by decide +kernel
theorem dL_law_1788 : decode cL_law 1788 = .ok (.iadd, 1) := by decide +kernel
theorem dL_law_1789 : decode cL_law 1789 = .ok (.iaload, 1) := by decide +kernel
theorem dL_law_1790 : decode cL_law 1790 = .ok (.aload_n 0, 1) := by decide +kernel
theorem dL_law_1791 : decode cL_law 1791 = .ok (.iload 4, 2) := by decide +kernel
theorem dL_law_1793 : decode cL_law 1793 = .ok (.iconst 2, 1) := by decide +kernel
theorem dL_law_1794 : decode cL_law 1794 = .ok (.iadd, 1) := by decide +kernel
theorem dL_law_1795 : decode cL_law 1795 = .ok (.iaload, 1) := by decide +kernel
theorem dL_law_1796 : decode cL_law 1796 = .ok (.aload_n 0, 1) := by decide +kernel
theorem dL_law_1797 : decode cL_law 1797 = .ok (.iload 4, 2) := by decide +kernel
theorem dL_law_1799 : decode cL_law 1799 = .ok (.iconst 3, 1) := by decide +kernel
theorem dL_law_1800 : decode cL_law 1800 = .ok (.iadd, 1) := by decide +kernel
theorem dL_law_1801 : decode cL_law 1801 = .ok (.iaload, 1) := by decide +kernel
theorem dL_law_1802 : decode cL_law 1802 = .ok (.aload_n 3, 1) := by decide +kernel
theorem dL_law_1803 : decode cL_law 1803 = .ok (.invokestatic 220, 3) := by decide +kernel
theorem dL_law_1806 : decode cL_law 1806 = .ok (.istore 5, 2) := by decide +kernel
theorem dL_law_1808 : decode cL_law 1808 = .ok (.aload_n 2, 1) := by decide +kernel
theorem dL_law_1809 : decode cL_law 1809 = .ok (.aload_n 0, 1) := by decide +kernel
theorem dL_law_1810 : decode cL_law 1810 = .ok (.iload 4, 2) := by decide +kernel
theorem dL_law_1812 : decode cL_law 1812 = .ok (.iconst 1, 1) := by decide +kernel
theorem dL_law_1813 : decode cL_law 1813 = .ok (.iadd, 1) := by decide +kernel
theorem dL_law_1814 : decode cL_law 1814 = .ok (.iaload, 1) := by decide +kernel
theorem dL_law_1815 : decode cL_law 1815 = .ok (.aload_n 0, 1) := by decide +kernel
theorem dL_law_1816 : decode cL_law 1816 = .ok (.iload 4, 2) := by decide +kernel
theorem dL_law_1818 : decode cL_law 1818 = .ok (.iconst 2, 1) := by decide +kernel
theorem dL_law_1819 : decode cL_law 1819 = .ok (.iadd, 1) := by decide +kernel
theorem dL_law_1820 : decode cL_law 1820 = .ok (.iaload, 1) := by decide +kernel
theorem dL_law_1821 : decode cL_law 1821 = .ok (.aload_n 0, 1) := by decide +kernel
theorem dL_law_1822 : decode cL_law 1822 = .ok (.iload 4, 2) := by decide +kernel
theorem dL_law_1824 : decode cL_law 1824 = .ok (.iconst 3, 1) := by decide +kernel
theorem dL_law_1825 : decode cL_law 1825 = .ok (.iadd, 1) := by decide +kernel
theorem dL_law_1826 : decode cL_law 1826 = .ok (.iaload, 1) := by decide +kernel
theorem dL_law_1827 : decode cL_law 1827 = .ok (.invokevirtual 222, 3) := by decide +kernel
theorem dL_law_1830 : decode cL_law 1830 = .ok (.istore 6, 2) := by decide +kernel
theorem dL_law_1832 : decode cL_law 1832 = .ok (.aload_n 2, 1) := by decide +kernel
theorem dL_law_1833 : decode cL_law 1833 = .ok (.invokevirtual 149, 3) := by decide +kernel
theorem dL_law_1836 : decode cL_law 1836 = .ok (.iload 5, 2) := by decide +kernel
theorem dL_law_1838 : decode cL_law 1838 = .ok (.if_icmp .eq 5, 3) := by decide +kernel
theorem dL_law_1843 : decode cL_law 1843 = .ok (.iload 5, 2) := by decide +kernel
theorem dL_law_1845 : decode cL_law 1845 = .ok (.ifCond .ne 15, 3) := by decide +kernel
theorem dL_law_1860 : decode cL_law 1860 = .ok (.goto 1183, 3) := by decide +kernel
set_option maxRecDepth 100000 in
theorem zgL_law_L_row_220_w : GoodIn lw_tbl zsL_row := goodIn_app (goodIn_sub (ws := [.codeWith yL_row cL_row 6 (some .int) [(0, 12, 15, 37), (0, 12, 19, 15)]]) (fun _ h9 => List.mem_singleton.mp h9 ▸ List.mem_of_getElem? (i := 1674) rfl) (by decide +kernel)) (goodIn_app (goodIn_app (goodIn_app (goodIn_sub (ws := [.methodLink RL 82 yX11_row, .instanceMethod yX11_row, .selects RX11 yX11_row yX11_row, .initialized RX11, .code yX11_row cX11_row 4 (some .int), .classLink RL 37 "java/util/NoSuchElementException", .classLink RL 15 "java/lang/IllegalArgumentException", .methodLink RX11 166 yX11_needShot, .instanceMethod yX11_needShot, .selects RX11 yX11_needShot yX11_needShot, .code yX11_needShot cX11_needShot 3 (some (.object "PuppetFilm$Shot")), .classLink RX11 408 "java/util/NoSuchElementException", .initialized "java/util/NoSuchElementException", .fieldLink RX11 10 "PuppetFilm" "studio" "LPuppetFilm$Studio;", .methodLink RX11 271 yX8_shotAt, .instanceMethod yX8_shotAt, .selects RX8 yX8_shotAt yX8_shotAt, .initialized RX8, .code yX8_shotAt cX8_shotAt 2 (some (.object "PuppetFilm$Shot")), .fieldLink RX8 19 "PuppetFilm$Studio" "shots" "[LPuppetFilm$Shot;"]) (mem_ps [1675, 1676, 1677, 118, 1678, 1357, 849, 1362, 1364, 45, 1365, 1367, 145, 554, 1366, 669, 670, 119, 671, 171] (by decide +kernel)) (by decide +kernel)) zgC_X11) zgC_X8) zgZ)
set_option maxRecDepth 100000 in
theorem zgL_law_L_row_220 : GoodIn lw_tbl (va_wsS RL 220 yL_row zsL_row) := goodIn_app (goodIn_sub (mem_ps [1672, 1673, 117] (by decide +kernel)) (by decide +kernel)) zgL_law_L_row_220_w
set_option maxRecDepth 100000 in
theorem zgL_law_X12_row_222_w : GoodIn lw_tbl wsX12_row := goodIn_app (goodIn_sub (ws := [.code yX12_row cX12_row 4 (some .int)]) (fun _ h9 => List.mem_singleton.mp h9 ▸ List.mem_of_getElem? (i := 2501) rfl) (by decide +kernel)) (goodIn_app (goodIn_sub (ws := [.fieldLink RX12 1 "PuppetFilmModel" "thrown" "I", .constant RX12 313 (100000), .fieldLink RX12 504 "PuppetFilmModel" "rows" "I", .fieldLink RX12 186 "PuppetFilmModel" "rowShot" "[I", .fieldLink RX12 189 "PuppetFilmModel" "rowUnit" "[I", .fieldLink RX12 192 "PuppetFilmModel" "rowBegin" "[I", .methodLink RX12 436 yX12_isShot, .instanceMethod yX12_isShot, .selects RX12 yX12_isShot yX12_isShot, .initialized RX12, .code yX12_isShot cX12_isShot 2 (some .boolean), .fieldLink RX12 398 "PuppetFilmModel" "shots" "I", .methodLink RX12 267 yX12_within, .static yX12_within, .code yX12_within cX12_within 3 (some .boolean), .methodLink RX12 271 yX12_may, .instanceMethod yX12_may, .selects RX12 yX12_may yX12_may, .code yX12_may cX12_may 3 (some .boolean)]) (mem_ps [1882, 2295, 1960, 1961, 1962, 1963, 2376, 2378, 86, 129, 2379, 1920, 2222, 2223, 2224, 2225, 2227, 63, 2228] (by decide +kernel)) (by decide +kernel)) zgC_X12)
set_option maxRecDepth 100000 in
theorem zgL_law_X12_row_222 : GoodIn lw_tbl (wsV RL 222 RX12 yX12_row wsX12_row) := goodIn_app (goodIn_sub (mem_ps [2498, 2499, 2500, 129] (by decide +kernel)) (by decide +kernel)) zgL_law_X12_row_222_w
set_option maxHeartbeats 8000000 in
set_option maxRecDepth 100000 in
/-- the law: row -/
theorem law_case_22 {p : Program} {l : Launch} {e : Env} {s : State} {m : MethodId} {below : List Frame} {meth : Method} {c : Code} {D : va_G} {cT : Nat → ClassId} {b : Nat} {xs : Nat → Int32} {A : Nat → Prop} (hst : l.stackTraces = false) (C0 : lw_At p s m meth c b 7 xs) (hA : ∀ q : Nat, s.heap.size ≤ q → A q) (hAl : ∀ q, A q → s.heap.size ≤ q) (hK : va_K D vwCl (TY cT) s) (hG : GW s) (hZ : GZ A s s.heap) {h0 : Nat} {m0 : Nat} {o9 : Nat} {x_studio : Nat} {x_script : Nat} {x_teller : Nat} {x_planner : Nat} {x_plan : Nat} {x_drifts : Nat} {x_floor : Nat} {x_trial : Nat} {x_tape : Nat} {s_puppets : Nat} {s_shots : Nat} {s_sounds : Nat} {s_rates : Nat} {s_dresses : Nat} {fs : List Value} (hfs : fs.length = 109) (hfs_0 : fs[0]? = some (.int 0)) (hfs_1 : fs[1]? = some (.int 0)) (hfs_38 : fs[38]? = some (.int 0)) {H : Heap} {locs : List Loc} (hP : va_P D vwCl [(h0, .inr (11, [.ref x_studio, .ref x_script, .ref x_teller, .ref x_planner, .ref x_plan, .ref x_drifts, .ref x_floor, .ref x_trial, .ref x_tape, .int 0, .int (-1)])), (x_studio, .inr (8, [.ref s_puppets, .int 0, .ref s_shots, .int 0, .ref s_sounds, .ref s_rates, .ref s_dresses])), (s_shots, .inl (cT 5, 12, .inr (.inr (.inr (.inr (fun _ => none)))))), (m0, .inr (12, fs))] H) (hD : va_D A [(h0, .inr (11, [.ref x_studio, .ref x_script, .ref x_teller, .ref x_planner, .ref x_plan, .ref x_drifts, .ref x_floor, .ref x_trial, .ref x_tape, .int 0, .int (-1)])), (x_studio, .inr (8, [.ref s_puppets, .int 0, .ref s_shots, .int 0, .ref s_sounds, .ref s_rates, .ref s_dresses])), (s_shots, .inl (cT 5, 12, .inr (.inr (.inr (.inr (fun _ => none)))))), (m0, .inr (12, fs))]) (hS : va_S A s.heap H locs) {ls : Array Slot} (hl : lv_has ls 7 [(4, .int 0), (3, .ref o9), (2, .ref m0), (1, .ref h0), (0, .ref b)]) : W p l e room_1 s m #[Value.ref b] below meth c H locs 215 539454 (lw_Z below #[Value.ref b] s) (F0 m 1783 ls []) := by
  obtain ⟨hx, hb, hr, hml, hown, hts0, hX, hbl, hlocks, hgv⟩ := id C0
  have hts := hts0
  have hbA : ¬ A b := fun h => absurd (hAl b h) (Nat.not_le.mpr hbl)
  have hown : s.vm.findClass RL = some m.cls := hown
  have hb : c.code = cL_law := hb
  refine lv_aload_n hx hb dL_law_1783 rfl (lv_at hl 3 rfl) ?_
  refine lv_aload_n hx hb dL_law_1784 rfl (lv_at hl 4 rfl) ?_
  refine lv_iload hx hb dL_law_1785 (lv_at hl 0 rfl) ?_
  refine lv_iconst (v := 1) hx hb dL_law_1787 (by decide) ?_
  refine lv_iadd hx hb dL_law_1788 ?_
  refine lv_topi (fun z_1 ez_1 => ?_)
  obtain rfl : z_1 = 1 := ez_1.trans (by decide)
  refine va_sld hx hb hX hbl hbA hS (by unfold vp_in; decide) dL_law_1789 ?_
  refine lv_aload_n hx hb dL_law_1790 rfl (lv_at hl 4 rfl) ?_
  refine lv_iload hx hb dL_law_1791 (lv_at hl 0 rfl) ?_
  refine lv_iconst (v := 2) hx hb dL_law_1793 (by decide) ?_
  refine lv_iadd hx hb dL_law_1794 ?_
  refine lv_topi (fun z_2 ez_2 => ?_)
  obtain rfl : z_2 = 2 := ez_2.trans (by decide)
  refine va_sld hx hb hX hbl hbA hS (by unfold vp_in; decide) dL_law_1795 ?_
  refine lv_aload_n hx hb dL_law_1796 rfl (lv_at hl 4 rfl) ?_
  refine lv_iload hx hb dL_law_1797 (lv_at hl 0 rfl) ?_
  refine lv_iconst (v := 3) hx hb dL_law_1799 (by decide) ?_
  refine lv_iadd hx hb dL_law_1800 ?_
  refine lv_topi (fun z_3 ez_3 => ?_)
  obtain rfl : z_3 = 3 := ez_3.trans (by decide)
  refine va_sld hx hb hX hbl hbA hS (by unfold vp_in; decide) dL_law_1801 ?_
  refine lv_aload_n hx hb dL_law_1802 rfl (lv_at hl 1 rfl) ?_
  have hF := va_free (wc := [(h0, .inr (11, [.ref x_studio, .ref x_script, .ref x_teller, .ref x_planner, .ref x_plan, .ref x_drifts, .ref x_floor, .ref x_trial, .ref x_tape, .int 0, .int (-1)])), (x_studio, .inr (8, [.ref s_puppets, .int 0, .ref s_shots, .int 0, .ref s_sounds, .ref s_rates, .ref s_dresses])), (s_shots, .inl (cT 5, 12, .inr (.inr (.inr (.inr (fun _ => none))))))]) hD hS hA [0, 1, 2] rfl
  refine va_calli (vx_runSW (As := [.ref h0, .int (xs (Int32.toNatClampNeg 1)), .int (xs (Int32.toNatClampNeg 2)), .int (xs (Int32.toNatClampNeg 3)), .ref o9]) (rest := []) ⟨hx, hb, hml, hown, hts⟩ (c_L_row l hst D cT h0 (xs (Int32.toNatClampNeg 1)) (xs (Int32.toNatClampNeg 2)) (xs (Int32.toNatClampNeg 3)) o9 x_studio x_script x_teller x_planner x_plan x_drifts x_floor x_trial x_tape s_puppets s_shots s_sounds s_rates s_dresses _ ) (vx_cwSW 5 hts zgL_law_L_row_220 rfl rfl rfl (by decide +kernel) ⟨Nat.le_of_ble_eq_true rfl, Nat.le_of_ble_eq_true rfl⟩) (ps_z hP hD hK hG hZ hS hF [0, 1, 2] rfl rfl rfl) rfl rfl hl.1 rfl (lv_room (Nat.le_of_ble_eq_true rfl)) dL_law_1803 ⟨Nat.le_of_ble_eq_true rfl, Nat.le_of_ble_eq_true rfl⟩) hS (fun q _ h => hF q h) hF (fun r_4 uu9 tt9 H locs ht hvm wr_4 hB hz1 hk1 hS => ?_)
  obtain ⟨hP, hD⟩ := va_join (wr := [(m0, .inr (12, fs))]) (w1 := []) hP hD [0, 1, 2] [3] rfl rfl (by decide) (by decide) hk1 hF vp_nil vd_nil
  have hP : va_P D vwCl [(m0, .inr (12, fs))] _ := hP
  have hD : va_D A [(m0, .inr (12, fs))] := hD
  refine W.widen (k := 216) (n := 539460) (Nat.le_of_ble_eq_true rfl) (Nat.le_of_ble_eq_true rfl) ?_
  obtain rfl : r_4 = 1 := wr_4.trans (rfl)
  refine lv_istore (lv' := [(5, .int 1), (4, .int 0), (3, .ref o9), (2, .ref m0), (1, .ref h0), (0, .ref b)]) hx hb dL_law_1806 hl (by decide) rfl (fun ls hl => ?_)
  refine lv_aload_n hx hb dL_law_1808 rfl (lv_at hl 3 rfl) ?_
  refine lv_aload_n hx hb dL_law_1809 rfl (lv_at hl 5 rfl) ?_
  refine lv_iload hx hb dL_law_1810 (lv_at hl 1 rfl) ?_
  refine lv_iconst (v := 1) hx hb dL_law_1812 (by decide) ?_
  refine lv_iadd hx hb dL_law_1813 ?_
  refine lv_topi (fun z_5 ez_5 => ?_)
  obtain rfl : z_5 = 1 := ez_5.trans (by decide)
  refine va_sld hx hb hX hbl hbA hS (by unfold vp_in; decide) dL_law_1814 ?_
  refine lv_aload_n hx hb dL_law_1815 rfl (lv_at hl 5 rfl) ?_
  refine lv_iload hx hb dL_law_1816 (lv_at hl 1 rfl) ?_
  refine lv_iconst (v := 2) hx hb dL_law_1818 (by decide) ?_
  refine lv_iadd hx hb dL_law_1819 ?_
  refine lv_topi (fun z_6 ez_6 => ?_)
  obtain rfl : z_6 = 2 := ez_6.trans (by decide)
  refine va_sld hx hb hX hbl hbA hS (by unfold vp_in; decide) dL_law_1820 ?_
  refine lv_aload_n hx hb dL_law_1821 rfl (lv_at hl 5 rfl) ?_
  refine lv_iload hx hb dL_law_1822 (lv_at hl 1 rfl) ?_
  refine lv_iconst (v := 3) hx hb dL_law_1824 (by decide) ?_
  refine lv_iadd hx hb dL_law_1825 ?_
  refine lv_topi (fun z_7 ez_7 => ?_)
  obtain rfl : z_7 = 3 := ez_7.trans (by decide)
  refine va_sld hx hb hX hbl hbA hS (by unfold vp_in; decide) dL_law_1826 ?_
  have hF := va_free (wc := [(m0, .inr (12, fs))]) hD hS hA [0] rfl
  refine va_calli (va_runV (As := [.int (xs (Int32.toNatClampNeg 1)), .int (xs (Int32.toNatClampNeg 2)), .int (xs (Int32.toNatClampNeg 3))]) (rest := []) ⟨hx, hb, hml, hown, hts⟩ (c_X12_row l D cT m0 (xs (Int32.toNatClampNeg 1)) (xs (Int32.toNatClampNeg 2)) (xs (Int32.toNatClampNeg 3)) fs 0 _ (hfs) (hfs_0) (hfs_1) (hfs_38)) (cwV 3 hts zgL_law_X12_row_222 rfl rfl rfl (by decide +kernel) ⟨Nat.le_of_ble_eq_true rfl, Nat.le_of_ble_eq_true rfl⟩) (pv_w hP hD hK hG [0] rfl rfl rfl 0 rfl rfl) rfl rfl hl.1 rfl (lv_room (Nat.le_of_ble_eq_true rfl)) dL_law_1827 ⟨Nat.le_of_ble_eq_true rfl, Nat.le_of_ble_eq_true rfl⟩) hS (fun q _ h => hF q h) hF (fun r_8 uu9 tt9 H locs ht hvm wr_8 hB hz1 hk1 hS => ?_)
  obtain ⟨gs_9, hgs_9, hgs_9_0, hP1, hD1⟩ := hB
  rw [ht] at hP1
  obtain ⟨hP, hD⟩ := va_join (wr := []) (w1 := [(m0, .inr (12, gs_9))]) hP hD [0] [] rfl rfl (by decide) (by decide) hk1 hF hP1 hD1
  have hP : va_P D vwCl [(m0, .inr (12, gs_9))] _ := hP
  have hD : va_D A [(m0, .inr (12, gs_9))] := hD
  refine lv_istore (lv' := [(6, .int r_8), (5, .int 1), (4, .int 0), (3, .ref o9), (2, .ref m0), (1, .ref h0), (0, .ref b)]) hx hb dL_law_1830 hl (by decide) rfl (fun ls hl => ?_)
  refine lv_aload_n hx hb dL_law_1832 rfl (lv_at hl 4 rfl) ?_
  have hF := va_free (wc := [(m0, .inr (12, gs_9))]) hD hS hA [0] rfl
  refine va_calli (va_runV (As := []) (rest := []) ⟨hx, hb, hml, hown, hts⟩ (c_X12_thrown l D cT m0 gs_9 1 _ (hgs_9) (hgs_9_0)) (cwV 0 hts zgL_law_X12_thrown_149 rfl rfl rfl (by decide +kernel) ⟨Nat.le_of_ble_eq_true rfl, Nat.le_of_ble_eq_true rfl⟩) (pv_w hP hD hK hG [0] rfl rfl rfl 0 rfl rfl) rfl rfl hl.1 rfl (lv_room (Nat.le_of_ble_eq_true rfl)) dL_law_1833 ⟨Nat.le_of_ble_eq_true rfl, Nat.le_of_ble_eq_true rfl⟩) hS (fun q _ h => hF q h) hF (fun r_12 uu9 tt9 H locs ht hvm wr_12 hB hz1 hk1 hS => ?_)
  obtain ⟨hP1, hD1⟩ := hB
  rw [ht] at hP1
  obtain ⟨hP, hD⟩ := va_join (wr := []) (w1 := [(m0, .inr (12, gs_9))]) hP hD [0] [] rfl rfl (by decide) (by decide) hk1 hF hP1 hD1
  have hP : va_P D vwCl [(m0, .inr (12, gs_9))] _ := hP
  have hD : va_D A [(m0, .inr (12, gs_9))] := hD
  obtain rfl : r_12 = 1 := wr_12.trans (rfl)
  refine lv_iload hx hb dL_law_1836 (lv_at hl 1 rfl) ?_
  refine lv_icmp_eq (tgt := 1843) hx hb dL_law_1838 (by decide) (fun _ => ?_) (fun c9 => absurd c9 (by decide))
  refine lv_iload hx hb dL_law_1843 (lv_at hl 1 rfl) ?_
  refine lv_if_ne (tgt := 1860) hx hb dL_law_1845 (by decide) (fun _ => ?_) (fun c9 => absurd c9 (by decide))
  refine lv_goto (tgt := 3043) hx hb dL_law_1860 (by decide) ?_
  exact law_end C0 hA hAl hS (lv_sub hl [2, 6] rfl) (Nat.le_of_ble_eq_true rfl) (Nat.le_of_ble_eq_true rfl)
theorem dL_law_1863 : decode cL_law 1863 = .ok (.aload_n 1, 1) := by decide +kernel
theorem dL_law_1864 : decode cL_law 1864 = .ok (.invokevirtual 223, 3) := by decide +kernel
theorem dL_law_1867 : decode cL_law 1867 = .ok (.aload_n 2, 1) := by decide +kernel
theorem dL_law_1868 : decode cL_law 1868 = .ok (.invokevirtual 226, 3) := by decide +kernel
theorem dL_law_1871 : decode cL_law 1871 = .ok (.if_icmp .eq 1172, 3) := by decide +kernel
set_option maxRecDepth 100000 in
theorem zgL_law_wsX11_check_r1 : GoodIn lw_tbl wsX11_check_r1 := goodIn_sub (mem_ps [558, 451, 657, 658, 659, 126, 660, 452, 454, 661, 663, 1, 664, 449, 666, 118, 667, 668, 669, 670, 119, 671, 171, 672] rfl) (by decide +kernel)
set_option maxRecDepth 100000 in
theorem zgL_law_wsX11_check_r2 : GoodIn lw_tbl wsX11_check_r2 := goodIn_sub (mem_ps [674, 2, 675, 1232, 453, 676, 677, 678, 679, 178, 681, 683, 3, 684, 685, 686, 687, 688, 1216, 689, 690, 691, 692, 176] rfl) (by decide +kernel)
set_option maxRecDepth 100000 in
theorem zgL_law_wsX11_check_r3 : GoodIn lw_tbl wsX11_check_r3 := goodIn_sub (mem_ps [693, 694, 137, 695, 696, 697, 698, 699, 1225, 700, 701, 144, 702, 703, 704, 705, 706, 708, 4, 709, 710, 711, 712, 713] rfl) (by decide +kernel)
set_option maxRecDepth 100000 in
theorem zgL_law_wsX11_check_r4 : GoodIn lw_tbl wsX11_check_r4 := goodIn_sub (mem_ps [1235, 714, 716, 5, 717, 167, 1229, 613] rfl) (by decide +kernel)
set_option maxRecDepth 100000 in
theorem zinX3 : ∀ w ∈ wsX30, w ∈ lw_tbl := mem_ps [455, 457, 459, 461, 463] (by decide +kernel)
theorem zgC_X3 : GoodIn lw_tbl wsX30 := goodIn_sub zinX3 (by decide +kernel)
set_option maxRecDepth 100000 in
theorem zgL_law_X11_check_223_w : GoodIn lw_tbl wsX11_check := goodIn_app (goodIn_sub (ws := [.code yX11_check cX11_check 3 (some .int)]) (fun _ h9 => List.mem_singleton.mp h9 ▸ List.mem_of_getElem? (i := 656) rfl) (by decide +kernel)) (goodIn_app (goodIn_app (goodIn_app (goodIn_app (goodIn_app (goodIn_app zgL_law_wsX11_check_r1 (goodIn_app zgL_law_wsX11_check_r2 (goodIn_app zgL_law_wsX11_check_r3 zgL_law_wsX11_check_r4))) zgC_X11) zgC_X3) zgC_X8) zgC_X7) zgC_X5)
set_option maxRecDepth 100000 in
theorem zgL_law_X11_check_223 : GoodIn lw_tbl (wsV RL 223 RX11 yX11_check wsX11_check) := goodIn_app (goodIn_sub (mem_ps [653, 654, 655, 118] (by decide +kernel)) (by decide +kernel)) zgL_law_X11_check_223_w
set_option maxRecDepth 100000 in
theorem zgL_law_wsX12_check_r1 : GoodIn lw_tbl wsX12_check_r1 := goodIn_sub (mem_ps [1882, 1960, 2506, 2508, 101, 129, 2509, 1961, 1962, 1963, 1929, 1947, 2478, 2480, 97, 2481, 1927, 1928, 2482, 2484, 98, 2485, 1892, 2510] rfl) (by decide +kernel)
set_option maxRecDepth 100000 in
theorem zgL_law_wsX12_check_r2 : GoodIn lw_tbl wsX12_check_r2 := goodIn_sub (mem_ps [2512, 102, 2513, 2467, 2469, 96, 2470, 1926, 1946, 2471, 2472, 2473] rfl) (by decide +kernel)
set_option maxRecDepth 100000 in
theorem zgL_law_X12_check_226_w : GoodIn lw_tbl wsX12_check := goodIn_app (goodIn_sub (ws := [.code yX12_check cX12_check 2 (some .int)]) (fun _ h9 => List.mem_singleton.mp h9 ▸ List.mem_of_getElem? (i := 2505) rfl) (by decide +kernel)) (goodIn_app (goodIn_app zgL_law_wsX12_check_r1 zgL_law_wsX12_check_r2) zgC_X12)
set_option maxRecDepth 100000 in
theorem zgL_law_X12_check_226 : GoodIn lw_tbl (wsV RL 226 RX12 yX12_check wsX12_check) := goodIn_app (goodIn_sub (mem_ps [2502, 2503, 2504, 129] (by decide +kernel)) (by decide +kernel)) zgL_law_X12_check_226_w
set_option maxHeartbeats 8000000 in
set_option maxRecDepth 100000 in
/-- the law: check -/
theorem law_case_23 {p : Program} {l : Launch} {e : Env} {s : State} {m : MethodId} {below : List Frame} {meth : Method} {c : Code} {D : va_G} {cT : Nat → ClassId} {b : Nat} {xs : Nat → Int32} {A : Nat → Prop} (hst : l.stackTraces = false) (C0 : lw_At p s m meth c b 7 xs) (hA : ∀ q : Nat, s.heap.size ≤ q → A q) (hAl : ∀ q, A q → s.heap.size ≤ q) (hK : va_K D vwCl (TY cT) s) (hG : GW s) (hZ : GZ A s s.heap) {h0 : Nat} {m0 : Nat} {o9 : Nat} {x_studio : Nat} {x_script : Nat} {x_teller : Nat} {x_planner : Nat} {x_plan : Nat} {x_drifts : Nat} {x_floor : Nat} {x_trial : Nat} {x_tape : Nat} {n_studio : Nat} {n_shots : Nat} {n_units : Nat} {n_begins : Nat} {fs : List Value} (hfs : fs.length = 109) (hfs_0 : fs[0]? = some (.int 0)) (hfs_78 : fs[78]? = some (.int 0)) {H : Heap} {locs : List Loc} (hP : va_P D vwCl [(h0, .inr (11, [.ref x_studio, .ref x_script, .ref x_teller, .ref x_planner, .ref x_plan, .ref x_drifts, .ref x_floor, .ref x_trial, .ref x_tape, .int 0, .int (-1)])), (x_plan, .inr (3, [.ref n_studio, .int 0, .ref n_shots, .ref n_units, .ref n_begins])), (m0, .inr (12, fs))] H) (hD : va_D A [(h0, .inr (11, [.ref x_studio, .ref x_script, .ref x_teller, .ref x_planner, .ref x_plan, .ref x_drifts, .ref x_floor, .ref x_trial, .ref x_tape, .int 0, .int (-1)])), (x_plan, .inr (3, [.ref n_studio, .int 0, .ref n_shots, .ref n_units, .ref n_begins])), (m0, .inr (12, fs))]) (hS : va_S A s.heap H locs) {ls : Array Slot} (hl : lv_has ls 7 [(4, .int 0), (3, .ref o9), (2, .ref m0), (1, .ref h0), (0, .ref b)]) : W p l e room_1 s m #[Value.ref b] below meth c H locs 215 539454 (lw_Z below #[Value.ref b] s) (F0 m 1863 ls []) := by
  obtain ⟨hx, hb, hr, hml, hown, hts0, hX, hbl, hlocks, hgv⟩ := id C0
  have hts := hts0
  have hbA : ¬ A b := fun h => absurd (hAl b h) (Nat.not_le.mpr hbl)
  have hown : s.vm.findClass RL = some m.cls := hown
  have hb : c.code = cL_law := hb
  refine lv_aload_n hx hb dL_law_1863 rfl (lv_at hl 3 rfl) ?_
  have hF := va_free (wc := [(h0, .inr (11, [.ref x_studio, .ref x_script, .ref x_teller, .ref x_planner, .ref x_plan, .ref x_drifts, .ref x_floor, .ref x_trial, .ref x_tape, .int 0, .int (-1)])), (x_plan, .inr (3, [.ref n_studio, .int 0, .ref n_shots, .ref n_units, .ref n_begins]))]) hD hS hA [0, 1] rfl
  refine va_calli (va_runV (As := []) (rest := []) ⟨hx, hb, hml, hown, hts⟩ (c_X11_check l D cT h0 x_studio x_script x_teller x_planner x_plan x_drifts x_floor x_trial x_tape n_studio n_shots n_units n_begins _ ) (cwV 0 hts zgL_law_X11_check_223 rfl rfl rfl (by decide +kernel) ⟨Nat.le_of_ble_eq_true rfl, Nat.le_of_ble_eq_true rfl⟩) (pv_w hP hD hK hG [0, 1] rfl rfl rfl 0 rfl rfl) rfl rfl hl.1 rfl (lv_room (Nat.le_of_ble_eq_true rfl)) dL_law_1864 ⟨Nat.le_of_ble_eq_true rfl, Nat.le_of_ble_eq_true rfl⟩) hS (fun q _ h => hF q h) hF (fun r_1 uu9 tt9 H locs ht hvm wr_1 hB hz1 hk1 hS => ?_)
  obtain ⟨hP, hD⟩ := va_join (wr := [(m0, .inr (12, fs))]) (w1 := []) hP hD [0, 1] [2] rfl rfl (by decide) (by decide) hk1 hF vp_nil vd_nil
  have hP : va_P D vwCl [(m0, .inr (12, fs))] _ := hP
  have hD : va_D A [(m0, .inr (12, fs))] := hD
  obtain rfl : r_1 = (-1) := wr_1.trans (rfl)
  refine lv_aload_n hx hb dL_law_1867 rfl (lv_at hl 2 rfl) ?_
  have hF := va_free (wc := [(m0, .inr (12, fs))]) hD hS hA [0] rfl
  refine va_calli (va_runV (As := []) (rest := [.int (-1)]) ⟨hx, hb, hml, hown, hts⟩ (c_X12_check l D cT m0 fs 0 _ (hfs) (hfs_0) (hfs_78)) (cwV 0 hts zgL_law_X12_check_226 rfl rfl rfl (by decide +kernel) ⟨Nat.le_of_ble_eq_true rfl, Nat.le_of_ble_eq_true rfl⟩) (pv_w hP hD hK hG [0] rfl rfl rfl 0 rfl rfl) rfl rfl hl.1 rfl (lv_room (Nat.le_of_ble_eq_true rfl)) dL_law_1868 ⟨Nat.le_of_ble_eq_true rfl, Nat.le_of_ble_eq_true rfl⟩) hS (fun q _ h => hF q h) hF (fun r_2 uu9 tt9 H locs ht hvm wr_2 hB hz1 hk1 hS => ?_)
  obtain ⟨gs_3, hgs_3, hgs_3_0, hP1, hD1⟩ := hB
  rw [ht] at hP1
  obtain ⟨hP, hD⟩ := va_join (wr := []) (w1 := [(m0, .inr (12, gs_3))]) hP hD [0] [] rfl rfl (by decide) (by decide) hk1 hF hP1 hD1
  have hP : va_P D vwCl [(m0, .inr (12, gs_3))] _ := hP
  have hD : va_D A [(m0, .inr (12, gs_3))] := hD
  obtain rfl : r_2 = (-1) := wr_2.trans (rfl)
  refine lv_icmp_eq (tgt := 3043) hx hb dL_law_1871 (by decide) (fun _ => ?_) (fun c9 => absurd c9 (by decide))
  exact law_end C0 hA hAl hS (lv_sub hl [0, 4] rfl) (Nat.le_of_ble_eq_true rfl) (Nat.le_of_ble_eq_true rfl)
theorem dL_law_1876 : decode cL_law 1876 = .ok (.aload_n 1, 1) := by decide +kernel
theorem dL_law_1877 : decode cL_law 1877 = .ok (.invokevirtual 227, 3) := by decide +kernel
theorem dL_law_1880 : decode cL_law 1880 = .ok (.aload_n 2, 1) := by decide +kernel
theorem dL_law_1881 : decode cL_law 1881 = .ok (.invokevirtual 230, 3) := by decide +kernel
theorem dL_law_1884 : decode cL_law 1884 = .ok (.if_icmp .eq 1159, 3) := by decide +kernel
set_option maxRecDepth 100000 in
theorem zgL_law_X11_clear_227_w : GoodIn lw_tbl wsX11_clear := goodIn_app (goodIn_sub (ws := [.code yX11_clear cX11_clear 2 (some .int)]) (fun _ h9 => List.mem_singleton.mp h9 ▸ List.mem_of_getElem? (i := 721) rfl) (by decide +kernel)) (goodIn_app (goodIn_app (goodIn_sub (ws := [.fieldLink RX11 44 "PuppetFilm" "plan" "LPuppetFilm$Plan;", .fieldLink RX11 304 "PuppetFilm$Plan" "rows" "I"]) (mem_ps [558, 451] (by decide +kernel)) (by decide +kernel)) zgC_X11) zgC_X3)
set_option maxRecDepth 100000 in
theorem zgL_law_X11_clear_227 : GoodIn lw_tbl (wsV RL 227 RX11 yX11_clear wsX11_clear) := goodIn_app (goodIn_sub (mem_ps [718, 719, 720, 118] (by decide +kernel)) (by decide +kernel)) zgL_law_X11_clear_227_w
set_option maxRecDepth 100000 in
theorem zgL_law_X12_clear_230_w : GoodIn lw_tbl wsX12_clear := goodIn_app (goodIn_sub (ws := [.code yX12_clear cX12_clear 2 (some .int)]) (fun _ h9 => List.mem_singleton.mp h9 ▸ List.mem_of_getElem? (i := 2517) rfl) (by decide +kernel)) (goodIn_app (goodIn_sub (ws := [.fieldLink RX12 1 "PuppetFilmModel" "thrown" "I", .fieldLink RX12 504 "PuppetFilmModel" "rows" "I"]) (mem_ps [1882, 1960] (by decide +kernel)) (by decide +kernel)) zgC_X12)
set_option maxRecDepth 100000 in
theorem zgL_law_X12_clear_230 : GoodIn lw_tbl (wsV RL 230 RX12 yX12_clear wsX12_clear) := goodIn_app (goodIn_sub (mem_ps [2514, 2515, 2516, 129] (by decide +kernel)) (by decide +kernel)) zgL_law_X12_clear_230_w
set_option maxHeartbeats 8000000 in
set_option maxRecDepth 100000 in
/-- the law: clear -/
theorem law_case_24 {p : Program} {l : Launch} {e : Env} {s : State} {m : MethodId} {below : List Frame} {meth : Method} {c : Code} {D : va_G} {cT : Nat → ClassId} {b : Nat} {xs : Nat → Int32} {A : Nat → Prop} (hst : l.stackTraces = false) (C0 : lw_At p s m meth c b 7 xs) (hA : ∀ q : Nat, s.heap.size ≤ q → A q) (hAl : ∀ q, A q → s.heap.size ≤ q) (hK : va_K D vwCl (TY cT) s) (hG : GW s) (hZ : GZ A s s.heap) {h0 : Nat} {m0 : Nat} {o9 : Nat} {x_studio : Nat} {x_script : Nat} {x_teller : Nat} {x_planner : Nat} {x_plan : Nat} {x_drifts : Nat} {x_floor : Nat} {x_trial : Nat} {x_tape : Nat} {n_studio : Nat} {n_shots : Nat} {n_units : Nat} {n_begins : Nat} {fs : List Value} (hfs : fs.length = 109) (hfs_0 : fs[0]? = some (.int 0)) (hfs_78 : fs[78]? = some (.int 0)) {H : Heap} {locs : List Loc} (hP : va_P D vwCl [(h0, .inr (11, [.ref x_studio, .ref x_script, .ref x_teller, .ref x_planner, .ref x_plan, .ref x_drifts, .ref x_floor, .ref x_trial, .ref x_tape, .int 0, .int (-1)])), (x_plan, .inr (3, [.ref n_studio, .int 0, .ref n_shots, .ref n_units, .ref n_begins])), (m0, .inr (12, fs))] H) (hD : va_D A [(h0, .inr (11, [.ref x_studio, .ref x_script, .ref x_teller, .ref x_planner, .ref x_plan, .ref x_drifts, .ref x_floor, .ref x_trial, .ref x_tape, .int 0, .int (-1)])), (x_plan, .inr (3, [.ref n_studio, .int 0, .ref n_shots, .ref n_units, .ref n_begins])), (m0, .inr (12, fs))]) (hS : va_S A s.heap H locs) {ls : Array Slot} (hl : lv_has ls 7 [(4, .int 0), (3, .ref o9), (2, .ref m0), (1, .ref h0), (0, .ref b)]) : W p l e room_1 s m #[Value.ref b] below meth c H locs 215 539454 (lw_Z below #[Value.ref b] s) (F0 m 1876 ls []) := by
  obtain ⟨hx, hb, hr, hml, hown, hts0, hX, hbl, hlocks, hgv⟩ := id C0
  have hts := hts0
  have hbA : ¬ A b := fun h => absurd (hAl b h) (Nat.not_le.mpr hbl)
  have hown : s.vm.findClass RL = some m.cls := hown
  have hb : c.code = cL_law := hb
  refine lv_aload_n hx hb dL_law_1876 rfl (lv_at hl 3 rfl) ?_
  have hF := va_free (wc := [(h0, .inr (11, [.ref x_studio, .ref x_script, .ref x_teller, .ref x_planner, .ref x_plan, .ref x_drifts, .ref x_floor, .ref x_trial, .ref x_tape, .int 0, .int (-1)])), (x_plan, .inr (3, [.ref n_studio, .int 0, .ref n_shots, .ref n_units, .ref n_begins]))]) hD hS hA [0, 1] rfl
  refine va_calli (va_runV (As := []) (rest := []) ⟨hx, hb, hml, hown, hts⟩ (c_X11_clear l D cT h0 x_studio x_script x_teller x_planner x_plan x_drifts x_floor x_trial x_tape n_studio n_shots n_units n_begins _ ) (cwV 0 hts zgL_law_X11_clear_227 rfl rfl rfl (by decide +kernel) ⟨Nat.le_of_ble_eq_true rfl, Nat.le_of_ble_eq_true rfl⟩) (pv_w hP hD hK hG [0, 1] rfl rfl rfl 0 rfl rfl) rfl rfl hl.1 rfl (lv_room (Nat.le_of_ble_eq_true rfl)) dL_law_1877 ⟨Nat.le_of_ble_eq_true rfl, Nat.le_of_ble_eq_true rfl⟩) hS (fun q _ h => hF q h) hF (fun r_1 uu9 tt9 H locs ht hvm wr_1 hB hz1 hk1 hS => ?_)
  obtain ⟨hP, hD⟩ := va_join (wr := [(m0, .inr (12, fs))]) (w1 := []) hP hD [0, 1] [2] rfl rfl (by decide) (by decide) hk1 hF vp_nil vd_nil
  have hP : va_P D vwCl [(m0, .inr (12, fs))] _ := hP
  have hD : va_D A [(m0, .inr (12, fs))] := hD
  obtain rfl : r_1 = 0 := wr_1.trans (rfl)
  refine lv_aload_n hx hb dL_law_1880 rfl (lv_at hl 2 rfl) ?_
  have hF := va_free (wc := [(m0, .inr (12, fs))]) hD hS hA [0] rfl
  refine va_calli (va_runV (As := []) (rest := [.int 0]) ⟨hx, hb, hml, hown, hts⟩ (c_X12_clear l D cT m0 fs 0 _ (hfs) (hfs_0) (hfs_78)) (cwV 0 hts zgL_law_X12_clear_230 rfl rfl rfl (by decide +kernel) ⟨Nat.le_of_ble_eq_true rfl, Nat.le_of_ble_eq_true rfl⟩) (pv_w hP hD hK hG [0] rfl rfl rfl 0 rfl rfl) rfl rfl hl.1 rfl (lv_room (Nat.le_of_ble_eq_true rfl)) dL_law_1881 ⟨Nat.le_of_ble_eq_true rfl, Nat.le_of_ble_eq_true rfl⟩) hS (fun q _ h => hF q h) hF (fun r_2 uu9 tt9 H locs ht hvm wr_2 hB hz1 hk1 hS => ?_)
  obtain ⟨gs_3, hgs_3, hgs_3_0, hP1, hD1⟩ := hB
  rw [ht] at hP1
  obtain ⟨hP, hD⟩ := va_join (wr := []) (w1 := [(m0, .inr (12, gs_3))]) hP hD [0] [] rfl rfl (by decide) (by decide) hk1 hF hP1 hD1
  have hP : va_P D vwCl [(m0, .inr (12, gs_3))] _ := hP
  have hD : va_D A [(m0, .inr (12, gs_3))] := hD
  obtain rfl : r_2 = 0 := wr_2.trans (rfl)
  refine lv_icmp_eq (tgt := 3043) hx hb dL_law_1884 (by decide) (fun _ => ?_) (fun c9 => absurd c9 (by decide))
  exact law_end C0 hA hAl hS (lv_sub hl [0, 4] rfl) (Nat.le_of_ble_eq_true rfl) (Nat.le_of_ble_eq_true rfl)
theorem dL_law_1889 : decode cL_law 1889 = .ok (.aload_n 1, 1) := by decide +kernel
theorem dL_law_1890 : decode cL_law 1890 = .ok (.aload_n 0, 1) := by decide +kernel
theorem dL_law_1891 : decode cL_law 1891 = .ok (.iload 4, 2) := by decide +kernel
theorem dL_law_1893 : decode cL_law 1893 = .ok (.iconst 1, 1) := by decide +kernel
theorem dL_law_1894 : decode cL_law 1894 = .ok (.iadd, 1) := by decide +kernel
theorem dL_law_1895 : decode cL_law 1895 = .ok (.iaload, 1) := by decide +kernel
theorem dL_law_1896 : decode cL_law 1896 = .ok (.aload_n 0, 1) := by decide +kernel
theorem dL_law_1897 : decode cL_law 1897 = .ok (.iload 4, 2) := by decide +kernel
theorem dL_law_1899 : decode cL_law 1899 = .ok (.iconst 2, 1) := by decide +kernel
theorem dL_law_1900 : decode cL_law 1900 = .ok (.iadd, 1) := by decide +kernel
theorem dL_law_1901 : decode cL_law 1901 = .ok (.iaload, 1) := by decide +kernel
theorem dL_law_1902 : decode cL_law 1902 = .ok (.aload_n 0, 1) := by decide +kernel
theorem dL_law_1903 : decode cL_law 1903 = .ok (.iload 4, 2) := by decide +kernel
theorem dL_law_1905 : decode cL_law 1905 = .ok (.iconst 3, 1) := by decide +kernel
theorem dL_law_1906 : decode cL_law 1906 = .ok (.iadd, 1) := by decide +kernel
theorem dL_law_1907 : decode cL_law 1907 = .ok (.iaload, 1) := by decide +kernel
theorem dL_law_1908 : decode cL_law 1908 = .ok (.aload_n 0, 1) := by decide +kernel
theorem dL_law_1909 : decode cL_law 1909 = .ok (.iload 4, 2) := by decide +kernel
theorem dL_law_1911 : decode cL_law 1911 = .ok (.iconst 4, 1) := by decide +kernel
theorem dL_law_1912 : decode cL_law 1912 = .ok (.iadd, 1) := by decide +kernel
theorem dL_law_1913 : decode cL_law 1913 = .ok (.iaload, 1) := by decide +kernel
theorem dL_law_1914 : decode cL_law 1914 = .ok (.aload_n 3, 1) := by decide +kernel
theorem dL_law_1915 : decode cL_law 1915 = .ok (.invokestatic 231, 3) := by decide +kernel
theorem dL_law_1918 : decode cL_law 1918 = .ok (.istore 5, 2) := by decide +kernel
theorem dL_law_1920 : decode cL_law 1920 = .ok (.aload_n 2, 1) := by decide +kernel
theorem dL_law_1921 : decode cL_law 1921 = .ok (.aload_n 0, 1) := by decide +kernel
theorem dL_law_1922 : decode cL_law 1922 = .ok (.iload 4, 2) := by decide +kernel
theorem dL_law_1924 : decode cL_law 1924 = .ok (.iconst 1, 1) := by decide +kernel
theorem dL_law_1925 : decode cL_law 1925 = .ok (.iadd, 1) := by decide +kernel
theorem dL_law_1926 : decode cL_law 1926 = .ok (.iaload, 1) := by decide +kernel
theorem dL_law_1927 : decode cL_law 1927 = .ok (.aload_n 0, 1) := by decide +kernel
theorem dL_law_1928 : decode cL_law 1928 = .ok (.iload 4, 2) := by decide +kernel
theorem dL_law_1930 : decode cL_law 1930 = .ok (.iconst 2, 1) := by decide +kernel
theorem dL_law_1931 : decode cL_law 1931 = .ok (.iadd, 1) := by decide +kernel
theorem dL_law_1932 : decode cL_law 1932 = .ok (.iaload, 1) := by decide +kernel
theorem dL_law_1933 : decode cL_law 1933 = .ok (.aload_n 0, 1) := by decide +kernel
theorem dL_law_1934 : decode cL_law 1934 = .ok (.iload 4, 2) := by decide +kernel
theorem dL_law_1936 : decode cL_law 1936 = .ok (.iconst 3, 1) := by decide +kernel
theorem dL_law_1937 : decode cL_law 1937 = .ok (.iadd, 1) := by decide +kernel
theorem dL_law_1938 : decode cL_law 1938 = .ok (.iaload, 1) := by decide +kernel
theorem dL_law_1939 : decode cL_law 1939 = .ok (.aload_n 0, 1) := by decide +kernel
theorem dL_law_1940 : decode cL_law 1940 = .ok (.iload 4, 2) := by decide +kernel
theorem dL_law_1942 : decode cL_law 1942 = .ok (.iconst 4, 1) := by decide +kernel
theorem dL_law_1943 : decode cL_law 1943 = .ok (.iadd, 1) := by decide +kernel
theorem dL_law_1944 : decode cL_law 1944 = .ok (.iaload, 1) := by decide +kernel
theorem dL_law_1945 : decode cL_law 1945 = .ok (.invokevirtual 233, 3) := by decide +kernel
theorem dL_law_1948 : decode cL_law 1948 = .ok (.istore 6, 2) := by decide +kernel
theorem dL_law_1950 : decode cL_law 1950 = .ok (.aload_n 2, 1) := by decide +kernel
theorem dL_law_1951 : decode cL_law 1951 = .ok (.invokevirtual 149, 3) := by decide +kernel
theorem dL_law_1954 : decode cL_law 1954 = .ok (.iload 5, 2) := by decide +kernel
theorem dL_law_1956 : decode cL_law 1956 = .ok (.if_icmp .eq 5, 3) := by decide +kernel
theorem dL_law_1961 : decode cL_law 1961 = .ok (.iload 5, 2) := by decide +kernel
theorem dL_law_1963 : decode cL_law 1963 = .ok (.ifCond .ne 15, 3) := by decide +kernel
theorem dL_law_1978 : decode cL_law 1978 = .ok (.goto 1065, 3) := by decide +kernel
set_option maxRecDepth 100000 in
theorem zgL_law_L_bump_231_w : GoodIn lw_tbl zsL_bump := goodIn_app (goodIn_sub (ws := [.codeWith yL_bump cL_bump 7 (some .int) [(0, 14, 17, 37), (0, 14, 21, 13), (0, 14, 25, 15)]]) (fun _ h9 => List.mem_singleton.mp h9 ▸ List.mem_of_getElem? (i := 1686) rfl) (by decide +kernel)) (goodIn_app (goodIn_app (goodIn_app (goodIn_sub (ws := [.methodLink RL 85 yX11_bump, .instanceMethod yX11_bump, .selects RX11 yX11_bump yX11_bump, .initialized RX11, .code yX11_bump cX11_bump 12 (some .int), .classLink RL 37 "java/util/NoSuchElementException", .classLink RL 13 "java/lang/IndexOutOfBoundsException", .classLink RL 15 "java/lang/IllegalArgumentException", .methodLink RX11 166 yX11_needShot, .instanceMethod yX11_needShot, .selects RX11 yX11_needShot yX11_needShot, .code yX11_needShot cX11_needShot 3 (some (.object "PuppetFilm$Shot")), .classLink RX11 408 "java/util/NoSuchElementException", .initialized "java/util/NoSuchElementException", .fieldLink RX11 10 "PuppetFilm" "studio" "LPuppetFilm$Studio;", .methodLink RX11 271 yX8_shotAt, .instanceMethod yX8_shotAt, .selects RX8 yX8_shotAt yX8_shotAt, .initialized RX8, .code yX8_shotAt cX8_shotAt 2 (some (.object "PuppetFilm$Shot")), .fieldLink RX8 19 "PuppetFilm$Studio" "shots" "[LPuppetFilm$Shot;"]) (mem_ps [1687, 1688, 1689, 118, 1690, 1357, 848, 849, 1362, 1364, 45, 1365, 1367, 145, 554, 1366, 669, 670, 119, 671, 171] (by decide +kernel)) (by decide +kernel)) zgC_X11) zgC_X8) zgZ)
set_option maxRecDepth 100000 in
theorem zgL_law_L_bump_231 : GoodIn lw_tbl (va_wsS RL 231 yL_bump zsL_bump) := goodIn_app (goodIn_sub (mem_ps [1684, 1685, 117] (by decide +kernel)) (by decide +kernel)) zgL_law_L_bump_231_w
set_option maxRecDepth 100000 in
theorem zgL_law_wsX12_bump_r1 : GoodIn lw_tbl wsX12_bump_r1 := goodIn_sub (mem_ps [1882, 1927, 1926, 1947, 1929, 2376, 2378, 86, 129, 2379, 1920, 2222, 2223, 2224, 2225, 2227, 63, 2228, 2388, 2390, 88, 2391, 2471, 2472] rfl) (by decide +kernel)
set_option maxRecDepth 100000 in
theorem zgL_law_wsX12_bump_r2 : GoodIn lw_tbl wsX12_bump_r2 := goodIn_sub (mem_ps [2473, 2444, 2446, 94, 2447, 1924, 1925, 1921, 1923, 2345, 2346, 2347, 2401, 2403, 90, 2404, 1922, 1893] rfl) (by decide +kernel)
set_option maxRecDepth 100000 in
theorem zgL_law_X12_bump_233_w : GoodIn lw_tbl wsX12_bump := goodIn_app (goodIn_sub (ws := [.code yX12_bump cX12_bump 11 (some .int)]) (fun _ h9 => List.mem_singleton.mp h9 ▸ List.mem_of_getElem? (i := 2521) rfl) (by decide +kernel)) (goodIn_app (goodIn_app zgL_law_wsX12_bump_r1 zgL_law_wsX12_bump_r2) zgC_X12)
set_option maxRecDepth 100000 in
theorem zgL_law_X12_bump_233 : GoodIn lw_tbl (wsV RL 233 RX12 yX12_bump wsX12_bump) := goodIn_app (goodIn_sub (mem_ps [2518, 2519, 2520, 129] (by decide +kernel)) (by decide +kernel)) zgL_law_X12_bump_233_w
set_option maxHeartbeats 8000000 in
set_option maxRecDepth 100000 in
/-- the law: bump -/
theorem law_case_25 {p : Program} {l : Launch} {e : Env} {s : State} {m : MethodId} {below : List Frame} {meth : Method} {c : Code} {D : va_G} {cT : Nat → ClassId} {b : Nat} {xs : Nat → Int32} {A : Nat → Prop} (hst : l.stackTraces = false) (C0 : lw_At p s m meth c b 7 xs) (hA : ∀ q : Nat, s.heap.size ≤ q → A q) (hAl : ∀ q, A q → s.heap.size ≤ q) (hK : va_K D vwCl (TY cT) s) (hG : GW s) (hZ : GZ A s s.heap) {h0 : Nat} {m0 : Nat} {o9 : Nat} {x_studio : Nat} {x_script : Nat} {x_teller : Nat} {x_planner : Nat} {x_plan : Nat} {x_drifts : Nat} {x_floor : Nat} {x_trial : Nat} {x_tape : Nat} {s_puppets : Nat} {s_shots : Nat} {s_sounds : Nat} {s_rates : Nat} {s_dresses : Nat} {fs : List Value} (hfs : fs.length = 109) (hfs_0 : fs[0]? = some (.int 0)) (hfs_1 : fs[1]? = some (.int 0)) (hfs_38 : fs[38]? = some (.int 0)) {H : Heap} {locs : List Loc} (hP : va_P D vwCl [(h0, .inr (11, [.ref x_studio, .ref x_script, .ref x_teller, .ref x_planner, .ref x_plan, .ref x_drifts, .ref x_floor, .ref x_trial, .ref x_tape, .int 0, .int (-1)])), (x_studio, .inr (8, [.ref s_puppets, .int 0, .ref s_shots, .int 0, .ref s_sounds, .ref s_rates, .ref s_dresses])), (s_shots, .inl (cT 5, 12, .inr (.inr (.inr (.inr (fun _ => none)))))), (m0, .inr (12, fs))] H) (hD : va_D A [(h0, .inr (11, [.ref x_studio, .ref x_script, .ref x_teller, .ref x_planner, .ref x_plan, .ref x_drifts, .ref x_floor, .ref x_trial, .ref x_tape, .int 0, .int (-1)])), (x_studio, .inr (8, [.ref s_puppets, .int 0, .ref s_shots, .int 0, .ref s_sounds, .ref s_rates, .ref s_dresses])), (s_shots, .inl (cT 5, 12, .inr (.inr (.inr (.inr (fun _ => none)))))), (m0, .inr (12, fs))]) (hS : va_S A s.heap H locs) {ls : Array Slot} (hl : lv_has ls 7 [(4, .int 0), (3, .ref o9), (2, .ref m0), (1, .ref h0), (0, .ref b)]) : W p l e room_1 s m #[Value.ref b] below meth c H locs 215 539454 (lw_Z below #[Value.ref b] s) (F0 m 1889 ls []) := by
  obtain ⟨hx, hb, hr, hml, hown, hts0, hX, hbl, hlocks, hgv⟩ := id C0
  have hts := hts0
  have hbA : ¬ A b := fun h => absurd (hAl b h) (Nat.not_le.mpr hbl)
  have hown : s.vm.findClass RL = some m.cls := hown
  have hb : c.code = cL_law := hb
  refine lv_aload_n hx hb dL_law_1889 rfl (lv_at hl 3 rfl) ?_
  refine lv_aload_n hx hb dL_law_1890 rfl (lv_at hl 4 rfl) ?_
  refine lv_iload hx hb dL_law_1891 (lv_at hl 0 rfl) ?_
  refine lv_iconst (v := 1) hx hb dL_law_1893 (by decide) ?_
  refine lv_iadd hx hb dL_law_1894 ?_
  refine lv_topi (fun z_1 ez_1 => ?_)
  obtain rfl : z_1 = 1 := ez_1.trans (by decide)
  refine va_sld hx hb hX hbl hbA hS (by unfold vp_in; decide) dL_law_1895 ?_
  refine lv_aload_n hx hb dL_law_1896 rfl (lv_at hl 4 rfl) ?_
  refine lv_iload hx hb dL_law_1897 (lv_at hl 0 rfl) ?_
  refine lv_iconst (v := 2) hx hb dL_law_1899 (by decide) ?_
  refine lv_iadd hx hb dL_law_1900 ?_
  refine lv_topi (fun z_2 ez_2 => ?_)
  obtain rfl : z_2 = 2 := ez_2.trans (by decide)
  refine va_sld hx hb hX hbl hbA hS (by unfold vp_in; decide) dL_law_1901 ?_
  refine lv_aload_n hx hb dL_law_1902 rfl (lv_at hl 4 rfl) ?_
  refine lv_iload hx hb dL_law_1903 (lv_at hl 0 rfl) ?_
  refine lv_iconst (v := 3) hx hb dL_law_1905 (by decide) ?_
  refine lv_iadd hx hb dL_law_1906 ?_
  refine lv_topi (fun z_3 ez_3 => ?_)
  obtain rfl : z_3 = 3 := ez_3.trans (by decide)
  refine va_sld hx hb hX hbl hbA hS (by unfold vp_in; decide) dL_law_1907 ?_
  refine lv_aload_n hx hb dL_law_1908 rfl (lv_at hl 4 rfl) ?_
  refine lv_iload hx hb dL_law_1909 (lv_at hl 0 rfl) ?_
  refine lv_iconst (v := 4) hx hb dL_law_1911 (by decide) ?_
  refine lv_iadd hx hb dL_law_1912 ?_
  refine lv_topi (fun z_4 ez_4 => ?_)
  obtain rfl : z_4 = 4 := ez_4.trans (by decide)
  refine va_sld hx hb hX hbl hbA hS (by unfold vp_in; decide) dL_law_1913 ?_
  refine lv_aload_n hx hb dL_law_1914 rfl (lv_at hl 1 rfl) ?_
  have hF := va_free (wc := [(h0, .inr (11, [.ref x_studio, .ref x_script, .ref x_teller, .ref x_planner, .ref x_plan, .ref x_drifts, .ref x_floor, .ref x_trial, .ref x_tape, .int 0, .int (-1)])), (x_studio, .inr (8, [.ref s_puppets, .int 0, .ref s_shots, .int 0, .ref s_sounds, .ref s_rates, .ref s_dresses])), (s_shots, .inl (cT 5, 12, .inr (.inr (.inr (.inr (fun _ => none))))))]) hD hS hA [0, 1, 2] rfl
  refine va_calli (vx_runSW (As := [.ref h0, .int (xs (Int32.toNatClampNeg 1)), .int (xs (Int32.toNatClampNeg 2)), .int (xs (Int32.toNatClampNeg 3)), .int (xs (Int32.toNatClampNeg 4)), .ref o9]) (rest := []) ⟨hx, hb, hml, hown, hts⟩ (c_L_bump l hst D cT h0 (xs (Int32.toNatClampNeg 1)) (xs (Int32.toNatClampNeg 2)) (xs (Int32.toNatClampNeg 3)) (xs (Int32.toNatClampNeg 4)) o9 x_studio x_script x_teller x_planner x_plan x_drifts x_floor x_trial x_tape s_puppets s_shots s_sounds s_rates s_dresses _ ) (vx_cwSW 6 hts zgL_law_L_bump_231 rfl rfl rfl (by decide +kernel) ⟨Nat.le_of_ble_eq_true rfl, Nat.le_of_ble_eq_true rfl⟩) (ps_z hP hD hK hG hZ hS hF [0, 1, 2] rfl rfl rfl) rfl rfl hl.1 rfl (lv_room (Nat.le_of_ble_eq_true rfl)) dL_law_1915 ⟨Nat.le_of_ble_eq_true rfl, Nat.le_of_ble_eq_true rfl⟩) hS (fun q _ h => hF q h) hF (fun r_5 uu9 tt9 H locs ht hvm wr_5 hB hz1 hk1 hS => ?_)
  obtain ⟨hP, hD⟩ := va_join (wr := [(m0, .inr (12, fs))]) (w1 := []) hP hD [0, 1, 2] [3] rfl rfl (by decide) (by decide) hk1 hF vp_nil vd_nil
  have hP : va_P D vwCl [(m0, .inr (12, fs))] _ := hP
  have hD : va_D A [(m0, .inr (12, fs))] := hD
  refine W.widen (k := 216) (n := 539460) (Nat.le_of_ble_eq_true rfl) (Nat.le_of_ble_eq_true rfl) ?_
  obtain rfl : r_5 = 1 := wr_5.trans (rfl)
  refine lv_istore (lv' := [(5, .int 1), (4, .int 0), (3, .ref o9), (2, .ref m0), (1, .ref h0), (0, .ref b)]) hx hb dL_law_1918 hl (by decide) rfl (fun ls hl => ?_)
  refine lv_aload_n hx hb dL_law_1920 rfl (lv_at hl 3 rfl) ?_
  refine lv_aload_n hx hb dL_law_1921 rfl (lv_at hl 5 rfl) ?_
  refine lv_iload hx hb dL_law_1922 (lv_at hl 1 rfl) ?_
  refine lv_iconst (v := 1) hx hb dL_law_1924 (by decide) ?_
  refine lv_iadd hx hb dL_law_1925 ?_
  refine lv_topi (fun z_6 ez_6 => ?_)
  obtain rfl : z_6 = 1 := ez_6.trans (by decide)
  refine va_sld hx hb hX hbl hbA hS (by unfold vp_in; decide) dL_law_1926 ?_
  refine lv_aload_n hx hb dL_law_1927 rfl (lv_at hl 5 rfl) ?_
  refine lv_iload hx hb dL_law_1928 (lv_at hl 1 rfl) ?_
  refine lv_iconst (v := 2) hx hb dL_law_1930 (by decide) ?_
  refine lv_iadd hx hb dL_law_1931 ?_
  refine lv_topi (fun z_7 ez_7 => ?_)
  obtain rfl : z_7 = 2 := ez_7.trans (by decide)
  refine va_sld hx hb hX hbl hbA hS (by unfold vp_in; decide) dL_law_1932 ?_
  refine lv_aload_n hx hb dL_law_1933 rfl (lv_at hl 5 rfl) ?_
  refine lv_iload hx hb dL_law_1934 (lv_at hl 1 rfl) ?_
  refine lv_iconst (v := 3) hx hb dL_law_1936 (by decide) ?_
  refine lv_iadd hx hb dL_law_1937 ?_
  refine lv_topi (fun z_8 ez_8 => ?_)
  obtain rfl : z_8 = 3 := ez_8.trans (by decide)
  refine va_sld hx hb hX hbl hbA hS (by unfold vp_in; decide) dL_law_1938 ?_
  refine lv_aload_n hx hb dL_law_1939 rfl (lv_at hl 5 rfl) ?_
  refine lv_iload hx hb dL_law_1940 (lv_at hl 1 rfl) ?_
  refine lv_iconst (v := 4) hx hb dL_law_1942 (by decide) ?_
  refine lv_iadd hx hb dL_law_1943 ?_
  refine lv_topi (fun z_9 ez_9 => ?_)
  obtain rfl : z_9 = 4 := ez_9.trans (by decide)
  refine va_sld hx hb hX hbl hbA hS (by unfold vp_in; decide) dL_law_1944 ?_
  have hF := va_free (wc := [(m0, .inr (12, fs))]) hD hS hA [0] rfl
  refine va_calli (va_runV (As := [.int (xs (Int32.toNatClampNeg 1)), .int (xs (Int32.toNatClampNeg 2)), .int (xs (Int32.toNatClampNeg 3)), .int (xs (Int32.toNatClampNeg 4))]) (rest := []) ⟨hx, hb, hml, hown, hts⟩ (c_X12_bump l D cT m0 (xs (Int32.toNatClampNeg 1)) (xs (Int32.toNatClampNeg 2)) (xs (Int32.toNatClampNeg 3)) (xs (Int32.toNatClampNeg 4)) fs 0 _ (hfs) (hfs_0) (hfs_1) (hfs_38)) (cwV 4 hts zgL_law_X12_bump_233 rfl rfl rfl (by decide +kernel) ⟨Nat.le_of_ble_eq_true rfl, Nat.le_of_ble_eq_true rfl⟩) (pv_w hP hD hK hG [0] rfl rfl rfl 0 rfl rfl) rfl rfl hl.1 rfl (lv_room (Nat.le_of_ble_eq_true rfl)) dL_law_1945 ⟨Nat.le_of_ble_eq_true rfl, Nat.le_of_ble_eq_true rfl⟩) hS (fun q _ h => hF q h) hF (fun r_10 uu9 tt9 H locs ht hvm wr_10 hB hz1 hk1 hS => ?_)
  obtain ⟨gs_11, hgs_11, hgs_11_0, hP1, hD1⟩ := hB
  rw [ht] at hP1
  obtain ⟨hP, hD⟩ := va_join (wr := []) (w1 := [(m0, .inr (12, gs_11))]) hP hD [0] [] rfl rfl (by decide) (by decide) hk1 hF hP1 hD1
  have hP : va_P D vwCl [(m0, .inr (12, gs_11))] _ := hP
  have hD : va_D A [(m0, .inr (12, gs_11))] := hD
  refine lv_istore (lv' := [(6, .int r_10), (5, .int 1), (4, .int 0), (3, .ref o9), (2, .ref m0), (1, .ref h0), (0, .ref b)]) hx hb dL_law_1948 hl (by decide) rfl (fun ls hl => ?_)
  refine lv_aload_n hx hb dL_law_1950 rfl (lv_at hl 4 rfl) ?_
  have hF := va_free (wc := [(m0, .inr (12, gs_11))]) hD hS hA [0] rfl
  refine va_calli (va_runV (As := []) (rest := []) ⟨hx, hb, hml, hown, hts⟩ (c_X12_thrown l D cT m0 gs_11 1 _ (hgs_11) (hgs_11_0)) (cwV 0 hts zgL_law_X12_thrown_149 rfl rfl rfl (by decide +kernel) ⟨Nat.le_of_ble_eq_true rfl, Nat.le_of_ble_eq_true rfl⟩) (pv_w hP hD hK hG [0] rfl rfl rfl 0 rfl rfl) rfl rfl hl.1 rfl (lv_room (Nat.le_of_ble_eq_true rfl)) dL_law_1951 ⟨Nat.le_of_ble_eq_true rfl, Nat.le_of_ble_eq_true rfl⟩) hS (fun q _ h => hF q h) hF (fun r_14 uu9 tt9 H locs ht hvm wr_14 hB hz1 hk1 hS => ?_)
  obtain ⟨hP1, hD1⟩ := hB
  rw [ht] at hP1
  obtain ⟨hP, hD⟩ := va_join (wr := []) (w1 := [(m0, .inr (12, gs_11))]) hP hD [0] [] rfl rfl (by decide) (by decide) hk1 hF hP1 hD1
  have hP : va_P D vwCl [(m0, .inr (12, gs_11))] _ := hP
  have hD : va_D A [(m0, .inr (12, gs_11))] := hD
  obtain rfl : r_14 = 1 := wr_14.trans (rfl)
  refine lv_iload hx hb dL_law_1954 (lv_at hl 1 rfl) ?_
  refine lv_icmp_eq (tgt := 1961) hx hb dL_law_1956 (by decide) (fun _ => ?_) (fun c9 => absurd c9 (by decide))
  refine lv_iload hx hb dL_law_1961 (lv_at hl 1 rfl) ?_
  refine lv_if_ne (tgt := 1978) hx hb dL_law_1963 (by decide) (fun _ => ?_) (fun c9 => absurd c9 (by decide))
  refine lv_goto (tgt := 3043) hx hb dL_law_1978 (by decide) ?_
  exact law_end C0 hA hAl hS (lv_sub hl [2, 6] rfl) (Nat.le_of_ble_eq_true rfl) (Nat.le_of_ble_eq_true rfl)
theorem dL_law_1981 : decode cL_law 1981 = .ok (.aload_n 1, 1) := by decide +kernel
theorem dL_law_1982 : decode cL_law 1982 = .ok (.aload_n 0, 1) := by decide +kernel
theorem dL_law_1983 : decode cL_law 1983 = .ok (.iload 4, 2) := by decide +kernel
theorem dL_law_1985 : decode cL_law 1985 = .ok (.iconst 1, 1) := by decide +kernel
theorem dL_law_1986 : decode cL_law 1986 = .ok (.iadd, 1) := by decide +kernel
theorem dL_law_1987 : decode cL_law 1987 = .ok (.iaload, 1) := by decide +kernel
theorem dL_law_1988 : decode cL_law 1988 = .ok (.aload_n 3, 1) := by decide +kernel
theorem dL_law_1989 : decode cL_law 1989 = .ok (.invokestatic 234, 3) := by decide +kernel
theorem dL_law_1992 : decode cL_law 1992 = .ok (.istore 5, 2) := by decide +kernel
theorem dL_law_1994 : decode cL_law 1994 = .ok (.aload_n 2, 1) := by decide +kernel
theorem dL_law_1995 : decode cL_law 1995 = .ok (.aload_n 0, 1) := by decide +kernel
theorem dL_law_1996 : decode cL_law 1996 = .ok (.iload 4, 2) := by decide +kernel
theorem dL_law_1998 : decode cL_law 1998 = .ok (.iconst 1, 1) := by decide +kernel
theorem dL_law_1999 : decode cL_law 1999 = .ok (.iadd, 1) := by decide +kernel
theorem dL_law_2000 : decode cL_law 2000 = .ok (.iaload, 1) := by decide +kernel
theorem dL_law_2001 : decode cL_law 2001 = .ok (.invokevirtual 236, 3) := by decide +kernel
theorem dL_law_2004 : decode cL_law 2004 = .ok (.istore 6, 2) := by decide +kernel
theorem dL_law_2006 : decode cL_law 2006 = .ok (.aload_n 2, 1) := by decide +kernel
theorem dL_law_2007 : decode cL_law 2007 = .ok (.invokevirtual 149, 3) := by decide +kernel
theorem dL_law_2010 : decode cL_law 2010 = .ok (.iload 5, 2) := by decide +kernel
theorem dL_law_2012 : decode cL_law 2012 = .ok (.if_icmp .eq 5, 3) := by decide +kernel
theorem dL_law_2017 : decode cL_law 2017 = .ok (.iload 5, 2) := by decide +kernel
theorem dL_law_2019 : decode cL_law 2019 = .ok (.ifCond .ne 15, 3) := by decide +kernel
theorem dL_law_2022 : decode cL_law 2022 = .ok (.aload_n 3, 1) := by decide +kernel
theorem dL_law_2023 : decode cL_law 2023 = .ok (.iconst 0, 1) := by decide +kernel
theorem dL_law_2024 : decode cL_law 2024 = .ok (.laload, 1) := by decide +kernel
theorem dL_law_2025 : decode cL_law 2025 = .ok (.iload 6, 2) := by decide +kernel
theorem dL_law_2027 : decode cL_law 2027 = .ok (.i2l, 1) := by decide +kernel
theorem dL_law_2028 : decode cL_law 2028 = .ok (.lcmp, 1) := by decide +kernel
theorem dL_law_2029 : decode cL_law 2029 = .ok (.ifCond .eq 5, 3) := by decide +kernel
theorem dL_law_2034 : decode cL_law 2034 = .ok (.goto 1009, 3) := by decide +kernel
set_option maxRecDepth 100000 in
theorem zinX1 : ∀ w ∈ wsX10, w ∈ lw_tbl := mem_ps [517, 519, 521, 523, 525, 527, 529, 531, 533, 535, 537, 539, 541, 543, 545, 547, 549, 551] (by decide +kernel)
theorem zgC_X1 : GoodIn lw_tbl wsX10 := goodIn_sub zinX1 (by decide +kernel)
set_option maxRecDepth 100000 in
theorem zgL_law_L_wait_234_w : GoodIn lw_tbl wsL_wait := goodIn_app (goodIn_sub (ws := [.codeWith yL_wait cL_wait 4 (some .int) [(0, 9, 12, 15)]]) (fun _ h9 => List.mem_singleton.mp h9 ▸ List.mem_of_getElem? (i := 1700) rfl) (by decide +kernel)) (goodIn_app (goodIn_app (goodIn_app (goodIn_sub (ws := [.classLink RL 15 "java/lang/IllegalArgumentException", .methodLink RL 88 yX11_wait, .instanceMethod yX11_wait, .selects RX11 yX11_wait yX11_wait, .initialized RX11, .code yX11_wait cX11_wait 2 (some .int), .fieldLink RX11 60 "PuppetFilm" "floor" "LPuppetFilm$Floor;", .fieldLink RX11 321 "PuppetFilm$Floor" "half" "I", .methodLink RX11 97 yX11_within, .static yX11_within, .code yX11_within cX11_within 3 (some .boolean), .methodLink RX11 93 yX11_need, .static yX11_need, .code yX11_need cX11_need 1 none, .classLink RX11 192 "java/lang/IllegalArgumentException", .initialized "java/lang/IllegalArgumentException"]) (mem_ps [849, 1701, 1702, 1703, 118, 1704, 560, 499, 953, 758, 759, 934, 935, 936, 937, 135] (by decide +kernel)) (by decide +kernel)) zgC_X11) zgC_X1) zgF_196)
set_option maxRecDepth 100000 in
theorem zgL_law_L_wait_234 : GoodIn lw_tbl (va_wsS RL 234 yL_wait wsL_wait) := goodIn_app (goodIn_sub (mem_ps [1698, 1699, 117] (by decide +kernel)) (by decide +kernel)) zgL_law_L_wait_234_w
set_option maxRecDepth 100000 in
theorem zgL_law_X12_wait_236_w : GoodIn lw_tbl wsX12_wait := goodIn_app (goodIn_sub (ws := [.code yX12_wait cX12_wait 2 (some .int)]) (fun _ h9 => List.mem_singleton.mp h9 ▸ List.mem_of_getElem? (i := 2525) rfl) (by decide +kernel)) (goodIn_app (goodIn_sub (ws := [.fieldLink RX12 1 "PuppetFilmModel" "thrown" "I", .fieldLink RX12 513 "PuppetFilmModel" "half" "I", .methodLink RX12 267 yX12_within, .static yX12_within, .initialized RX12, .code yX12_within cX12_within 3 (some .boolean), .methodLink RX12 271 yX12_may, .instanceMethod yX12_may, .selects RX12 yX12_may yX12_may, .code yX12_may cX12_may 3 (some .boolean)]) (mem_ps [1882, 1964, 2222, 2223, 129, 2224, 2225, 2227, 63, 2228] (by decide +kernel)) (by decide +kernel)) zgC_X12)
set_option maxRecDepth 100000 in
theorem zgL_law_X12_wait_236 : GoodIn lw_tbl (wsV RL 236 RX12 yX12_wait wsX12_wait) := goodIn_app (goodIn_sub (mem_ps [2522, 2523, 2524, 129] (by decide +kernel)) (by decide +kernel)) zgL_law_X12_wait_236_w
set_option maxHeartbeats 8000000 in
set_option maxRecDepth 100000 in
/-- the law: wait -/
theorem law_case_26 {p : Program} {l : Launch} {e : Env} {s : State} {m : MethodId} {below : List Frame} {meth : Method} {c : Code} {D : va_G} {cT : Nat → ClassId} {b : Nat} {xs : Nat → Int32} {A : Nat → Prop} (hst : l.stackTraces = false) (C0 : lw_At p s m meth c b 7 xs) (hA : ∀ q : Nat, s.heap.size ≤ q → A q) (hAl : ∀ q, A q → s.heap.size ≤ q) (hK : va_K D vwCl (TY cT) s) (hG : GW s) (hZ : GZ A s s.heap) {h0 : Nat} {m0 : Nat} {o9 : Nat} {x_studio : Nat} {x_script : Nat} {x_teller : Nat} {x_planner : Nat} {x_plan : Nat} {x_drifts : Nat} {x_floor : Nat} {x_trial : Nat} {x_tape : Nat} {f_studio : Nat} {f_taken : Nat} {f_on : Nat} {f_queues : Nat} {f_queued : Nat} {f_engaged : Nat} {f_dressing : Nat} {f_dressed : Nat} {f_standing : Nat} {f_stations : Nat} {f_limits : Nat} {f_worked : Nat} {fs : List Value} {fo : Nat → Int64} (hfs : fs.length = 109) (hfs_0 : fs[0]? = some (.int 0)) (hfs_82 : fs[82]? = some (.int 0)) {H : Heap} {locs : List Loc} (hP : va_P D vwCl [(h0, .inr (11, [.ref x_studio, .ref x_script, .ref x_teller, .ref x_planner, .ref x_plan, .ref x_drifts, .ref x_floor, .ref x_trial, .ref x_tape, .int 0, .int (-1)])), (x_floor, .inr (1, [.ref f_studio, .int 1, .int 0, .ref f_taken, .ref f_on, .ref f_queues, .ref f_queued, .ref f_engaged, .ref f_dressing, .ref f_dressed, .ref f_standing, .ref f_stations, .int 0, .ref f_limits, .ref f_worked, .int 0, .int 0, .int 0])), (m0, .inr (12, fs)), (o9, .inl (cT 2, 1, .inr (.inl fo)))] H) (hD : va_D A [(h0, .inr (11, [.ref x_studio, .ref x_script, .ref x_teller, .ref x_planner, .ref x_plan, .ref x_drifts, .ref x_floor, .ref x_trial, .ref x_tape, .int 0, .int (-1)])), (x_floor, .inr (1, [.ref f_studio, .int 1, .int 0, .ref f_taken, .ref f_on, .ref f_queues, .ref f_queued, .ref f_engaged, .ref f_dressing, .ref f_dressed, .ref f_standing, .ref f_stations, .int 0, .ref f_limits, .ref f_worked, .int 0, .int 0, .int 0])), (m0, .inr (12, fs)), (o9, .inl (cT 2, 1, .inr (.inl fo)))]) (hS : va_S A s.heap H locs) {ls : Array Slot} (hl : lv_has ls 7 [(4, .int 0), (3, .ref o9), (2, .ref m0), (1, .ref h0), (0, .ref b)]) : W p l e room_1 s m #[Value.ref b] below meth c H locs 215 539454 (lw_Z below #[Value.ref b] s) (F0 m 1981 ls []) := by
  obtain ⟨hx, hb, hr, hml, hown, hts0, hX, hbl, hlocks, hgv⟩ := id C0
  have hts := hts0
  have hbA : ¬ A b := fun h => absurd (hAl b h) (Nat.not_le.mpr hbl)
  have hown : s.vm.findClass RL = some m.cls := hown
  have hb : c.code = cL_law := hb
  refine lv_aload_n hx hb dL_law_1981 rfl (lv_at hl 3 rfl) ?_
  refine lv_aload_n hx hb dL_law_1982 rfl (lv_at hl 4 rfl) ?_
  refine lv_iload hx hb dL_law_1983 (lv_at hl 0 rfl) ?_
  refine lv_iconst (v := 1) hx hb dL_law_1985 (by decide) ?_
  refine lv_iadd hx hb dL_law_1986 ?_
  refine lv_topi (fun z_1 ez_1 => ?_)
  obtain rfl : z_1 = 1 := ez_1.trans (by decide)
  refine va_sld hx hb hX hbl hbA hS (by unfold vp_in; decide) dL_law_1987 ?_
  refine lv_aload_n hx hb dL_law_1988 rfl (lv_at hl 1 rfl) ?_
  have hF := va_free (wc := [(h0, .inr (11, [.ref x_studio, .ref x_script, .ref x_teller, .ref x_planner, .ref x_plan, .ref x_drifts, .ref x_floor, .ref x_trial, .ref x_tape, .int 0, .int (-1)])), (x_floor, .inr (1, [.ref f_studio, .int 1, .int 0, .ref f_taken, .ref f_on, .ref f_queues, .ref f_queued, .ref f_engaged, .ref f_dressing, .ref f_dressed, .ref f_standing, .ref f_stations, .int 0, .ref f_limits, .ref f_worked, .int 0, .int 0, .int 0])), (o9, .inl (cT 2, 1, .inr (.inl fo)))]) hD hS hA [0, 1, 3] rfl
  refine va_calli (vx_runSW (As := [.ref h0, .int (xs (Int32.toNatClampNeg 1)), .ref o9]) (rest := []) ⟨hx, hb, hml, hown, hts⟩ (c_L_wait l hst D cT h0 (xs (Int32.toNatClampNeg 1)) o9 x_studio x_script x_teller x_planner x_plan x_drifts x_floor x_trial x_tape f_studio f_taken f_on f_queues f_queued f_engaged f_dressing f_dressed f_standing f_stations f_limits f_worked fo _ ) (vx_cwSW 3 hts zgL_law_L_wait_234 rfl rfl rfl (by decide +kernel) ⟨Nat.le_of_ble_eq_true rfl, Nat.le_of_ble_eq_true rfl⟩) (ps_z hP hD hK hG hZ hS hF [0, 1, 3] rfl rfl rfl) rfl rfl hl.1 rfl (lv_room (Nat.le_of_ble_eq_true rfl)) dL_law_1989 ⟨Nat.le_of_ble_eq_true rfl, Nat.le_of_ble_eq_true rfl⟩) hS (fun q _ h => hF q h) hF (fun r_2 uu9 tt9 H locs ht hvm wr_2 hB hz1 hk1 hS => ?_)
  obtain ⟨go_3, k_4, hP1, hD1⟩ := hB
  rw [ht] at hP1
  obtain ⟨hP, hD⟩ := va_join (wr := [(m0, .inr (12, fs))]) (w1 := [(o9, .inl (cT 2, 1, .inr (.inl go_3)))]) hP hD [0, 1, 3] [2] rfl rfl (by decide) (by decide) hk1 hF hP1 hD1
  have hP : va_P D vwCl [(m0, .inr (12, fs)), (o9, .inl (cT 2, 1, .inr (.inl go_3)))] _ := hP
  have hD : va_D A [(m0, .inr (12, fs)), (o9, .inl (cT 2, 1, .inr (.inl go_3)))] := hD
  refine W.widen (k := 216) (n := 539460) (Nat.le_of_ble_eq_true rfl) (Nat.le_of_ble_eq_true rfl) ?_
  refine lv_istore (lv' := [(5, .int r_2), (4, .int 0), (3, .ref o9), (2, .ref m0), (1, .ref h0), (0, .ref b)]) hx hb dL_law_1992 hl (by decide) rfl (fun ls hl => ?_)
  refine lv_aload_n hx hb dL_law_1994 rfl (lv_at hl 3 rfl) ?_
  refine lv_aload_n hx hb dL_law_1995 rfl (lv_at hl 5 rfl) ?_
  refine lv_iload hx hb dL_law_1996 (lv_at hl 1 rfl) ?_
  refine lv_iconst (v := 1) hx hb dL_law_1998 (by decide) ?_
  refine lv_iadd hx hb dL_law_1999 ?_
  refine lv_topi (fun z_5 ez_5 => ?_)
  obtain rfl : z_5 = 1 := ez_5.trans (by decide)
  refine va_sld hx hb hX hbl hbA hS (by unfold vp_in; decide) dL_law_2000 ?_
  have hF := va_free (wc := [(m0, .inr (12, fs))]) hD hS hA [0] rfl
  refine va_calli (va_runV (As := [.int (xs (Int32.toNatClampNeg 1))]) (rest := []) ⟨hx, hb, hml, hown, hts⟩ (c_X12_wait l D cT m0 (xs (Int32.toNatClampNeg 1)) fs 0 _ (hfs) (hfs_0) (hfs_82)) (cwV 1 hts zgL_law_X12_wait_236 rfl rfl rfl (by decide +kernel) ⟨Nat.le_of_ble_eq_true rfl, Nat.le_of_ble_eq_true rfl⟩) (pv_w hP hD hK hG [0] rfl rfl rfl 0 rfl rfl) rfl rfl hl.1 rfl (lv_room (Nat.le_of_ble_eq_true rfl)) dL_law_2001 ⟨Nat.le_of_ble_eq_true rfl, Nat.le_of_ble_eq_true rfl⟩) hS (fun q _ h => hF q h) hF (fun r_6 uu9 tt9 H locs ht hvm wr_6 hB hz1 hk1 hS => ?_)
  obtain ⟨gs_7, tt_8, hgs_7, hgs_7_0, k_11, hP1, hD1⟩ := hB
  rw [ht] at hP1
  obtain ⟨hP, hD⟩ := va_join (wr := [(o9, .inl (cT 2, 1, .inr (.inl go_3)))]) (w1 := [(m0, .inr (12, gs_7))]) hP hD [0] [1] rfl rfl (by decide) (by decide) hk1 hF hP1 hD1
  have hP : va_P D vwCl [(o9, .inl (cT 2, 1, .inr (.inl go_3))), (m0, .inr (12, gs_7))] _ := hP
  have hD : va_D A [(o9, .inl (cT 2, 1, .inr (.inl go_3))), (m0, .inr (12, gs_7))] := hD
  refine lv_istore (lv' := [(6, .int r_6), (5, .int r_2), (4, .int 0), (3, .ref o9), (2, .ref m0), (1, .ref h0), (0, .ref b)]) hx hb dL_law_2004 hl (by decide) rfl (fun ls hl => ?_)
  refine lv_aload_n hx hb dL_law_2006 rfl (lv_at hl 4 rfl) ?_
  have hF := va_free (wc := [(m0, .inr (12, gs_7))]) hD hS hA [1] rfl
  refine va_calli (va_runV (As := []) (rest := []) ⟨hx, hb, hml, hown, hts⟩ (c_X12_thrown l D cT m0 gs_7 tt_8 _ (hgs_7) (hgs_7_0)) (cwV 0 hts zgL_law_X12_thrown_149 rfl rfl rfl (by decide +kernel) ⟨Nat.le_of_ble_eq_true rfl, Nat.le_of_ble_eq_true rfl⟩) (pv_w hP hD hK hG [1] rfl rfl rfl 1 rfl rfl) rfl rfl hl.1 rfl (lv_room (Nat.le_of_ble_eq_true rfl)) dL_law_2007 ⟨Nat.le_of_ble_eq_true rfl, Nat.le_of_ble_eq_true rfl⟩) hS (fun q _ h => hF q h) hF (fun r_12 uu9 tt9 H locs ht hvm wr_12 hB hz1 hk1 hS => ?_)
  obtain ⟨hP1, hD1⟩ := hB
  rw [ht] at hP1
  obtain ⟨hP, hD⟩ := va_join (wr := [(o9, .inl (cT 2, 1, .inr (.inl go_3)))]) (w1 := [(m0, .inr (12, gs_7))]) hP hD [1] [0] rfl rfl (by decide) (by decide) hk1 hF hP1 hD1
  have hP : va_P D vwCl [(o9, .inl (cT 2, 1, .inr (.inl go_3))), (m0, .inr (12, gs_7))] _ := hP
  have hD : va_D A [(o9, .inl (cT 2, 1, .inr (.inl go_3))), (m0, .inr (12, gs_7))] := hD
  refine lv_iload hx hb dL_law_2010 (lv_at hl 1 rfl) ?_
  refine lv_icmp_eq (tgt := 2017) hx hb dL_law_2012 (by decide) (fun c_13 => ?_) (fun c_13 => ((c_13 (Eq.trans (wr_12.trans k_11) (Eq.symm wr_2)) : False)).elim)
  refine lv_iload hx hb dL_law_2017 (lv_at hl 1 rfl) ?_
  refine lv_if_ne (tgt := 2034) hx hb dL_law_2019 (by decide) (fun c_14 => ?_) (fun c_14 => ?_)
  · refine lv_goto (tgt := 3043) hx hb dL_law_2034 (by decide) ?_
    exact law_end C0 hA hAl hS (lv_sub hl [2, 6] rfl) (Nat.le_of_ble_eq_true rfl) (Nat.le_of_ble_eq_true rfl)
  · refine lv_aload_n hx hb dL_law_2022 rfl (lv_at hl 3 rfl) ?_
    refine lv_iconst (v := 0) hx hb dL_law_2023 (by decide) ?_
    refine va_lald hx hb hK hP 0 2 rfl rfl (by unfold vp_in; decide) dL_law_2024 ?_
    refine lv_topl (fun j_15 ej_15 => ?_)
    refine lv_iload hx hb dL_law_2025 (lv_at hl 0 rfl) ?_
    obtain ⟨j_16, ej_16⟩ : ∃ y : Int64, y = (r_6).toInt64 := ⟨_, rfl⟩
    refine lv_i2l (v := j_16) hx hb dL_law_2027 ej_16.symm ?_
    refine W.lcmp hx hb dL_law_2028 ?_
    refine lv_topi (fun x_17 ex_17 => ?_)
    refine lv_if_eq (tgt := 2034) hx hb dL_law_2029 (by decide) (fun c_18 => ?_) (fun c_18 => ((c_18 (ex_17.trans ((congr (congrArg lg_cmp (ej_15.trans (k_4 (Eq.trans (Eq.symm wr_2) c_14)))) (ej_16.trans (congrArg Int32.toInt64 (wr_6 (Eq.trans (Eq.symm wr_2) c_14))))).trans (lcmp_self _))) : False)).elim)
    refine lv_goto (tgt := 3043) hx hb dL_law_2034 (by decide) ?_
    exact law_end C0 hA hAl hS (lv_sub hl [2, 6] rfl) (Nat.le_of_ble_eq_true rfl) (Nat.le_of_ble_eq_true rfl)
theorem dL_law_2037 : decode cL_law 2037 = .ok (.aload_n 1, 1) := by decide +kernel
theorem dL_law_2038 : decode cL_law 2038 = .ok (.aload_n 0, 1) := by decide +kernel
theorem dL_law_2039 : decode cL_law 2039 = .ok (.iload 4, 2) := by decide +kernel
theorem dL_law_2041 : decode cL_law 2041 = .ok (.iconst 1, 1) := by decide +kernel
theorem dL_law_2042 : decode cL_law 2042 = .ok (.iadd, 1) := by decide +kernel
theorem dL_law_2043 : decode cL_law 2043 = .ok (.iaload, 1) := by decide +kernel
theorem dL_law_2044 : decode cL_law 2044 = .ok (.aload_n 0, 1) := by decide +kernel
theorem dL_law_2045 : decode cL_law 2045 = .ok (.iload 4, 2) := by decide +kernel
theorem dL_law_2047 : decode cL_law 2047 = .ok (.iconst 2, 1) := by decide +kernel
theorem dL_law_2048 : decode cL_law 2048 = .ok (.iadd, 1) := by decide +kernel
theorem dL_law_2049 : decode cL_law 2049 = .ok (.iaload, 1) := by decide +kernel
theorem dL_law_2050 : decode cL_law 2050 = .ok (.aload_n 3, 1) := by decide +kernel
theorem dL_law_2051 : decode cL_law 2051 = .ok (.invokestatic 237, 3) := by decide +kernel
theorem dL_law_2054 : decode cL_law 2054 = .ok (.istore 5, 2) := by decide +kernel
theorem dL_law_2056 : decode cL_law 2056 = .ok (.aload_n 2, 1) := by decide +kernel
theorem dL_law_2057 : decode cL_law 2057 = .ok (.aload_n 0, 1) := by decide +kernel
theorem dL_law_2058 : decode cL_law 2058 = .ok (.iload 4, 2) := by decide +kernel
theorem dL_law_2060 : decode cL_law 2060 = .ok (.iconst 1, 1) := by decide +kernel
theorem dL_law_2061 : decode cL_law 2061 = .ok (.iadd, 1) := by decide +kernel
theorem dL_law_2062 : decode cL_law 2062 = .ok (.iaload, 1) := by decide +kernel
theorem dL_law_2063 : decode cL_law 2063 = .ok (.aload_n 0, 1) := by decide +kernel
theorem dL_law_2064 : decode cL_law 2064 = .ok (.iload 4, 2) := by decide +kernel
theorem dL_law_2066 : decode cL_law 2066 = .ok (.iconst 2, 1) := by decide +kernel
theorem dL_law_2067 : decode cL_law 2067 = .ok (.iadd, 1) := by decide +kernel
theorem dL_law_2068 : decode cL_law 2068 = .ok (.iaload, 1) := by decide +kernel
theorem dL_law_2069 : decode cL_law 2069 = .ok (.invokevirtual 239, 3) := by decide +kernel
theorem dL_law_2072 : decode cL_law 2072 = .ok (.istore 6, 2) := by decide +kernel
theorem dL_law_2074 : decode cL_law 2074 = .ok (.aload_n 2, 1) := by decide +kernel
theorem dL_law_2075 : decode cL_law 2075 = .ok (.invokevirtual 149, 3) := by decide +kernel
theorem dL_law_2078 : decode cL_law 2078 = .ok (.iload 5, 2) := by decide +kernel
theorem dL_law_2080 : decode cL_law 2080 = .ok (.if_icmp .eq 5, 3) := by decide +kernel
theorem dL_law_2085 : decode cL_law 2085 = .ok (.iload 5, 2) := by decide +kernel
theorem dL_law_2087 : decode cL_law 2087 = .ok (.ifCond .ne 15, 3) := by decide +kernel
theorem dL_law_2102 : decode cL_law 2102 = .ok (.goto 941, 3) := by decide +kernel
set_option maxRecDepth 100000 in
theorem zgL_law_L_shoot_237_w : GoodIn lw_tbl zsL_shoot := goodIn_app (goodIn_sub (ws := [.codeWith yL_shoot cL_shoot 5 (some .int) [(0, 10, 13, 37), (0, 10, 17, 15)]]) (fun _ h9 => List.mem_singleton.mp h9 ▸ List.mem_of_getElem? (i := 1707) rfl) (by decide +kernel)) (goodIn_app (goodIn_app (goodIn_app (goodIn_sub (ws := [.methodLink RL 91 yX11_shoot, .instanceMethod yX11_shoot, .selects RX11 yX11_shoot yX11_shoot, .initialized RX11, .code yX11_shoot cX11_shoot 4 (some .int), .classLink RL 37 "java/util/NoSuchElementException", .classLink RL 15 "java/lang/IllegalArgumentException", .methodLink RX11 166 yX11_needShot, .instanceMethod yX11_needShot, .selects RX11 yX11_needShot yX11_needShot, .code yX11_needShot cX11_needShot 3 (some (.object "PuppetFilm$Shot")), .classLink RX11 408 "java/util/NoSuchElementException", .initialized "java/util/NoSuchElementException", .fieldLink RX11 10 "PuppetFilm" "studio" "LPuppetFilm$Studio;", .methodLink RX11 271 yX8_shotAt, .instanceMethod yX8_shotAt, .selects RX8 yX8_shotAt yX8_shotAt, .initialized RX8, .code yX8_shotAt cX8_shotAt 2 (some (.object "PuppetFilm$Shot")), .fieldLink RX8 19 "PuppetFilm$Studio" "shots" "[LPuppetFilm$Shot;"]) (mem_ps [1708, 1709, 1710, 118, 1711, 1357, 849, 1362, 1364, 45, 1365, 1367, 145, 554, 1366, 669, 670, 119, 671, 171] (by decide +kernel)) (by decide +kernel)) zgC_X11) zgC_X8) zgZ)
set_option maxRecDepth 100000 in
theorem zgL_law_L_shoot_237 : GoodIn lw_tbl (va_wsS RL 237 yL_shoot zsL_shoot) := goodIn_app (goodIn_sub (mem_ps [1705, 1706, 117] (by decide +kernel)) (by decide +kernel)) zgL_law_L_shoot_237_w
set_option maxRecDepth 100000 in
theorem zgL_law_X12_shoot_239_w : GoodIn lw_tbl wsX12_shoot := goodIn_app (goodIn_sub (ws := [.code yX12_shoot cX12_shoot 4 (some .int)]) (fun _ h9 => List.mem_singleton.mp h9 ▸ List.mem_of_getElem? (i := 2529) rfl) (by decide +kernel)) (goodIn_app (goodIn_sub (ws := [.fieldLink RX12 1 "PuppetFilmModel" "thrown" "I", .fieldLink RX12 116 "PuppetFilmModel" "shotMany" "[I", .fieldLink RX12 104 "PuppetFilmModel" "frames" "[I", .fieldLink RX12 119 "PuppetFilmModel" "shotAt" "[I", .fieldLink RX12 513 "PuppetFilmModel" "half" "I", .methodLink RX12 436 yX12_isShot, .instanceMethod yX12_isShot, .selects RX12 yX12_isShot yX12_isShot, .initialized RX12, .code yX12_isShot cX12_isShot 2 (some .boolean), .fieldLink RX12 398 "PuppetFilmModel" "shots" "I", .methodLink RX12 267 yX12_within, .static yX12_within, .code yX12_within cX12_within 3 (some .boolean), .methodLink RX12 271 yX12_may, .instanceMethod yX12_may, .selects RX12 yX12_may yX12_may, .code yX12_may cX12_may 3 (some .boolean), .methodLink RX12 404 yX12_place, .static yX12_place, .code yX12_place cX12_place 2 (some .int)]) (mem_ps [1882, 1930, 1926, 1931, 1964, 2376, 2378, 86, 129, 2379, 1920, 2222, 2223, 2224, 2225, 2227, 63, 2228, 2345, 2346, 2347] (by decide +kernel)) (by decide +kernel)) zgC_X12)
set_option maxRecDepth 100000 in
theorem zgL_law_X12_shoot_239 : GoodIn lw_tbl (wsV RL 239 RX12 yX12_shoot wsX12_shoot) := goodIn_app (goodIn_sub (mem_ps [2526, 2527, 2528, 129] (by decide +kernel)) (by decide +kernel)) zgL_law_X12_shoot_239_w
set_option maxHeartbeats 8000000 in
set_option maxRecDepth 100000 in
/-- the law: shoot -/
theorem law_case_27 {p : Program} {l : Launch} {e : Env} {s : State} {m : MethodId} {below : List Frame} {meth : Method} {c : Code} {D : va_G} {cT : Nat → ClassId} {b : Nat} {xs : Nat → Int32} {A : Nat → Prop} (hst : l.stackTraces = false) (C0 : lw_At p s m meth c b 7 xs) (hA : ∀ q : Nat, s.heap.size ≤ q → A q) (hAl : ∀ q, A q → s.heap.size ≤ q) (hK : va_K D vwCl (TY cT) s) (hG : GW s) (hZ : GZ A s s.heap) {h0 : Nat} {m0 : Nat} {o9 : Nat} {x_studio : Nat} {x_script : Nat} {x_teller : Nat} {x_planner : Nat} {x_plan : Nat} {x_drifts : Nat} {x_floor : Nat} {x_trial : Nat} {x_tape : Nat} {s_puppets : Nat} {s_shots : Nat} {s_sounds : Nat} {s_rates : Nat} {s_dresses : Nat} {fs : List Value} (hfs : fs.length = 109) (hfs_0 : fs[0]? = some (.int 0)) (hfs_1 : fs[1]? = some (.int 0)) (hfs_38 : fs[38]? = some (.int 0)) {H : Heap} {locs : List Loc} (hP : va_P D vwCl [(h0, .inr (11, [.ref x_studio, .ref x_script, .ref x_teller, .ref x_planner, .ref x_plan, .ref x_drifts, .ref x_floor, .ref x_trial, .ref x_tape, .int 0, .int (-1)])), (x_studio, .inr (8, [.ref s_puppets, .int 0, .ref s_shots, .int 0, .ref s_sounds, .ref s_rates, .ref s_dresses])), (s_shots, .inl (cT 5, 12, .inr (.inr (.inr (.inr (fun _ => none)))))), (m0, .inr (12, fs))] H) (hD : va_D A [(h0, .inr (11, [.ref x_studio, .ref x_script, .ref x_teller, .ref x_planner, .ref x_plan, .ref x_drifts, .ref x_floor, .ref x_trial, .ref x_tape, .int 0, .int (-1)])), (x_studio, .inr (8, [.ref s_puppets, .int 0, .ref s_shots, .int 0, .ref s_sounds, .ref s_rates, .ref s_dresses])), (s_shots, .inl (cT 5, 12, .inr (.inr (.inr (.inr (fun _ => none)))))), (m0, .inr (12, fs))]) (hS : va_S A s.heap H locs) {ls : Array Slot} (hl : lv_has ls 7 [(4, .int 0), (3, .ref o9), (2, .ref m0), (1, .ref h0), (0, .ref b)]) : W p l e room_1 s m #[Value.ref b] below meth c H locs 215 539454 (lw_Z below #[Value.ref b] s) (F0 m 2037 ls []) := by
  obtain ⟨hx, hb, hr, hml, hown, hts0, hX, hbl, hlocks, hgv⟩ := id C0
  have hts := hts0
  have hbA : ¬ A b := fun h => absurd (hAl b h) (Nat.not_le.mpr hbl)
  have hown : s.vm.findClass RL = some m.cls := hown
  have hb : c.code = cL_law := hb
  refine lv_aload_n hx hb dL_law_2037 rfl (lv_at hl 3 rfl) ?_
  refine lv_aload_n hx hb dL_law_2038 rfl (lv_at hl 4 rfl) ?_
  refine lv_iload hx hb dL_law_2039 (lv_at hl 0 rfl) ?_
  refine lv_iconst (v := 1) hx hb dL_law_2041 (by decide) ?_
  refine lv_iadd hx hb dL_law_2042 ?_
  refine lv_topi (fun z_1 ez_1 => ?_)
  obtain rfl : z_1 = 1 := ez_1.trans (by decide)
  refine va_sld hx hb hX hbl hbA hS (by unfold vp_in; decide) dL_law_2043 ?_
  refine lv_aload_n hx hb dL_law_2044 rfl (lv_at hl 4 rfl) ?_
  refine lv_iload hx hb dL_law_2045 (lv_at hl 0 rfl) ?_
  refine lv_iconst (v := 2) hx hb dL_law_2047 (by decide) ?_
  refine lv_iadd hx hb dL_law_2048 ?_
  refine lv_topi (fun z_2 ez_2 => ?_)
  obtain rfl : z_2 = 2 := ez_2.trans (by decide)
  refine va_sld hx hb hX hbl hbA hS (by unfold vp_in; decide) dL_law_2049 ?_
  refine lv_aload_n hx hb dL_law_2050 rfl (lv_at hl 1 rfl) ?_
  have hF := va_free (wc := [(h0, .inr (11, [.ref x_studio, .ref x_script, .ref x_teller, .ref x_planner, .ref x_plan, .ref x_drifts, .ref x_floor, .ref x_trial, .ref x_tape, .int 0, .int (-1)])), (x_studio, .inr (8, [.ref s_puppets, .int 0, .ref s_shots, .int 0, .ref s_sounds, .ref s_rates, .ref s_dresses])), (s_shots, .inl (cT 5, 12, .inr (.inr (.inr (.inr (fun _ => none))))))]) hD hS hA [0, 1, 2] rfl
  refine va_calli (vx_runSW (As := [.ref h0, .int (xs (Int32.toNatClampNeg 1)), .int (xs (Int32.toNatClampNeg 2)), .ref o9]) (rest := []) ⟨hx, hb, hml, hown, hts⟩ (c_L_shoot l hst D cT h0 (xs (Int32.toNatClampNeg 1)) (xs (Int32.toNatClampNeg 2)) o9 x_studio x_script x_teller x_planner x_plan x_drifts x_floor x_trial x_tape s_puppets s_shots s_sounds s_rates s_dresses _ ) (vx_cwSW 4 hts zgL_law_L_shoot_237 rfl rfl rfl (by decide +kernel) ⟨Nat.le_of_ble_eq_true rfl, Nat.le_of_ble_eq_true rfl⟩) (ps_z hP hD hK hG hZ hS hF [0, 1, 2] rfl rfl rfl) rfl rfl hl.1 rfl (lv_room (Nat.le_of_ble_eq_true rfl)) dL_law_2051 ⟨Nat.le_of_ble_eq_true rfl, Nat.le_of_ble_eq_true rfl⟩) hS (fun q _ h => hF q h) hF (fun r_3 uu9 tt9 H locs ht hvm wr_3 hB hz1 hk1 hS => ?_)
  obtain ⟨hP, hD⟩ := va_join (wr := [(m0, .inr (12, fs))]) (w1 := []) hP hD [0, 1, 2] [3] rfl rfl (by decide) (by decide) hk1 hF vp_nil vd_nil
  have hP : va_P D vwCl [(m0, .inr (12, fs))] _ := hP
  have hD : va_D A [(m0, .inr (12, fs))] := hD
  refine W.widen (k := 216) (n := 539460) (Nat.le_of_ble_eq_true rfl) (Nat.le_of_ble_eq_true rfl) ?_
  obtain rfl : r_3 = 1 := wr_3.trans (rfl)
  refine lv_istore (lv' := [(5, .int 1), (4, .int 0), (3, .ref o9), (2, .ref m0), (1, .ref h0), (0, .ref b)]) hx hb dL_law_2054 hl (by decide) rfl (fun ls hl => ?_)
  refine lv_aload_n hx hb dL_law_2056 rfl (lv_at hl 3 rfl) ?_
  refine lv_aload_n hx hb dL_law_2057 rfl (lv_at hl 5 rfl) ?_
  refine lv_iload hx hb dL_law_2058 (lv_at hl 1 rfl) ?_
  refine lv_iconst (v := 1) hx hb dL_law_2060 (by decide) ?_
  refine lv_iadd hx hb dL_law_2061 ?_
  refine lv_topi (fun z_4 ez_4 => ?_)
  obtain rfl : z_4 = 1 := ez_4.trans (by decide)
  refine va_sld hx hb hX hbl hbA hS (by unfold vp_in; decide) dL_law_2062 ?_
  refine lv_aload_n hx hb dL_law_2063 rfl (lv_at hl 5 rfl) ?_
  refine lv_iload hx hb dL_law_2064 (lv_at hl 1 rfl) ?_
  refine lv_iconst (v := 2) hx hb dL_law_2066 (by decide) ?_
  refine lv_iadd hx hb dL_law_2067 ?_
  refine lv_topi (fun z_5 ez_5 => ?_)
  obtain rfl : z_5 = 2 := ez_5.trans (by decide)
  refine va_sld hx hb hX hbl hbA hS (by unfold vp_in; decide) dL_law_2068 ?_
  have hF := va_free (wc := [(m0, .inr (12, fs))]) hD hS hA [0] rfl
  refine va_calli (va_runV (As := [.int (xs (Int32.toNatClampNeg 1)), .int (xs (Int32.toNatClampNeg 2))]) (rest := []) ⟨hx, hb, hml, hown, hts⟩ (c_X12_shoot l D cT m0 (xs (Int32.toNatClampNeg 1)) (xs (Int32.toNatClampNeg 2)) fs 0 _ (hfs) (hfs_0) (hfs_1) (hfs_38)) (cwV 2 hts zgL_law_X12_shoot_239 rfl rfl rfl (by decide +kernel) ⟨Nat.le_of_ble_eq_true rfl, Nat.le_of_ble_eq_true rfl⟩) (pv_w hP hD hK hG [0] rfl rfl rfl 0 rfl rfl) rfl rfl hl.1 rfl (lv_room (Nat.le_of_ble_eq_true rfl)) dL_law_2069 ⟨Nat.le_of_ble_eq_true rfl, Nat.le_of_ble_eq_true rfl⟩) hS (fun q _ h => hF q h) hF (fun r_6 uu9 tt9 H locs ht hvm wr_6 hB hz1 hk1 hS => ?_)
  obtain ⟨gs_7, hgs_7, hgs_7_0, hP1, hD1⟩ := hB
  rw [ht] at hP1
  obtain ⟨hP, hD⟩ := va_join (wr := []) (w1 := [(m0, .inr (12, gs_7))]) hP hD [0] [] rfl rfl (by decide) (by decide) hk1 hF hP1 hD1
  have hP : va_P D vwCl [(m0, .inr (12, gs_7))] _ := hP
  have hD : va_D A [(m0, .inr (12, gs_7))] := hD
  refine lv_istore (lv' := [(6, .int r_6), (5, .int 1), (4, .int 0), (3, .ref o9), (2, .ref m0), (1, .ref h0), (0, .ref b)]) hx hb dL_law_2072 hl (by decide) rfl (fun ls hl => ?_)
  refine lv_aload_n hx hb dL_law_2074 rfl (lv_at hl 4 rfl) ?_
  have hF := va_free (wc := [(m0, .inr (12, gs_7))]) hD hS hA [0] rfl
  refine va_calli (va_runV (As := []) (rest := []) ⟨hx, hb, hml, hown, hts⟩ (c_X12_thrown l D cT m0 gs_7 1 _ (hgs_7) (hgs_7_0)) (cwV 0 hts zgL_law_X12_thrown_149 rfl rfl rfl (by decide +kernel) ⟨Nat.le_of_ble_eq_true rfl, Nat.le_of_ble_eq_true rfl⟩) (pv_w hP hD hK hG [0] rfl rfl rfl 0 rfl rfl) rfl rfl hl.1 rfl (lv_room (Nat.le_of_ble_eq_true rfl)) dL_law_2075 ⟨Nat.le_of_ble_eq_true rfl, Nat.le_of_ble_eq_true rfl⟩) hS (fun q _ h => hF q h) hF (fun r_10 uu9 tt9 H locs ht hvm wr_10 hB hz1 hk1 hS => ?_)
  obtain ⟨hP1, hD1⟩ := hB
  rw [ht] at hP1
  obtain ⟨hP, hD⟩ := va_join (wr := []) (w1 := [(m0, .inr (12, gs_7))]) hP hD [0] [] rfl rfl (by decide) (by decide) hk1 hF hP1 hD1
  have hP : va_P D vwCl [(m0, .inr (12, gs_7))] _ := hP
  have hD : va_D A [(m0, .inr (12, gs_7))] := hD
  obtain rfl : r_10 = 1 := wr_10.trans (rfl)
  refine lv_iload hx hb dL_law_2078 (lv_at hl 1 rfl) ?_
  refine lv_icmp_eq (tgt := 2085) hx hb dL_law_2080 (by decide) (fun _ => ?_) (fun c9 => absurd c9 (by decide))
  refine lv_iload hx hb dL_law_2085 (lv_at hl 1 rfl) ?_
  refine lv_if_ne (tgt := 2102) hx hb dL_law_2087 (by decide) (fun _ => ?_) (fun c9 => absurd c9 (by decide))
  refine lv_goto (tgt := 3043) hx hb dL_law_2102 (by decide) ?_
  exact law_end C0 hA hAl hS (lv_sub hl [2, 6] rfl) (Nat.le_of_ble_eq_true rfl) (Nat.le_of_ble_eq_true rfl)
theorem dL_law_2105 : decode cL_law 2105 = .ok (.aload_n 1, 1) := by decide +kernel
theorem dL_law_2106 : decode cL_law 2106 = .ok (.aload_n 0, 1) := by decide +kernel
theorem dL_law_2107 : decode cL_law 2107 = .ok (.iload 4, 2) := by decide +kernel
theorem dL_law_2109 : decode cL_law 2109 = .ok (.iconst 1, 1) := by decide +kernel
theorem dL_law_2110 : decode cL_law 2110 = .ok (.iadd, 1) := by decide +kernel
theorem dL_law_2111 : decode cL_law 2111 = .ok (.iaload, 1) := by decide +kernel
theorem dL_law_2112 : decode cL_law 2112 = .ok (.aload_n 0, 1) := by decide +kernel
theorem dL_law_2113 : decode cL_law 2113 = .ok (.iload 4, 2) := by decide +kernel
theorem dL_law_2115 : decode cL_law 2115 = .ok (.iconst 2, 1) := by decide +kernel
theorem dL_law_2116 : decode cL_law 2116 = .ok (.iadd, 1) := by decide +kernel
theorem dL_law_2117 : decode cL_law 2117 = .ok (.iaload, 1) := by decide +kernel
theorem dL_law_2118 : decode cL_law 2118 = .ok (.aload_n 3, 1) := by decide +kernel
theorem dL_law_2119 : decode cL_law 2119 = .ok (.invokestatic 240, 3) := by decide +kernel
theorem dL_law_2122 : decode cL_law 2122 = .ok (.istore 5, 2) := by decide +kernel
theorem dL_law_2124 : decode cL_law 2124 = .ok (.aload_n 2, 1) := by decide +kernel
theorem dL_law_2125 : decode cL_law 2125 = .ok (.aload_n 0, 1) := by decide +kernel
theorem dL_law_2126 : decode cL_law 2126 = .ok (.iload 4, 2) := by decide +kernel
theorem dL_law_2128 : decode cL_law 2128 = .ok (.iconst 1, 1) := by decide +kernel
theorem dL_law_2129 : decode cL_law 2129 = .ok (.iadd, 1) := by decide +kernel
theorem dL_law_2130 : decode cL_law 2130 = .ok (.iaload, 1) := by decide +kernel
theorem dL_law_2131 : decode cL_law 2131 = .ok (.aload_n 0, 1) := by decide +kernel
theorem dL_law_2132 : decode cL_law 2132 = .ok (.iload 4, 2) := by decide +kernel
theorem dL_law_2134 : decode cL_law 2134 = .ok (.iconst 2, 1) := by decide +kernel
theorem dL_law_2135 : decode cL_law 2135 = .ok (.iadd, 1) := by decide +kernel
theorem dL_law_2136 : decode cL_law 2136 = .ok (.iaload, 1) := by decide +kernel
theorem dL_law_2137 : decode cL_law 2137 = .ok (.invokevirtual 242, 3) := by decide +kernel
theorem dL_law_2140 : decode cL_law 2140 = .ok (.istore 6, 2) := by decide +kernel
theorem dL_law_2142 : decode cL_law 2142 = .ok (.aload_n 2, 1) := by decide +kernel
theorem dL_law_2143 : decode cL_law 2143 = .ok (.invokevirtual 149, 3) := by decide +kernel
theorem dL_law_2146 : decode cL_law 2146 = .ok (.iload 5, 2) := by decide +kernel
theorem dL_law_2148 : decode cL_law 2148 = .ok (.if_icmp .eq 5, 3) := by decide +kernel
theorem dL_law_2153 : decode cL_law 2153 = .ok (.iload 5, 2) := by decide +kernel
theorem dL_law_2155 : decode cL_law 2155 = .ok (.ifCond .ne 15, 3) := by decide +kernel
theorem dL_law_2170 : decode cL_law 2170 = .ok (.goto 873, 3) := by decide +kernel
set_option maxRecDepth 100000 in
theorem zgL_law_L_when_240_w : GoodIn lw_tbl zsL_when := goodIn_app (goodIn_sub (ws := [.codeWith yL_when cL_when 5 (some .int) [(0, 10, 13, 37), (0, 10, 17, 13)]]) (fun _ h9 => List.mem_singleton.mp h9 ▸ List.mem_of_getElem? (i := 1715) rfl) (by decide +kernel)) (goodIn_app (goodIn_app (goodIn_app (goodIn_sub (ws := [.methodLink RL 94 yX11_when, .instanceMethod yX11_when, .selects RX11 yX11_when yX11_when, .initialized RX11, .code yX11_when cX11_when 4 (some .int), .classLink RL 37 "java/util/NoSuchElementException", .classLink RL 13 "java/lang/IndexOutOfBoundsException", .methodLink RX11 166 yX11_needShot, .instanceMethod yX11_needShot, .selects RX11 yX11_needShot yX11_needShot, .code yX11_needShot cX11_needShot 3 (some (.object "PuppetFilm$Shot")), .classLink RX11 408 "java/util/NoSuchElementException", .initialized "java/util/NoSuchElementException", .fieldLink RX11 10 "PuppetFilm" "studio" "LPuppetFilm$Studio;", .methodLink RX11 271 yX8_shotAt, .instanceMethod yX8_shotAt, .selects RX8 yX8_shotAt yX8_shotAt, .initialized RX8, .code yX8_shotAt cX8_shotAt 2 (some (.object "PuppetFilm$Shot")), .fieldLink RX8 19 "PuppetFilm$Studio" "shots" "[LPuppetFilm$Shot;"]) (mem_ps [1716, 1717, 1718, 118, 1719, 1357, 848, 1362, 1364, 45, 1365, 1367, 145, 554, 1366, 669, 670, 119, 671, 171] (by decide +kernel)) (by decide +kernel)) zgC_X11) zgC_X8) zgZ)
set_option maxRecDepth 100000 in
theorem zgL_law_L_when_240 : GoodIn lw_tbl (va_wsS RL 240 yL_when zsL_when) := goodIn_app (goodIn_sub (mem_ps [1713, 1714, 117] (by decide +kernel)) (by decide +kernel)) zgL_law_L_when_240_w
set_option maxRecDepth 100000 in
theorem zgL_law_X12_when_242_w : GoodIn lw_tbl wsX12_when := goodIn_app (goodIn_sub (ws := [.code yX12_when cX12_when 3 (some .int)]) (fun _ h9 => List.mem_singleton.mp h9 ▸ List.mem_of_getElem? (i := 2533) rfl) (by decide +kernel)) (goodIn_app (goodIn_sub (ws := [.fieldLink RX12 1 "PuppetFilmModel" "thrown" "I", .fieldLink RX12 116 "PuppetFilmModel" "shotMany" "[I", .fieldLink RX12 119 "PuppetFilmModel" "shotAt" "[I", .methodLink RX12 436 yX12_isShot, .instanceMethod yX12_isShot, .selects RX12 yX12_isShot yX12_isShot, .initialized RX12, .code yX12_isShot cX12_isShot 2 (some .boolean), .fieldLink RX12 398 "PuppetFilmModel" "shots" "I", .methodLink RX12 267 yX12_within, .static yX12_within, .code yX12_within cX12_within 3 (some .boolean), .methodLink RX12 271 yX12_may, .instanceMethod yX12_may, .selects RX12 yX12_may yX12_may, .code yX12_may cX12_may 3 (some .boolean), .methodLink RX12 442 yX12_isFrame, .instanceMethod yX12_isFrame, .selects RX12 yX12_isFrame yX12_isFrame, .code yX12_isFrame cX12_isFrame 3 (some .boolean), .fieldLink RX12 104 "PuppetFilmModel" "frames" "[I", .methodLink RX12 404 yX12_place, .static yX12_place, .code yX12_place cX12_place 2 (some .int)]) (mem_ps [1882, 1930, 1931, 2376, 2378, 86, 129, 2379, 1920, 2222, 2223, 2224, 2225, 2227, 63, 2228, 2388, 2390, 88, 2391, 1926, 2345, 2346, 2347] (by decide +kernel)) (by decide +kernel)) zgC_X12)
set_option maxRecDepth 100000 in
theorem zgL_law_X12_when_242 : GoodIn lw_tbl (wsV RL 242 RX12 yX12_when wsX12_when) := goodIn_app (goodIn_sub (mem_ps [2530, 2531, 2532, 129] (by decide +kernel)) (by decide +kernel)) zgL_law_X12_when_242_w
set_option maxHeartbeats 8000000 in
set_option maxRecDepth 100000 in
/-- the law: when -/
theorem law_case_28 {p : Program} {l : Launch} {e : Env} {s : State} {m : MethodId} {below : List Frame} {meth : Method} {c : Code} {D : va_G} {cT : Nat → ClassId} {b : Nat} {xs : Nat → Int32} {A : Nat → Prop} (hst : l.stackTraces = false) (C0 : lw_At p s m meth c b 7 xs) (hA : ∀ q : Nat, s.heap.size ≤ q → A q) (hAl : ∀ q, A q → s.heap.size ≤ q) (hK : va_K D vwCl (TY cT) s) (hG : GW s) (hZ : GZ A s s.heap) {h0 : Nat} {m0 : Nat} {o9 : Nat} {x_studio : Nat} {x_script : Nat} {x_teller : Nat} {x_planner : Nat} {x_plan : Nat} {x_drifts : Nat} {x_floor : Nat} {x_trial : Nat} {x_tape : Nat} {s_puppets : Nat} {s_shots : Nat} {s_sounds : Nat} {s_rates : Nat} {s_dresses : Nat} {fs : List Value} (hfs : fs.length = 109) (hfs_0 : fs[0]? = some (.int 0)) (hfs_1 : fs[1]? = some (.int 0)) (hfs_38 : fs[38]? = some (.int 0)) {H : Heap} {locs : List Loc} (hP : va_P D vwCl [(h0, .inr (11, [.ref x_studio, .ref x_script, .ref x_teller, .ref x_planner, .ref x_plan, .ref x_drifts, .ref x_floor, .ref x_trial, .ref x_tape, .int 0, .int (-1)])), (x_studio, .inr (8, [.ref s_puppets, .int 0, .ref s_shots, .int 0, .ref s_sounds, .ref s_rates, .ref s_dresses])), (s_shots, .inl (cT 5, 12, .inr (.inr (.inr (.inr (fun _ => none)))))), (m0, .inr (12, fs))] H) (hD : va_D A [(h0, .inr (11, [.ref x_studio, .ref x_script, .ref x_teller, .ref x_planner, .ref x_plan, .ref x_drifts, .ref x_floor, .ref x_trial, .ref x_tape, .int 0, .int (-1)])), (x_studio, .inr (8, [.ref s_puppets, .int 0, .ref s_shots, .int 0, .ref s_sounds, .ref s_rates, .ref s_dresses])), (s_shots, .inl (cT 5, 12, .inr (.inr (.inr (.inr (fun _ => none)))))), (m0, .inr (12, fs))]) (hS : va_S A s.heap H locs) {ls : Array Slot} (hl : lv_has ls 7 [(4, .int 0), (3, .ref o9), (2, .ref m0), (1, .ref h0), (0, .ref b)]) : W p l e room_1 s m #[Value.ref b] below meth c H locs 215 539454 (lw_Z below #[Value.ref b] s) (F0 m 2105 ls []) := by
  obtain ⟨hx, hb, hr, hml, hown, hts0, hX, hbl, hlocks, hgv⟩ := id C0
  have hts := hts0
  have hbA : ¬ A b := fun h => absurd (hAl b h) (Nat.not_le.mpr hbl)
  have hown : s.vm.findClass RL = some m.cls := hown
  have hb : c.code = cL_law := hb
  refine lv_aload_n hx hb dL_law_2105 rfl (lv_at hl 3 rfl) ?_
  refine lv_aload_n hx hb dL_law_2106 rfl (lv_at hl 4 rfl) ?_
  refine lv_iload hx hb dL_law_2107 (lv_at hl 0 rfl) ?_
  refine lv_iconst (v := 1) hx hb dL_law_2109 (by decide) ?_
  refine lv_iadd hx hb dL_law_2110 ?_
  refine lv_topi (fun z_1 ez_1 => ?_)
  obtain rfl : z_1 = 1 := ez_1.trans (by decide)
  refine va_sld hx hb hX hbl hbA hS (by unfold vp_in; decide) dL_law_2111 ?_
  refine lv_aload_n hx hb dL_law_2112 rfl (lv_at hl 4 rfl) ?_
  refine lv_iload hx hb dL_law_2113 (lv_at hl 0 rfl) ?_
  refine lv_iconst (v := 2) hx hb dL_law_2115 (by decide) ?_
  refine lv_iadd hx hb dL_law_2116 ?_
  refine lv_topi (fun z_2 ez_2 => ?_)
  obtain rfl : z_2 = 2 := ez_2.trans (by decide)
  refine va_sld hx hb hX hbl hbA hS (by unfold vp_in; decide) dL_law_2117 ?_
  refine lv_aload_n hx hb dL_law_2118 rfl (lv_at hl 1 rfl) ?_
  have hF := va_free (wc := [(h0, .inr (11, [.ref x_studio, .ref x_script, .ref x_teller, .ref x_planner, .ref x_plan, .ref x_drifts, .ref x_floor, .ref x_trial, .ref x_tape, .int 0, .int (-1)])), (x_studio, .inr (8, [.ref s_puppets, .int 0, .ref s_shots, .int 0, .ref s_sounds, .ref s_rates, .ref s_dresses])), (s_shots, .inl (cT 5, 12, .inr (.inr (.inr (.inr (fun _ => none))))))]) hD hS hA [0, 1, 2] rfl
  refine va_calli (vx_runSW (As := [.ref h0, .int (xs (Int32.toNatClampNeg 1)), .int (xs (Int32.toNatClampNeg 2)), .ref o9]) (rest := []) ⟨hx, hb, hml, hown, hts⟩ (c_L_when l hst D cT h0 (xs (Int32.toNatClampNeg 1)) (xs (Int32.toNatClampNeg 2)) o9 x_studio x_script x_teller x_planner x_plan x_drifts x_floor x_trial x_tape s_puppets s_shots s_sounds s_rates s_dresses _ ) (vx_cwSW 4 hts zgL_law_L_when_240 rfl rfl rfl (by decide +kernel) ⟨Nat.le_of_ble_eq_true rfl, Nat.le_of_ble_eq_true rfl⟩) (ps_z hP hD hK hG hZ hS hF [0, 1, 2] rfl rfl rfl) rfl rfl hl.1 rfl (lv_room (Nat.le_of_ble_eq_true rfl)) dL_law_2119 ⟨Nat.le_of_ble_eq_true rfl, Nat.le_of_ble_eq_true rfl⟩) hS (fun q _ h => hF q h) hF (fun r_3 uu9 tt9 H locs ht hvm wr_3 hB hz1 hk1 hS => ?_)
  obtain ⟨hP, hD⟩ := va_join (wr := [(m0, .inr (12, fs))]) (w1 := []) hP hD [0, 1, 2] [3] rfl rfl (by decide) (by decide) hk1 hF vp_nil vd_nil
  have hP : va_P D vwCl [(m0, .inr (12, fs))] _ := hP
  have hD : va_D A [(m0, .inr (12, fs))] := hD
  refine W.widen (k := 216) (n := 539460) (Nat.le_of_ble_eq_true rfl) (Nat.le_of_ble_eq_true rfl) ?_
  obtain rfl : r_3 = 1 := wr_3.trans (rfl)
  refine lv_istore (lv' := [(5, .int 1), (4, .int 0), (3, .ref o9), (2, .ref m0), (1, .ref h0), (0, .ref b)]) hx hb dL_law_2122 hl (by decide) rfl (fun ls hl => ?_)
  refine lv_aload_n hx hb dL_law_2124 rfl (lv_at hl 3 rfl) ?_
  refine lv_aload_n hx hb dL_law_2125 rfl (lv_at hl 5 rfl) ?_
  refine lv_iload hx hb dL_law_2126 (lv_at hl 1 rfl) ?_
  refine lv_iconst (v := 1) hx hb dL_law_2128 (by decide) ?_
  refine lv_iadd hx hb dL_law_2129 ?_
  refine lv_topi (fun z_4 ez_4 => ?_)
  obtain rfl : z_4 = 1 := ez_4.trans (by decide)
  refine va_sld hx hb hX hbl hbA hS (by unfold vp_in; decide) dL_law_2130 ?_
  refine lv_aload_n hx hb dL_law_2131 rfl (lv_at hl 5 rfl) ?_
  refine lv_iload hx hb dL_law_2132 (lv_at hl 1 rfl) ?_
  refine lv_iconst (v := 2) hx hb dL_law_2134 (by decide) ?_
  refine lv_iadd hx hb dL_law_2135 ?_
  refine lv_topi (fun z_5 ez_5 => ?_)
  obtain rfl : z_5 = 2 := ez_5.trans (by decide)
  refine va_sld hx hb hX hbl hbA hS (by unfold vp_in; decide) dL_law_2136 ?_
  have hF := va_free (wc := [(m0, .inr (12, fs))]) hD hS hA [0] rfl
  refine va_calli (va_runV (As := [.int (xs (Int32.toNatClampNeg 1)), .int (xs (Int32.toNatClampNeg 2))]) (rest := []) ⟨hx, hb, hml, hown, hts⟩ (c_X12_when l D cT m0 (xs (Int32.toNatClampNeg 1)) (xs (Int32.toNatClampNeg 2)) fs 0 _ (hfs) (hfs_0) (hfs_1) (hfs_38)) (cwV 2 hts zgL_law_X12_when_242 rfl rfl rfl (by decide +kernel) ⟨Nat.le_of_ble_eq_true rfl, Nat.le_of_ble_eq_true rfl⟩) (pv_w hP hD hK hG [0] rfl rfl rfl 0 rfl rfl) rfl rfl hl.1 rfl (lv_room (Nat.le_of_ble_eq_true rfl)) dL_law_2137 ⟨Nat.le_of_ble_eq_true rfl, Nat.le_of_ble_eq_true rfl⟩) hS (fun q _ h => hF q h) hF (fun r_6 uu9 tt9 H locs ht hvm wr_6 hB hz1 hk1 hS => ?_)
  obtain ⟨gs_7, hgs_7, hgs_7_0, hP1, hD1⟩ := hB
  rw [ht] at hP1
  obtain ⟨hP, hD⟩ := va_join (wr := []) (w1 := [(m0, .inr (12, gs_7))]) hP hD [0] [] rfl rfl (by decide) (by decide) hk1 hF hP1 hD1
  have hP : va_P D vwCl [(m0, .inr (12, gs_7))] _ := hP
  have hD : va_D A [(m0, .inr (12, gs_7))] := hD
  refine lv_istore (lv' := [(6, .int r_6), (5, .int 1), (4, .int 0), (3, .ref o9), (2, .ref m0), (1, .ref h0), (0, .ref b)]) hx hb dL_law_2140 hl (by decide) rfl (fun ls hl => ?_)
  refine lv_aload_n hx hb dL_law_2142 rfl (lv_at hl 4 rfl) ?_
  have hF := va_free (wc := [(m0, .inr (12, gs_7))]) hD hS hA [0] rfl
  refine va_calli (va_runV (As := []) (rest := []) ⟨hx, hb, hml, hown, hts⟩ (c_X12_thrown l D cT m0 gs_7 1 _ (hgs_7) (hgs_7_0)) (cwV 0 hts zgL_law_X12_thrown_149 rfl rfl rfl (by decide +kernel) ⟨Nat.le_of_ble_eq_true rfl, Nat.le_of_ble_eq_true rfl⟩) (pv_w hP hD hK hG [0] rfl rfl rfl 0 rfl rfl) rfl rfl hl.1 rfl (lv_room (Nat.le_of_ble_eq_true rfl)) dL_law_2143 ⟨Nat.le_of_ble_eq_true rfl, Nat.le_of_ble_eq_true rfl⟩) hS (fun q _ h => hF q h) hF (fun r_10 uu9 tt9 H locs ht hvm wr_10 hB hz1 hk1 hS => ?_)
  obtain ⟨hP1, hD1⟩ := hB
  rw [ht] at hP1
  obtain ⟨hP, hD⟩ := va_join (wr := []) (w1 := [(m0, .inr (12, gs_7))]) hP hD [0] [] rfl rfl (by decide) (by decide) hk1 hF hP1 hD1
  have hP : va_P D vwCl [(m0, .inr (12, gs_7))] _ := hP
  have hD : va_D A [(m0, .inr (12, gs_7))] := hD
  obtain rfl : r_10 = 1 := wr_10.trans (rfl)
  refine lv_iload hx hb dL_law_2146 (lv_at hl 1 rfl) ?_
  refine lv_icmp_eq (tgt := 2153) hx hb dL_law_2148 (by decide) (fun _ => ?_) (fun c9 => absurd c9 (by decide))
  refine lv_iload hx hb dL_law_2153 (lv_at hl 1 rfl) ?_
  refine lv_if_ne (tgt := 2170) hx hb dL_law_2155 (by decide) (fun _ => ?_) (fun c9 => absurd c9 (by decide))
  refine lv_goto (tgt := 3043) hx hb dL_law_2170 (by decide) ?_
  exact law_end C0 hA hAl hS (lv_sub hl [2, 6] rfl) (Nat.le_of_ble_eq_true rfl) (Nat.le_of_ble_eq_true rfl)
theorem dL_law_2173 : decode cL_law 2173 = .ok (.aload_n 1, 1) := by decide +kernel
theorem dL_law_2174 : decode cL_law 2174 = .ok (.aload_n 0, 1) := by decide +kernel
theorem dL_law_2175 : decode cL_law 2175 = .ok (.iload 4, 2) := by decide +kernel
theorem dL_law_2177 : decode cL_law 2177 = .ok (.iconst 1, 1) := by decide +kernel
theorem dL_law_2178 : decode cL_law 2178 = .ok (.iadd, 1) := by decide +kernel
theorem dL_law_2179 : decode cL_law 2179 = .ok (.iaload, 1) := by decide +kernel
theorem dL_law_2180 : decode cL_law 2180 = .ok (.aload_n 0, 1) := by decide +kernel
theorem dL_law_2181 : decode cL_law 2181 = .ok (.iload 4, 2) := by decide +kernel
theorem dL_law_2183 : decode cL_law 2183 = .ok (.iconst 2, 1) := by decide +kernel
theorem dL_law_2184 : decode cL_law 2184 = .ok (.iadd, 1) := by decide +kernel
theorem dL_law_2185 : decode cL_law 2185 = .ok (.iaload, 1) := by decide +kernel
theorem dL_law_2186 : decode cL_law 2186 = .ok (.aload_n 0, 1) := by decide +kernel
theorem dL_law_2187 : decode cL_law 2187 = .ok (.iload 4, 2) := by decide +kernel
theorem dL_law_2189 : decode cL_law 2189 = .ok (.iconst 3, 1) := by decide +kernel
theorem dL_law_2190 : decode cL_law 2190 = .ok (.iadd, 1) := by decide +kernel
theorem dL_law_2191 : decode cL_law 2191 = .ok (.iaload, 1) := by decide +kernel
theorem dL_law_2192 : decode cL_law 2192 = .ok (.aload_n 3, 1) := by decide +kernel
theorem dL_law_2193 : decode cL_law 2193 = .ok (.invokestatic 243, 3) := by decide +kernel
theorem dL_law_2196 : decode cL_law 2196 = .ok (.istore 5, 2) := by decide +kernel
theorem dL_law_2198 : decode cL_law 2198 = .ok (.aload_n 2, 1) := by decide +kernel
theorem dL_law_2199 : decode cL_law 2199 = .ok (.aload_n 0, 1) := by decide +kernel
theorem dL_law_2200 : decode cL_law 2200 = .ok (.iload 4, 2) := by decide +kernel
theorem dL_law_2202 : decode cL_law 2202 = .ok (.iconst 1, 1) := by decide +kernel
theorem dL_law_2203 : decode cL_law 2203 = .ok (.iadd, 1) := by decide +kernel
theorem dL_law_2204 : decode cL_law 2204 = .ok (.iaload, 1) := by decide +kernel
theorem dL_law_2205 : decode cL_law 2205 = .ok (.aload_n 0, 1) := by decide +kernel
theorem dL_law_2206 : decode cL_law 2206 = .ok (.iload 4, 2) := by decide +kernel
theorem dL_law_2208 : decode cL_law 2208 = .ok (.iconst 2, 1) := by decide +kernel
theorem dL_law_2209 : decode cL_law 2209 = .ok (.iadd, 1) := by decide +kernel
theorem dL_law_2210 : decode cL_law 2210 = .ok (.iaload, 1) := by decide +kernel
theorem dL_law_2211 : decode cL_law 2211 = .ok (.aload_n 0, 1) := by decide +kernel
theorem dL_law_2212 : decode cL_law 2212 = .ok (.iload 4, 2) := by decide +kernel
theorem dL_law_2214 : decode cL_law 2214 = .ok (.iconst 3, 1) := by decide +kernel
theorem dL_law_2215 : decode cL_law 2215 = .ok (.iadd, 1) := by decide +kernel
theorem dL_law_2216 : decode cL_law 2216 = .ok (.iaload, 1) := by decide +kernel
theorem dL_law_2217 : decode cL_law 2217 = .ok (.invokevirtual 245, 3) := by decide +kernel
theorem dL_law_2220 : decode cL_law 2220 = .ok (.istore 6, 2) := by decide +kernel
theorem dL_law_2222 : decode cL_law 2222 = .ok (.aload_n 2, 1) := by decide +kernel
theorem dL_law_2223 : decode cL_law 2223 = .ok (.invokevirtual 149, 3) := by decide +kernel
theorem dL_law_2226 : decode cL_law 2226 = .ok (.iload 5, 2) := by decide +kernel
theorem dL_law_2228 : decode cL_law 2228 = .ok (.if_icmp .eq 5, 3) := by decide +kernel
theorem dL_law_2233 : decode cL_law 2233 = .ok (.iload 5, 2) := by decide +kernel
theorem dL_law_2235 : decode cL_law 2235 = .ok (.ifCond .ne 15, 3) := by decide +kernel
theorem dL_law_2250 : decode cL_law 2250 = .ok (.goto 793, 3) := by decide +kernel
set_option maxRecDepth 100000 in
theorem zgL_law_L_measure_243_w : GoodIn lw_tbl zsL_measure := goodIn_app (goodIn_sub (ws := [.codeWith yL_measure cL_measure 6 (some .int) [(0, 12, 15, 37), (0, 12, 19, 13), (0, 12, 23, 15)]]) (fun _ h9 => List.mem_singleton.mp h9 ▸ List.mem_of_getElem? (i := 1726) rfl) (by decide +kernel)) (goodIn_app (goodIn_app (goodIn_app (goodIn_sub (ws := [.methodLink RL 97 yX11_measure, .instanceMethod yX11_measure, .selects RX11 yX11_measure yX11_measure, .initialized RX11, .code yX11_measure cX11_measure 5 (some .int), .classLink RL 37 "java/util/NoSuchElementException", .classLink RL 13 "java/lang/IndexOutOfBoundsException", .classLink RL 15 "java/lang/IllegalArgumentException", .methodLink RX11 166 yX11_needShot, .instanceMethod yX11_needShot, .selects RX11 yX11_needShot yX11_needShot, .code yX11_needShot cX11_needShot 3 (some (.object "PuppetFilm$Shot")), .classLink RX11 408 "java/util/NoSuchElementException", .initialized "java/util/NoSuchElementException", .fieldLink RX11 10 "PuppetFilm" "studio" "LPuppetFilm$Studio;", .methodLink RX11 271 yX8_shotAt, .instanceMethod yX8_shotAt, .selects RX8 yX8_shotAt yX8_shotAt, .initialized RX8, .code yX8_shotAt cX8_shotAt 2 (some (.object "PuppetFilm$Shot")), .fieldLink RX8 19 "PuppetFilm$Studio" "shots" "[LPuppetFilm$Shot;"]) (mem_ps [1727, 1728, 1729, 118, 1730, 1357, 848, 849, 1362, 1364, 45, 1365, 1367, 145, 554, 1366, 669, 670, 119, 671, 171] (by decide +kernel)) (by decide +kernel)) zgC_X11) zgC_X8) zgZ)
set_option maxRecDepth 100000 in
theorem zgL_law_L_measure_243 : GoodIn lw_tbl (va_wsS RL 243 yL_measure zsL_measure) := goodIn_app (goodIn_sub (mem_ps [1724, 1725, 117] (by decide +kernel)) (by decide +kernel)) zgL_law_L_measure_243_w
set_option maxRecDepth 100000 in
theorem zgL_law_wsX12_measure_r1 : GoodIn lw_tbl wsX12_measure_r1 := goodIn_sub (mem_ps [1882, 1930, 1965, 1966, 1967, 1968, 1964, 1969, 2376, 2378, 86, 129, 2379, 1920, 2222, 2223, 2224, 2225, 2227, 63, 2228, 2388, 2390, 88] rfl) (by decide +kernel)
set_option maxRecDepth 100000 in
theorem zgL_law_wsX12_measure_r2 : GoodIn lw_tbl wsX12_measure_r2 := goodIn_sub (mem_ps [2391, 1926] rfl) (by decide +kernel)
set_option maxRecDepth 100000 in
theorem zgL_law_X12_measure_245_w : GoodIn lw_tbl wsX12_measure := goodIn_app (goodIn_sub (ws := [.code yX12_measure cX12_measure 4 (some .int)]) (fun _ h9 => List.mem_singleton.mp h9 ▸ List.mem_of_getElem? (i := 2537) rfl) (by decide +kernel)) (goodIn_app (goodIn_app zgL_law_wsX12_measure_r1 zgL_law_wsX12_measure_r2) zgC_X12)
set_option maxRecDepth 100000 in
theorem zgL_law_X12_measure_245 : GoodIn lw_tbl (wsV RL 245 RX12 yX12_measure wsX12_measure) := goodIn_app (goodIn_sub (mem_ps [2534, 2535, 2536, 129] (by decide +kernel)) (by decide +kernel)) zgL_law_X12_measure_245_w
set_option maxHeartbeats 8000000 in
set_option maxRecDepth 100000 in
/-- the law: measure -/
theorem law_case_29 {p : Program} {l : Launch} {e : Env} {s : State} {m : MethodId} {below : List Frame} {meth : Method} {c : Code} {D : va_G} {cT : Nat → ClassId} {b : Nat} {xs : Nat → Int32} {A : Nat → Prop} (hst : l.stackTraces = false) (C0 : lw_At p s m meth c b 7 xs) (hA : ∀ q : Nat, s.heap.size ≤ q → A q) (hAl : ∀ q, A q → s.heap.size ≤ q) (hK : va_K D vwCl (TY cT) s) (hG : GW s) (hZ : GZ A s s.heap) {h0 : Nat} {m0 : Nat} {o9 : Nat} {x_studio : Nat} {x_script : Nat} {x_teller : Nat} {x_planner : Nat} {x_plan : Nat} {x_drifts : Nat} {x_floor : Nat} {x_trial : Nat} {x_tape : Nat} {s_puppets : Nat} {s_shots : Nat} {s_sounds : Nat} {s_rates : Nat} {s_dresses : Nat} {fs : List Value} (hfs : fs.length = 109) (hfs_0 : fs[0]? = some (.int 0)) (hfs_1 : fs[1]? = some (.int 0)) (hfs_38 : fs[38]? = some (.int 0)) {H : Heap} {locs : List Loc} (hP : va_P D vwCl [(h0, .inr (11, [.ref x_studio, .ref x_script, .ref x_teller, .ref x_planner, .ref x_plan, .ref x_drifts, .ref x_floor, .ref x_trial, .ref x_tape, .int 0, .int (-1)])), (x_studio, .inr (8, [.ref s_puppets, .int 0, .ref s_shots, .int 0, .ref s_sounds, .ref s_rates, .ref s_dresses])), (s_shots, .inl (cT 5, 12, .inr (.inr (.inr (.inr (fun _ => none)))))), (m0, .inr (12, fs))] H) (hD : va_D A [(h0, .inr (11, [.ref x_studio, .ref x_script, .ref x_teller, .ref x_planner, .ref x_plan, .ref x_drifts, .ref x_floor, .ref x_trial, .ref x_tape, .int 0, .int (-1)])), (x_studio, .inr (8, [.ref s_puppets, .int 0, .ref s_shots, .int 0, .ref s_sounds, .ref s_rates, .ref s_dresses])), (s_shots, .inl (cT 5, 12, .inr (.inr (.inr (.inr (fun _ => none)))))), (m0, .inr (12, fs))]) (hS : va_S A s.heap H locs) {ls : Array Slot} (hl : lv_has ls 7 [(4, .int 0), (3, .ref o9), (2, .ref m0), (1, .ref h0), (0, .ref b)]) : W p l e room_1 s m #[Value.ref b] below meth c H locs 215 539454 (lw_Z below #[Value.ref b] s) (F0 m 2173 ls []) := by
  obtain ⟨hx, hb, hr, hml, hown, hts0, hX, hbl, hlocks, hgv⟩ := id C0
  have hts := hts0
  have hbA : ¬ A b := fun h => absurd (hAl b h) (Nat.not_le.mpr hbl)
  have hown : s.vm.findClass RL = some m.cls := hown
  have hb : c.code = cL_law := hb
  refine lv_aload_n hx hb dL_law_2173 rfl (lv_at hl 3 rfl) ?_
  refine lv_aload_n hx hb dL_law_2174 rfl (lv_at hl 4 rfl) ?_
  refine lv_iload hx hb dL_law_2175 (lv_at hl 0 rfl) ?_
  refine lv_iconst (v := 1) hx hb dL_law_2177 (by decide) ?_
  refine lv_iadd hx hb dL_law_2178 ?_
  refine lv_topi (fun z_1 ez_1 => ?_)
  obtain rfl : z_1 = 1 := ez_1.trans (by decide)
  refine va_sld hx hb hX hbl hbA hS (by unfold vp_in; decide) dL_law_2179 ?_
  refine lv_aload_n hx hb dL_law_2180 rfl (lv_at hl 4 rfl) ?_
  refine lv_iload hx hb dL_law_2181 (lv_at hl 0 rfl) ?_
  refine lv_iconst (v := 2) hx hb dL_law_2183 (by decide) ?_
  refine lv_iadd hx hb dL_law_2184 ?_
  refine lv_topi (fun z_2 ez_2 => ?_)
  obtain rfl : z_2 = 2 := ez_2.trans (by decide)
  refine va_sld hx hb hX hbl hbA hS (by unfold vp_in; decide) dL_law_2185 ?_
  refine lv_aload_n hx hb dL_law_2186 rfl (lv_at hl 4 rfl) ?_
  refine lv_iload hx hb dL_law_2187 (lv_at hl 0 rfl) ?_
  refine lv_iconst (v := 3) hx hb dL_law_2189 (by decide) ?_
  refine lv_iadd hx hb dL_law_2190 ?_
  refine lv_topi (fun z_3 ez_3 => ?_)
  obtain rfl : z_3 = 3 := ez_3.trans (by decide)
  refine va_sld hx hb hX hbl hbA hS (by unfold vp_in; decide) dL_law_2191 ?_
  refine lv_aload_n hx hb dL_law_2192 rfl (lv_at hl 1 rfl) ?_
  have hF := va_free (wc := [(h0, .inr (11, [.ref x_studio, .ref x_script, .ref x_teller, .ref x_planner, .ref x_plan, .ref x_drifts, .ref x_floor, .ref x_trial, .ref x_tape, .int 0, .int (-1)])), (x_studio, .inr (8, [.ref s_puppets, .int 0, .ref s_shots, .int 0, .ref s_sounds, .ref s_rates, .ref s_dresses])), (s_shots, .inl (cT 5, 12, .inr (.inr (.inr (.inr (fun _ => none))))))]) hD hS hA [0, 1, 2] rfl
  refine va_calli (vx_runSW (As := [.ref h0, .int (xs (Int32.toNatClampNeg 1)), .int (xs (Int32.toNatClampNeg 2)), .int (xs (Int32.toNatClampNeg 3)), .ref o9]) (rest := []) ⟨hx, hb, hml, hown, hts⟩ (c_L_measure l hst D cT h0 (xs (Int32.toNatClampNeg 1)) (xs (Int32.toNatClampNeg 2)) (xs (Int32.toNatClampNeg 3)) o9 x_studio x_script x_teller x_planner x_plan x_drifts x_floor x_trial x_tape s_puppets s_shots s_sounds s_rates s_dresses _ ) (vx_cwSW 5 hts zgL_law_L_measure_243 rfl rfl rfl (by decide +kernel) ⟨Nat.le_of_ble_eq_true rfl, Nat.le_of_ble_eq_true rfl⟩) (ps_z hP hD hK hG hZ hS hF [0, 1, 2] rfl rfl rfl) rfl rfl hl.1 rfl (lv_room (Nat.le_of_ble_eq_true rfl)) dL_law_2193 ⟨Nat.le_of_ble_eq_true rfl, Nat.le_of_ble_eq_true rfl⟩) hS (fun q _ h => hF q h) hF (fun r_4 uu9 tt9 H locs ht hvm wr_4 hB hz1 hk1 hS => ?_)
  obtain ⟨hP, hD⟩ := va_join (wr := [(m0, .inr (12, fs))]) (w1 := []) hP hD [0, 1, 2] [3] rfl rfl (by decide) (by decide) hk1 hF vp_nil vd_nil
  have hP : va_P D vwCl [(m0, .inr (12, fs))] _ := hP
  have hD : va_D A [(m0, .inr (12, fs))] := hD
  refine W.widen (k := 216) (n := 539460) (Nat.le_of_ble_eq_true rfl) (Nat.le_of_ble_eq_true rfl) ?_
  obtain rfl : r_4 = 1 := wr_4.trans (rfl)
  refine lv_istore (lv' := [(5, .int 1), (4, .int 0), (3, .ref o9), (2, .ref m0), (1, .ref h0), (0, .ref b)]) hx hb dL_law_2196 hl (by decide) rfl (fun ls hl => ?_)
  refine lv_aload_n hx hb dL_law_2198 rfl (lv_at hl 3 rfl) ?_
  refine lv_aload_n hx hb dL_law_2199 rfl (lv_at hl 5 rfl) ?_
  refine lv_iload hx hb dL_law_2200 (lv_at hl 1 rfl) ?_
  refine lv_iconst (v := 1) hx hb dL_law_2202 (by decide) ?_
  refine lv_iadd hx hb dL_law_2203 ?_
  refine lv_topi (fun z_5 ez_5 => ?_)
  obtain rfl : z_5 = 1 := ez_5.trans (by decide)
  refine va_sld hx hb hX hbl hbA hS (by unfold vp_in; decide) dL_law_2204 ?_
  refine lv_aload_n hx hb dL_law_2205 rfl (lv_at hl 5 rfl) ?_
  refine lv_iload hx hb dL_law_2206 (lv_at hl 1 rfl) ?_
  refine lv_iconst (v := 2) hx hb dL_law_2208 (by decide) ?_
  refine lv_iadd hx hb dL_law_2209 ?_
  refine lv_topi (fun z_6 ez_6 => ?_)
  obtain rfl : z_6 = 2 := ez_6.trans (by decide)
  refine va_sld hx hb hX hbl hbA hS (by unfold vp_in; decide) dL_law_2210 ?_
  refine lv_aload_n hx hb dL_law_2211 rfl (lv_at hl 5 rfl) ?_
  refine lv_iload hx hb dL_law_2212 (lv_at hl 1 rfl) ?_
  refine lv_iconst (v := 3) hx hb dL_law_2214 (by decide) ?_
  refine lv_iadd hx hb dL_law_2215 ?_
  refine lv_topi (fun z_7 ez_7 => ?_)
  obtain rfl : z_7 = 3 := ez_7.trans (by decide)
  refine va_sld hx hb hX hbl hbA hS (by unfold vp_in; decide) dL_law_2216 ?_
  have hF := va_free (wc := [(m0, .inr (12, fs))]) hD hS hA [0] rfl
  refine va_calli (va_runV (As := [.int (xs (Int32.toNatClampNeg 1)), .int (xs (Int32.toNatClampNeg 2)), .int (xs (Int32.toNatClampNeg 3))]) (rest := []) ⟨hx, hb, hml, hown, hts⟩ (c_X12_measure l D cT m0 (xs (Int32.toNatClampNeg 1)) (xs (Int32.toNatClampNeg 2)) (xs (Int32.toNatClampNeg 3)) fs 0 _ (hfs) (hfs_0) (hfs_1) (hfs_38)) (cwV 3 hts zgL_law_X12_measure_245 rfl rfl rfl (by decide +kernel) ⟨Nat.le_of_ble_eq_true rfl, Nat.le_of_ble_eq_true rfl⟩) (pv_w hP hD hK hG [0] rfl rfl rfl 0 rfl rfl) rfl rfl hl.1 rfl (lv_room (Nat.le_of_ble_eq_true rfl)) dL_law_2217 ⟨Nat.le_of_ble_eq_true rfl, Nat.le_of_ble_eq_true rfl⟩) hS (fun q _ h => hF q h) hF (fun r_8 uu9 tt9 H locs ht hvm wr_8 hB hz1 hk1 hS => ?_)
  obtain ⟨gs_9, hgs_9, hgs_9_0, hP1, hD1⟩ := hB
  rw [ht] at hP1
  obtain ⟨hP, hD⟩ := va_join (wr := []) (w1 := [(m0, .inr (12, gs_9))]) hP hD [0] [] rfl rfl (by decide) (by decide) hk1 hF hP1 hD1
  have hP : va_P D vwCl [(m0, .inr (12, gs_9))] _ := hP
  have hD : va_D A [(m0, .inr (12, gs_9))] := hD
  refine lv_istore (lv' := [(6, .int r_8), (5, .int 1), (4, .int 0), (3, .ref o9), (2, .ref m0), (1, .ref h0), (0, .ref b)]) hx hb dL_law_2220 hl (by decide) rfl (fun ls hl => ?_)
  refine lv_aload_n hx hb dL_law_2222 rfl (lv_at hl 4 rfl) ?_
  have hF := va_free (wc := [(m0, .inr (12, gs_9))]) hD hS hA [0] rfl
  refine va_calli (va_runV (As := []) (rest := []) ⟨hx, hb, hml, hown, hts⟩ (c_X12_thrown l D cT m0 gs_9 1 _ (hgs_9) (hgs_9_0)) (cwV 0 hts zgL_law_X12_thrown_149 rfl rfl rfl (by decide +kernel) ⟨Nat.le_of_ble_eq_true rfl, Nat.le_of_ble_eq_true rfl⟩) (pv_w hP hD hK hG [0] rfl rfl rfl 0 rfl rfl) rfl rfl hl.1 rfl (lv_room (Nat.le_of_ble_eq_true rfl)) dL_law_2223 ⟨Nat.le_of_ble_eq_true rfl, Nat.le_of_ble_eq_true rfl⟩) hS (fun q _ h => hF q h) hF (fun r_12 uu9 tt9 H locs ht hvm wr_12 hB hz1 hk1 hS => ?_)
  obtain ⟨hP1, hD1⟩ := hB
  rw [ht] at hP1
  obtain ⟨hP, hD⟩ := va_join (wr := []) (w1 := [(m0, .inr (12, gs_9))]) hP hD [0] [] rfl rfl (by decide) (by decide) hk1 hF hP1 hD1
  have hP : va_P D vwCl [(m0, .inr (12, gs_9))] _ := hP
  have hD : va_D A [(m0, .inr (12, gs_9))] := hD
  obtain rfl : r_12 = 1 := wr_12.trans (rfl)
  refine lv_iload hx hb dL_law_2226 (lv_at hl 1 rfl) ?_
  refine lv_icmp_eq (tgt := 2233) hx hb dL_law_2228 (by decide) (fun _ => ?_) (fun c9 => absurd c9 (by decide))
  refine lv_iload hx hb dL_law_2233 (lv_at hl 1 rfl) ?_
  refine lv_if_ne (tgt := 2250) hx hb dL_law_2235 (by decide) (fun _ => ?_) (fun c9 => absurd c9 (by decide))
  refine lv_goto (tgt := 3043) hx hb dL_law_2250 (by decide) ?_
  exact law_end C0 hA hAl hS (lv_sub hl [2, 6] rfl) (Nat.le_of_ble_eq_true rfl) (Nat.le_of_ble_eq_true rfl)
theorem dL_law_2253 : decode cL_law 2253 = .ok (.aload_n 1, 1) := by decide +kernel
theorem dL_law_2254 : decode cL_law 2254 = .ok (.aload_n 0, 1) := by decide +kernel
theorem dL_law_2255 : decode cL_law 2255 = .ok (.iload 4, 2) := by decide +kernel
theorem dL_law_2257 : decode cL_law 2257 = .ok (.iconst 1, 1) := by decide +kernel
theorem dL_law_2258 : decode cL_law 2258 = .ok (.iadd, 1) := by decide +kernel
theorem dL_law_2259 : decode cL_law 2259 = .ok (.iaload, 1) := by decide +kernel
theorem dL_law_2260 : decode cL_law 2260 = .ok (.aload_n 0, 1) := by decide +kernel
theorem dL_law_2261 : decode cL_law 2261 = .ok (.iload 4, 2) := by decide +kernel
theorem dL_law_2263 : decode cL_law 2263 = .ok (.iconst 2, 1) := by decide +kernel
theorem dL_law_2264 : decode cL_law 2264 = .ok (.iadd, 1) := by decide +kernel
theorem dL_law_2265 : decode cL_law 2265 = .ok (.iaload, 1) := by decide +kernel
theorem dL_law_2266 : decode cL_law 2266 = .ok (.aload_n 0, 1) := by decide +kernel
theorem dL_law_2267 : decode cL_law 2267 = .ok (.iload 4, 2) := by decide +kernel
theorem dL_law_2269 : decode cL_law 2269 = .ok (.iconst 3, 1) := by decide +kernel
theorem dL_law_2270 : decode cL_law 2270 = .ok (.iadd, 1) := by decide +kernel
theorem dL_law_2271 : decode cL_law 2271 = .ok (.iaload, 1) := by decide +kernel
theorem dL_law_2272 : decode cL_law 2272 = .ok (.aload_n 3, 1) := by decide +kernel
theorem dL_law_2273 : decode cL_law 2273 = .ok (.invokestatic 246, 3) := by decide +kernel
theorem dL_law_2276 : decode cL_law 2276 = .ok (.istore 5, 2) := by decide +kernel
theorem dL_law_2278 : decode cL_law 2278 = .ok (.aload_n 2, 1) := by decide +kernel
theorem dL_law_2279 : decode cL_law 2279 = .ok (.aload_n 0, 1) := by decide +kernel
theorem dL_law_2280 : decode cL_law 2280 = .ok (.iload 4, 2) := by decide +kernel
theorem dL_law_2282 : decode cL_law 2282 = .ok (.iconst 1, 1) := by decide +kernel
theorem dL_law_2283 : decode cL_law 2283 = .ok (.iadd, 1) := by decide +kernel
theorem dL_law_2284 : decode cL_law 2284 = .ok (.iaload, 1) := by decide +kernel
theorem dL_law_2285 : decode cL_law 2285 = .ok (.aload_n 0, 1) := by decide +kernel
theorem dL_law_2286 : decode cL_law 2286 = .ok (.iload 4, 2) := by decide +kernel
theorem dL_law_2288 : decode cL_law 2288 = .ok (.iconst 2, 1) := by decide +kernel
theorem dL_law_2289 : decode cL_law 2289 = .ok (.iadd, 1) := by decide +kernel
theorem dL_law_2290 : decode cL_law 2290 = .ok (.iaload, 1) := by decide +kernel
theorem dL_law_2291 : decode cL_law 2291 = .ok (.aload_n 0, 1) := by decide +kernel
theorem dL_law_2292 : decode cL_law 2292 = .ok (.iload 4, 2) := by decide +kernel
theorem dL_law_2294 : decode cL_law 2294 = .ok (.iconst 3, 1) := by decide +kernel
theorem dL_law_2295 : decode cL_law 2295 = .ok (.iadd, 1) := by decide +kernel
theorem dL_law_2296 : decode cL_law 2296 = .ok (.iaload, 1) := by decide +kernel
theorem dL_law_2297 : decode cL_law 2297 = .ok (.invokevirtual 248, 3) := by decide +kernel
theorem dL_law_2300 : decode cL_law 2300 = .ok (.istore 6, 2) := by decide +kernel
theorem dL_law_2302 : decode cL_law 2302 = .ok (.aload_n 2, 1) := by decide +kernel
theorem dL_law_2303 : decode cL_law 2303 = .ok (.invokevirtual 149, 3) := by decide +kernel
theorem dL_law_2306 : decode cL_law 2306 = .ok (.iload 5, 2) := by decide +kernel
theorem dL_law_2308 : decode cL_law 2308 = .ok (.if_icmp .eq 5, 3) := by decide +kernel
theorem dL_law_2313 : decode cL_law 2313 = .ok (.iload 5, 2) := by decide +kernel
theorem dL_law_2315 : decode cL_law 2315 = .ok (.ifCond .ne 15, 3) := by decide +kernel
theorem dL_law_2330 : decode cL_law 2330 = .ok (.goto 713, 3) := by decide +kernel
set_option maxRecDepth 100000 in
theorem zgL_law_L_mended_246_w : GoodIn lw_tbl zsL_mended := goodIn_app (goodIn_sub (ws := [.codeWith yL_mended cL_mended 6 (some .int) [(0, 12, 15, 37), (0, 12, 19, 13)]]) (fun _ h9 => List.mem_singleton.mp h9 ▸ List.mem_of_getElem? (i := 1737) rfl) (by decide +kernel)) (goodIn_app (goodIn_app (goodIn_app (goodIn_sub (ws := [.methodLink RL 100 yX11_mended, .instanceMethod yX11_mended, .selects RX11 yX11_mended yX11_mended, .initialized RX11, .code yX11_mended cX11_mended 5 (some .int), .classLink RL 37 "java/util/NoSuchElementException", .classLink RL 13 "java/lang/IndexOutOfBoundsException", .methodLink RX11 166 yX11_needShot, .instanceMethod yX11_needShot, .selects RX11 yX11_needShot yX11_needShot, .code yX11_needShot cX11_needShot 3 (some (.object "PuppetFilm$Shot")), .classLink RX11 408 "java/util/NoSuchElementException", .initialized "java/util/NoSuchElementException", .fieldLink RX11 10 "PuppetFilm" "studio" "LPuppetFilm$Studio;", .methodLink RX11 271 yX8_shotAt, .instanceMethod yX8_shotAt, .selects RX8 yX8_shotAt yX8_shotAt, .initialized RX8, .code yX8_shotAt cX8_shotAt 2 (some (.object "PuppetFilm$Shot")), .fieldLink RX8 19 "PuppetFilm$Studio" "shots" "[LPuppetFilm$Shot;"]) (mem_ps [1738, 1739, 1740, 118, 1741, 1357, 848, 1362, 1364, 45, 1365, 1367, 145, 554, 1366, 669, 670, 119, 671, 171] (by decide +kernel)) (by decide +kernel)) zgC_X11) zgC_X8) zgZ)
set_option maxRecDepth 100000 in
theorem zgL_law_L_mended_246 : GoodIn lw_tbl (va_wsS RL 246 yL_mended zsL_mended) := goodIn_app (goodIn_sub (mem_ps [1735, 1736, 117] (by decide +kernel)) (by decide +kernel)) zgL_law_L_mended_246_w
set_option maxRecDepth 100000 in
theorem zgL_law_wsX12_mended_r1 : GoodIn lw_tbl wsX12_mended_r1 := goodIn_sub (mem_ps [1882, 2376, 2378, 86, 129, 2379, 1920, 2222, 2223, 2224, 2225, 2227, 63, 2228, 2388, 2390, 88, 2391, 1926, 2542, 2544, 103, 2545, 1969] rfl) (by decide +kernel)
set_option maxRecDepth 100000 in
theorem zgL_law_wsX12_mended_r2 : GoodIn lw_tbl wsX12_mended_r2 := goodIn_sub (mem_ps [2546, 2548, 104, 2549, 1965, 1966, 1967, 1968] rfl) (by decide +kernel)
set_option maxRecDepth 100000 in
theorem zgL_law_X12_mended_248_w : GoodIn lw_tbl wsX12_mended := goodIn_app (goodIn_sub (ws := [.code yX12_mended cX12_mended 4 (some .int)]) (fun _ h9 => List.mem_singleton.mp h9 ▸ List.mem_of_getElem? (i := 2541) rfl) (by decide +kernel)) (goodIn_app (goodIn_app zgL_law_wsX12_mended_r1 zgL_law_wsX12_mended_r2) zgC_X12)
set_option maxRecDepth 100000 in
theorem zgL_law_X12_mended_248 : GoodIn lw_tbl (wsV RL 248 RX12 yX12_mended wsX12_mended) := goodIn_app (goodIn_sub (mem_ps [2538, 2539, 2540, 129] (by decide +kernel)) (by decide +kernel)) zgL_law_X12_mended_248_w
set_option maxHeartbeats 8000000 in
set_option maxRecDepth 100000 in
/-- the law: mended -/
theorem law_case_30 {p : Program} {l : Launch} {e : Env} {s : State} {m : MethodId} {below : List Frame} {meth : Method} {c : Code} {D : va_G} {cT : Nat → ClassId} {b : Nat} {xs : Nat → Int32} {A : Nat → Prop} (hst : l.stackTraces = false) (C0 : lw_At p s m meth c b 7 xs) (hA : ∀ q : Nat, s.heap.size ≤ q → A q) (hAl : ∀ q, A q → s.heap.size ≤ q) (hK : va_K D vwCl (TY cT) s) (hG : GW s) (hZ : GZ A s s.heap) {h0 : Nat} {m0 : Nat} {o9 : Nat} {x_studio : Nat} {x_script : Nat} {x_teller : Nat} {x_planner : Nat} {x_plan : Nat} {x_drifts : Nat} {x_floor : Nat} {x_trial : Nat} {x_tape : Nat} {s_puppets : Nat} {s_shots : Nat} {s_sounds : Nat} {s_rates : Nat} {s_dresses : Nat} {fs : List Value} (hfs : fs.length = 109) (hfs_0 : fs[0]? = some (.int 0)) (hfs_1 : fs[1]? = some (.int 0)) (hfs_38 : fs[38]? = some (.int 0)) {H : Heap} {locs : List Loc} (hP : va_P D vwCl [(h0, .inr (11, [.ref x_studio, .ref x_script, .ref x_teller, .ref x_planner, .ref x_plan, .ref x_drifts, .ref x_floor, .ref x_trial, .ref x_tape, .int 0, .int (-1)])), (x_studio, .inr (8, [.ref s_puppets, .int 0, .ref s_shots, .int 0, .ref s_sounds, .ref s_rates, .ref s_dresses])), (s_shots, .inl (cT 5, 12, .inr (.inr (.inr (.inr (fun _ => none)))))), (m0, .inr (12, fs))] H) (hD : va_D A [(h0, .inr (11, [.ref x_studio, .ref x_script, .ref x_teller, .ref x_planner, .ref x_plan, .ref x_drifts, .ref x_floor, .ref x_trial, .ref x_tape, .int 0, .int (-1)])), (x_studio, .inr (8, [.ref s_puppets, .int 0, .ref s_shots, .int 0, .ref s_sounds, .ref s_rates, .ref s_dresses])), (s_shots, .inl (cT 5, 12, .inr (.inr (.inr (.inr (fun _ => none)))))), (m0, .inr (12, fs))]) (hS : va_S A s.heap H locs) {ls : Array Slot} (hl : lv_has ls 7 [(4, .int 0), (3, .ref o9), (2, .ref m0), (1, .ref h0), (0, .ref b)]) : W p l e room_1 s m #[Value.ref b] below meth c H locs 215 539454 (lw_Z below #[Value.ref b] s) (F0 m 2253 ls []) := by
  obtain ⟨hx, hb, hr, hml, hown, hts0, hX, hbl, hlocks, hgv⟩ := id C0
  have hts := hts0
  have hbA : ¬ A b := fun h => absurd (hAl b h) (Nat.not_le.mpr hbl)
  have hown : s.vm.findClass RL = some m.cls := hown
  have hb : c.code = cL_law := hb
  refine lv_aload_n hx hb dL_law_2253 rfl (lv_at hl 3 rfl) ?_
  refine lv_aload_n hx hb dL_law_2254 rfl (lv_at hl 4 rfl) ?_
  refine lv_iload hx hb dL_law_2255 (lv_at hl 0 rfl) ?_
  refine lv_iconst (v := 1) hx hb dL_law_2257 (by decide) ?_
  refine lv_iadd hx hb dL_law_2258 ?_
  refine lv_topi (fun z_1 ez_1 => ?_)
  obtain rfl : z_1 = 1 := ez_1.trans (by decide)
  refine va_sld hx hb hX hbl hbA hS (by unfold vp_in; decide) dL_law_2259 ?_
  refine lv_aload_n hx hb dL_law_2260 rfl (lv_at hl 4 rfl) ?_
  refine lv_iload hx hb dL_law_2261 (lv_at hl 0 rfl) ?_
  refine lv_iconst (v := 2) hx hb dL_law_2263 (by decide) ?_
  refine lv_iadd hx hb dL_law_2264 ?_
  refine lv_topi (fun z_2 ez_2 => ?_)
  obtain rfl : z_2 = 2 := ez_2.trans (by decide)
  refine va_sld hx hb hX hbl hbA hS (by unfold vp_in; decide) dL_law_2265 ?_
  refine lv_aload_n hx hb dL_law_2266 rfl (lv_at hl 4 rfl) ?_
  refine lv_iload hx hb dL_law_2267 (lv_at hl 0 rfl) ?_
  refine lv_iconst (v := 3) hx hb dL_law_2269 (by decide) ?_
  refine lv_iadd hx hb dL_law_2270 ?_
  refine lv_topi (fun z_3 ez_3 => ?_)
  obtain rfl : z_3 = 3 := ez_3.trans (by decide)
  refine va_sld hx hb hX hbl hbA hS (by unfold vp_in; decide) dL_law_2271 ?_
  refine lv_aload_n hx hb dL_law_2272 rfl (lv_at hl 1 rfl) ?_
  have hF := va_free (wc := [(h0, .inr (11, [.ref x_studio, .ref x_script, .ref x_teller, .ref x_planner, .ref x_plan, .ref x_drifts, .ref x_floor, .ref x_trial, .ref x_tape, .int 0, .int (-1)])), (x_studio, .inr (8, [.ref s_puppets, .int 0, .ref s_shots, .int 0, .ref s_sounds, .ref s_rates, .ref s_dresses])), (s_shots, .inl (cT 5, 12, .inr (.inr (.inr (.inr (fun _ => none))))))]) hD hS hA [0, 1, 2] rfl
  refine va_calli (vx_runSW (As := [.ref h0, .int (xs (Int32.toNatClampNeg 1)), .int (xs (Int32.toNatClampNeg 2)), .int (xs (Int32.toNatClampNeg 3)), .ref o9]) (rest := []) ⟨hx, hb, hml, hown, hts⟩ (c_L_mended l hst D cT h0 (xs (Int32.toNatClampNeg 1)) (xs (Int32.toNatClampNeg 2)) (xs (Int32.toNatClampNeg 3)) o9 x_studio x_script x_teller x_planner x_plan x_drifts x_floor x_trial x_tape s_puppets s_shots s_sounds s_rates s_dresses _ ) (vx_cwSW 5 hts zgL_law_L_mended_246 rfl rfl rfl (by decide +kernel) ⟨Nat.le_of_ble_eq_true rfl, Nat.le_of_ble_eq_true rfl⟩) (ps_z hP hD hK hG hZ hS hF [0, 1, 2] rfl rfl rfl) rfl rfl hl.1 rfl (lv_room (Nat.le_of_ble_eq_true rfl)) dL_law_2273 ⟨Nat.le_of_ble_eq_true rfl, Nat.le_of_ble_eq_true rfl⟩) hS (fun q _ h => hF q h) hF (fun r_4 uu9 tt9 H locs ht hvm wr_4 hB hz1 hk1 hS => ?_)
  obtain ⟨hP, hD⟩ := va_join (wr := [(m0, .inr (12, fs))]) (w1 := []) hP hD [0, 1, 2] [3] rfl rfl (by decide) (by decide) hk1 hF vp_nil vd_nil
  have hP : va_P D vwCl [(m0, .inr (12, fs))] _ := hP
  have hD : va_D A [(m0, .inr (12, fs))] := hD
  refine W.widen (k := 216) (n := 539460) (Nat.le_of_ble_eq_true rfl) (Nat.le_of_ble_eq_true rfl) ?_
  obtain rfl : r_4 = 1 := wr_4.trans (rfl)
  refine lv_istore (lv' := [(5, .int 1), (4, .int 0), (3, .ref o9), (2, .ref m0), (1, .ref h0), (0, .ref b)]) hx hb dL_law_2276 hl (by decide) rfl (fun ls hl => ?_)
  refine lv_aload_n hx hb dL_law_2278 rfl (lv_at hl 3 rfl) ?_
  refine lv_aload_n hx hb dL_law_2279 rfl (lv_at hl 5 rfl) ?_
  refine lv_iload hx hb dL_law_2280 (lv_at hl 1 rfl) ?_
  refine lv_iconst (v := 1) hx hb dL_law_2282 (by decide) ?_
  refine lv_iadd hx hb dL_law_2283 ?_
  refine lv_topi (fun z_5 ez_5 => ?_)
  obtain rfl : z_5 = 1 := ez_5.trans (by decide)
  refine va_sld hx hb hX hbl hbA hS (by unfold vp_in; decide) dL_law_2284 ?_
  refine lv_aload_n hx hb dL_law_2285 rfl (lv_at hl 5 rfl) ?_
  refine lv_iload hx hb dL_law_2286 (lv_at hl 1 rfl) ?_
  refine lv_iconst (v := 2) hx hb dL_law_2288 (by decide) ?_
  refine lv_iadd hx hb dL_law_2289 ?_
  refine lv_topi (fun z_6 ez_6 => ?_)
  obtain rfl : z_6 = 2 := ez_6.trans (by decide)
  refine va_sld hx hb hX hbl hbA hS (by unfold vp_in; decide) dL_law_2290 ?_
  refine lv_aload_n hx hb dL_law_2291 rfl (lv_at hl 5 rfl) ?_
  refine lv_iload hx hb dL_law_2292 (lv_at hl 1 rfl) ?_
  refine lv_iconst (v := 3) hx hb dL_law_2294 (by decide) ?_
  refine lv_iadd hx hb dL_law_2295 ?_
  refine lv_topi (fun z_7 ez_7 => ?_)
  obtain rfl : z_7 = 3 := ez_7.trans (by decide)
  refine va_sld hx hb hX hbl hbA hS (by unfold vp_in; decide) dL_law_2296 ?_
  have hF := va_free (wc := [(m0, .inr (12, fs))]) hD hS hA [0] rfl
  refine va_calli (va_runV (As := [.int (xs (Int32.toNatClampNeg 1)), .int (xs (Int32.toNatClampNeg 2)), .int (xs (Int32.toNatClampNeg 3))]) (rest := []) ⟨hx, hb, hml, hown, hts⟩ (c_X12_mended l D cT m0 (xs (Int32.toNatClampNeg 1)) (xs (Int32.toNatClampNeg 2)) (xs (Int32.toNatClampNeg 3)) fs 0 _ (hfs) (hfs_0) (hfs_1) (hfs_38)) (cwV 3 hts zgL_law_X12_mended_248 rfl rfl rfl (by decide +kernel) ⟨Nat.le_of_ble_eq_true rfl, Nat.le_of_ble_eq_true rfl⟩) (pv_w hP hD hK hG [0] rfl rfl rfl 0 rfl rfl) rfl rfl hl.1 rfl (lv_room (Nat.le_of_ble_eq_true rfl)) dL_law_2297 ⟨Nat.le_of_ble_eq_true rfl, Nat.le_of_ble_eq_true rfl⟩) hS (fun q _ h => hF q h) hF (fun r_8 uu9 tt9 H locs ht hvm wr_8 hB hz1 hk1 hS => ?_)
  obtain ⟨gs_9, hgs_9, hgs_9_0, hP1, hD1⟩ := hB
  rw [ht] at hP1
  obtain ⟨hP, hD⟩ := va_join (wr := []) (w1 := [(m0, .inr (12, gs_9))]) hP hD [0] [] rfl rfl (by decide) (by decide) hk1 hF hP1 hD1
  have hP : va_P D vwCl [(m0, .inr (12, gs_9))] _ := hP
  have hD : va_D A [(m0, .inr (12, gs_9))] := hD
  refine lv_istore (lv' := [(6, .int r_8), (5, .int 1), (4, .int 0), (3, .ref o9), (2, .ref m0), (1, .ref h0), (0, .ref b)]) hx hb dL_law_2300 hl (by decide) rfl (fun ls hl => ?_)
  refine lv_aload_n hx hb dL_law_2302 rfl (lv_at hl 4 rfl) ?_
  have hF := va_free (wc := [(m0, .inr (12, gs_9))]) hD hS hA [0] rfl
  refine va_calli (va_runV (As := []) (rest := []) ⟨hx, hb, hml, hown, hts⟩ (c_X12_thrown l D cT m0 gs_9 1 _ (hgs_9) (hgs_9_0)) (cwV 0 hts zgL_law_X12_thrown_149 rfl rfl rfl (by decide +kernel) ⟨Nat.le_of_ble_eq_true rfl, Nat.le_of_ble_eq_true rfl⟩) (pv_w hP hD hK hG [0] rfl rfl rfl 0 rfl rfl) rfl rfl hl.1 rfl (lv_room (Nat.le_of_ble_eq_true rfl)) dL_law_2303 ⟨Nat.le_of_ble_eq_true rfl, Nat.le_of_ble_eq_true rfl⟩) hS (fun q _ h => hF q h) hF (fun r_12 uu9 tt9 H locs ht hvm wr_12 hB hz1 hk1 hS => ?_)
  obtain ⟨hP1, hD1⟩ := hB
  rw [ht] at hP1
  obtain ⟨hP, hD⟩ := va_join (wr := []) (w1 := [(m0, .inr (12, gs_9))]) hP hD [0] [] rfl rfl (by decide) (by decide) hk1 hF hP1 hD1
  have hP : va_P D vwCl [(m0, .inr (12, gs_9))] _ := hP
  have hD : va_D A [(m0, .inr (12, gs_9))] := hD
  obtain rfl : r_12 = 1 := wr_12.trans (rfl)
  refine lv_iload hx hb dL_law_2306 (lv_at hl 1 rfl) ?_
  refine lv_icmp_eq (tgt := 2313) hx hb dL_law_2308 (by decide) (fun _ => ?_) (fun c9 => absurd c9 (by decide))
  refine lv_iload hx hb dL_law_2313 (lv_at hl 1 rfl) ?_
  refine lv_if_ne (tgt := 2330) hx hb dL_law_2315 (by decide) (fun _ => ?_) (fun c9 => absurd c9 (by decide))
  refine lv_goto (tgt := 3043) hx hb dL_law_2330 (by decide) ?_
  exact law_end C0 hA hAl hS (lv_sub hl [2, 6] rfl) (Nat.le_of_ble_eq_true rfl) (Nat.le_of_ble_eq_true rfl)
theorem dL_law_2333 : decode cL_law 2333 = .ok (.aload_n 1, 1) := by decide +kernel
theorem dL_law_2334 : decode cL_law 2334 = .ok (.aload_n 0, 1) := by decide +kernel
theorem dL_law_2335 : decode cL_law 2335 = .ok (.iload 4, 2) := by decide +kernel
theorem dL_law_2337 : decode cL_law 2337 = .ok (.iconst 1, 1) := by decide +kernel
theorem dL_law_2338 : decode cL_law 2338 = .ok (.iadd, 1) := by decide +kernel
theorem dL_law_2339 : decode cL_law 2339 = .ok (.iaload, 1) := by decide +kernel
theorem dL_law_2340 : decode cL_law 2340 = .ok (.aload_n 0, 1) := by decide +kernel
theorem dL_law_2341 : decode cL_law 2341 = .ok (.iload 4, 2) := by decide +kernel
theorem dL_law_2343 : decode cL_law 2343 = .ok (.iconst 2, 1) := by decide +kernel
theorem dL_law_2344 : decode cL_law 2344 = .ok (.iadd, 1) := by decide +kernel
theorem dL_law_2345 : decode cL_law 2345 = .ok (.iaload, 1) := by decide +kernel
theorem dL_law_2346 : decode cL_law 2346 = .ok (.aload_n 3, 1) := by decide +kernel
theorem dL_law_2347 : decode cL_law 2347 = .ok (.invokestatic 249, 3) := by decide +kernel
theorem dL_law_2350 : decode cL_law 2350 = .ok (.istore 5, 2) := by decide +kernel
theorem dL_law_2352 : decode cL_law 2352 = .ok (.aload_n 2, 1) := by decide +kernel
theorem dL_law_2353 : decode cL_law 2353 = .ok (.aload_n 0, 1) := by decide +kernel
theorem dL_law_2354 : decode cL_law 2354 = .ok (.iload 4, 2) := by decide +kernel
theorem dL_law_2356 : decode cL_law 2356 = .ok (.iconst 1, 1) := by decide +kernel
theorem dL_law_2357 : decode cL_law 2357 = .ok (.iadd, 1) := by decide +kernel
theorem dL_law_2358 : decode cL_law 2358 = .ok (.iaload, 1) := by decide +kernel
theorem dL_law_2359 : decode cL_law 2359 = .ok (.aload_n 0, 1) := by decide +kernel
theorem dL_law_2360 : decode cL_law 2360 = .ok (.iload 4, 2) := by decide +kernel
theorem dL_law_2362 : decode cL_law 2362 = .ok (.iconst 2, 1) := by decide +kernel
theorem dL_law_2363 : decode cL_law 2363 = .ok (.iadd, 1) := by decide +kernel
theorem dL_law_2364 : decode cL_law 2364 = .ok (.iaload, 1) := by decide +kernel
theorem dL_law_2365 : decode cL_law 2365 = .ok (.invokevirtual 251, 3) := by decide +kernel
theorem dL_law_2368 : decode cL_law 2368 = .ok (.istore 6, 2) := by decide +kernel
theorem dL_law_2370 : decode cL_law 2370 = .ok (.aload_n 2, 1) := by decide +kernel
theorem dL_law_2371 : decode cL_law 2371 = .ok (.invokevirtual 149, 3) := by decide +kernel
theorem dL_law_2374 : decode cL_law 2374 = .ok (.iload 5, 2) := by decide +kernel
theorem dL_law_2376 : decode cL_law 2376 = .ok (.if_icmp .eq 5, 3) := by decide +kernel
theorem dL_law_2381 : decode cL_law 2381 = .ok (.iload 5, 2) := by decide +kernel
theorem dL_law_2383 : decode cL_law 2383 = .ok (.ifCond .ne 15, 3) := by decide +kernel
theorem dL_law_2398 : decode cL_law 2398 = .ok (.goto 645, 3) := by decide +kernel
set_option maxRecDepth 100000 in
theorem zgL_law_L_leap_249_w : GoodIn lw_tbl zsL_leap := goodIn_app (goodIn_sub (ws := [.codeWith yL_leap cL_leap 5 (some .int) [(0, 10, 13, 37)]]) (fun _ h9 => List.mem_singleton.mp h9 ▸ List.mem_of_getElem? (i := 1756) rfl) (by decide +kernel)) (goodIn_app (goodIn_app (goodIn_app (goodIn_sub (ws := [.methodLink RL 103 yX11_leap, .instanceMethod yX11_leap, .selects RX11 yX11_leap yX11_leap, .initialized RX11, .code yX11_leap cX11_leap 8 (some .int), .classLink RL 37 "java/util/NoSuchElementException", .methodLink RX11 166 yX11_needShot, .instanceMethod yX11_needShot, .selects RX11 yX11_needShot yX11_needShot, .code yX11_needShot cX11_needShot 3 (some (.object "PuppetFilm$Shot")), .classLink RX11 408 "java/util/NoSuchElementException", .initialized "java/util/NoSuchElementException", .fieldLink RX11 10 "PuppetFilm" "studio" "LPuppetFilm$Studio;", .methodLink RX11 271 yX8_shotAt, .instanceMethod yX8_shotAt, .selects RX8 yX8_shotAt yX8_shotAt, .initialized RX8, .code yX8_shotAt cX8_shotAt 2 (some (.object "PuppetFilm$Shot")), .fieldLink RX8 19 "PuppetFilm$Studio" "shots" "[LPuppetFilm$Shot;"]) (mem_ps [1757, 1758, 1759, 118, 1760, 1357, 1362, 1364, 45, 1365, 1367, 145, 554, 1366, 669, 670, 119, 671, 171] (by decide +kernel)) (by decide +kernel)) zgC_X11) zgC_X8) zgZ)
set_option maxRecDepth 100000 in
theorem zgL_law_L_leap_249 : GoodIn lw_tbl (va_wsS RL 249 yL_leap zsL_leap) := goodIn_app (goodIn_sub (mem_ps [1754, 1755, 117] (by decide +kernel)) (by decide +kernel)) zgL_law_L_leap_249_w
set_option maxRecDepth 100000 in
theorem zgL_law_wsX12_leap_r1 : GoodIn lw_tbl wsX12_leap_r1 := goodIn_sub (mem_ps [1882, 1930, 2376, 2378, 86, 129, 2379, 1920, 2222, 2223, 2224, 2225, 2227, 63, 2228, 2542, 2544, 103, 2545, 1926, 1969, 2546, 2548, 104] rfl) (by decide +kernel)
set_option maxRecDepth 100000 in
theorem zgL_law_wsX12_leap_r2 : GoodIn lw_tbl wsX12_leap_r2 := goodIn_sub (mem_ps [2549, 1965, 1966, 1967, 1968] rfl) (by decide +kernel)
set_option maxRecDepth 100000 in
theorem zgL_law_X12_leap_251_w : GoodIn lw_tbl wsX12_leap := goodIn_app (goodIn_sub (ws := [.code yX12_leap cX12_leap 6 (some .int)]) (fun _ h9 => List.mem_singleton.mp h9 ▸ List.mem_of_getElem? (i := 2553) rfl) (by decide +kernel)) (goodIn_app (goodIn_app zgL_law_wsX12_leap_r1 zgL_law_wsX12_leap_r2) zgC_X12)
set_option maxRecDepth 100000 in
theorem zgL_law_X12_leap_251 : GoodIn lw_tbl (wsV RL 251 RX12 yX12_leap wsX12_leap) := goodIn_app (goodIn_sub (mem_ps [2550, 2551, 2552, 129] (by decide +kernel)) (by decide +kernel)) zgL_law_X12_leap_251_w
set_option maxHeartbeats 8000000 in
set_option maxRecDepth 100000 in
/-- the law: leap -/
theorem law_case_31 {p : Program} {l : Launch} {e : Env} {s : State} {m : MethodId} {below : List Frame} {meth : Method} {c : Code} {D : va_G} {cT : Nat → ClassId} {b : Nat} {xs : Nat → Int32} {A : Nat → Prop} (hst : l.stackTraces = false) (C0 : lw_At p s m meth c b 7 xs) (hA : ∀ q : Nat, s.heap.size ≤ q → A q) (hAl : ∀ q, A q → s.heap.size ≤ q) (hK : va_K D vwCl (TY cT) s) (hG : GW s) (hZ : GZ A s s.heap) {h0 : Nat} {m0 : Nat} {o9 : Nat} {x_studio : Nat} {x_script : Nat} {x_teller : Nat} {x_planner : Nat} {x_plan : Nat} {x_drifts : Nat} {x_floor : Nat} {x_trial : Nat} {x_tape : Nat} {s_puppets : Nat} {s_shots : Nat} {s_sounds : Nat} {s_rates : Nat} {s_dresses : Nat} {fs : List Value} (hfs : fs.length = 109) (hfs_0 : fs[0]? = some (.int 0)) (hfs_1 : fs[1]? = some (.int 0)) (hfs_38 : fs[38]? = some (.int 0)) {H : Heap} {locs : List Loc} (hP : va_P D vwCl [(h0, .inr (11, [.ref x_studio, .ref x_script, .ref x_teller, .ref x_planner, .ref x_plan, .ref x_drifts, .ref x_floor, .ref x_trial, .ref x_tape, .int 0, .int (-1)])), (x_studio, .inr (8, [.ref s_puppets, .int 0, .ref s_shots, .int 0, .ref s_sounds, .ref s_rates, .ref s_dresses])), (s_shots, .inl (cT 5, 12, .inr (.inr (.inr (.inr (fun _ => none)))))), (m0, .inr (12, fs))] H) (hD : va_D A [(h0, .inr (11, [.ref x_studio, .ref x_script, .ref x_teller, .ref x_planner, .ref x_plan, .ref x_drifts, .ref x_floor, .ref x_trial, .ref x_tape, .int 0, .int (-1)])), (x_studio, .inr (8, [.ref s_puppets, .int 0, .ref s_shots, .int 0, .ref s_sounds, .ref s_rates, .ref s_dresses])), (s_shots, .inl (cT 5, 12, .inr (.inr (.inr (.inr (fun _ => none)))))), (m0, .inr (12, fs))]) (hS : va_S A s.heap H locs) {ls : Array Slot} (hl : lv_has ls 7 [(4, .int 0), (3, .ref o9), (2, .ref m0), (1, .ref h0), (0, .ref b)]) : W p l e room_1 s m #[Value.ref b] below meth c H locs 215 539454 (lw_Z below #[Value.ref b] s) (F0 m 2333 ls []) := by
  obtain ⟨hx, hb, hr, hml, hown, hts0, hX, hbl, hlocks, hgv⟩ := id C0
  have hts := hts0
  have hbA : ¬ A b := fun h => absurd (hAl b h) (Nat.not_le.mpr hbl)
  have hown : s.vm.findClass RL = some m.cls := hown
  have hb : c.code = cL_law := hb
  refine lv_aload_n hx hb dL_law_2333 rfl (lv_at hl 3 rfl) ?_
  refine lv_aload_n hx hb dL_law_2334 rfl (lv_at hl 4 rfl) ?_
  refine lv_iload hx hb dL_law_2335 (lv_at hl 0 rfl) ?_
  refine lv_iconst (v := 1) hx hb dL_law_2337 (by decide) ?_
  refine lv_iadd hx hb dL_law_2338 ?_
  refine lv_topi (fun z_1 ez_1 => ?_)
  obtain rfl : z_1 = 1 := ez_1.trans (by decide)
  refine va_sld hx hb hX hbl hbA hS (by unfold vp_in; decide) dL_law_2339 ?_
  refine lv_aload_n hx hb dL_law_2340 rfl (lv_at hl 4 rfl) ?_
  refine lv_iload hx hb dL_law_2341 (lv_at hl 0 rfl) ?_
  refine lv_iconst (v := 2) hx hb dL_law_2343 (by decide) ?_
  refine lv_iadd hx hb dL_law_2344 ?_
  refine lv_topi (fun z_2 ez_2 => ?_)
  obtain rfl : z_2 = 2 := ez_2.trans (by decide)
  refine va_sld hx hb hX hbl hbA hS (by unfold vp_in; decide) dL_law_2345 ?_
  refine lv_aload_n hx hb dL_law_2346 rfl (lv_at hl 1 rfl) ?_
  have hF := va_free (wc := [(h0, .inr (11, [.ref x_studio, .ref x_script, .ref x_teller, .ref x_planner, .ref x_plan, .ref x_drifts, .ref x_floor, .ref x_trial, .ref x_tape, .int 0, .int (-1)])), (x_studio, .inr (8, [.ref s_puppets, .int 0, .ref s_shots, .int 0, .ref s_sounds, .ref s_rates, .ref s_dresses])), (s_shots, .inl (cT 5, 12, .inr (.inr (.inr (.inr (fun _ => none))))))]) hD hS hA [0, 1, 2] rfl
  refine va_calli (vx_runSW (As := [.ref h0, .int (xs (Int32.toNatClampNeg 1)), .int (xs (Int32.toNatClampNeg 2)), .ref o9]) (rest := []) ⟨hx, hb, hml, hown, hts⟩ (c_L_leap l hst D cT h0 (xs (Int32.toNatClampNeg 1)) (xs (Int32.toNatClampNeg 2)) o9 x_studio x_script x_teller x_planner x_plan x_drifts x_floor x_trial x_tape s_puppets s_shots s_sounds s_rates s_dresses _ ) (vx_cwSW 4 hts zgL_law_L_leap_249 rfl rfl rfl (by decide +kernel) ⟨Nat.le_of_ble_eq_true rfl, Nat.le_of_ble_eq_true rfl⟩) (ps_z hP hD hK hG hZ hS hF [0, 1, 2] rfl rfl rfl) rfl rfl hl.1 rfl (lv_room (Nat.le_of_ble_eq_true rfl)) dL_law_2347 ⟨Nat.le_of_ble_eq_true rfl, Nat.le_of_ble_eq_true rfl⟩) hS (fun q _ h => hF q h) hF (fun r_3 uu9 tt9 H locs ht hvm wr_3 hB hz1 hk1 hS => ?_)
  obtain ⟨hP, hD⟩ := va_join (wr := [(m0, .inr (12, fs))]) (w1 := []) hP hD [0, 1, 2] [3] rfl rfl (by decide) (by decide) hk1 hF vp_nil vd_nil
  have hP : va_P D vwCl [(m0, .inr (12, fs))] _ := hP
  have hD : va_D A [(m0, .inr (12, fs))] := hD
  refine W.widen (k := 216) (n := 539460) (Nat.le_of_ble_eq_true rfl) (Nat.le_of_ble_eq_true rfl) ?_
  obtain rfl : r_3 = 1 := wr_3.trans (rfl)
  refine lv_istore (lv' := [(5, .int 1), (4, .int 0), (3, .ref o9), (2, .ref m0), (1, .ref h0), (0, .ref b)]) hx hb dL_law_2350 hl (by decide) rfl (fun ls hl => ?_)
  refine lv_aload_n hx hb dL_law_2352 rfl (lv_at hl 3 rfl) ?_
  refine lv_aload_n hx hb dL_law_2353 rfl (lv_at hl 5 rfl) ?_
  refine lv_iload hx hb dL_law_2354 (lv_at hl 1 rfl) ?_
  refine lv_iconst (v := 1) hx hb dL_law_2356 (by decide) ?_
  refine lv_iadd hx hb dL_law_2357 ?_
  refine lv_topi (fun z_4 ez_4 => ?_)
  obtain rfl : z_4 = 1 := ez_4.trans (by decide)
  refine va_sld hx hb hX hbl hbA hS (by unfold vp_in; decide) dL_law_2358 ?_
  refine lv_aload_n hx hb dL_law_2359 rfl (lv_at hl 5 rfl) ?_
  refine lv_iload hx hb dL_law_2360 (lv_at hl 1 rfl) ?_
  refine lv_iconst (v := 2) hx hb dL_law_2362 (by decide) ?_
  refine lv_iadd hx hb dL_law_2363 ?_
  refine lv_topi (fun z_5 ez_5 => ?_)
  obtain rfl : z_5 = 2 := ez_5.trans (by decide)
  refine va_sld hx hb hX hbl hbA hS (by unfold vp_in; decide) dL_law_2364 ?_
  have hF := va_free (wc := [(m0, .inr (12, fs))]) hD hS hA [0] rfl
  refine va_calli (va_runV (As := [.int (xs (Int32.toNatClampNeg 1)), .int (xs (Int32.toNatClampNeg 2))]) (rest := []) ⟨hx, hb, hml, hown, hts⟩ (c_X12_leap l D cT m0 (xs (Int32.toNatClampNeg 1)) (xs (Int32.toNatClampNeg 2)) fs 0 _ (hfs) (hfs_0) (hfs_1) (hfs_38)) (cwV 2 hts zgL_law_X12_leap_251 rfl rfl rfl (by decide +kernel) ⟨Nat.le_of_ble_eq_true rfl, Nat.le_of_ble_eq_true rfl⟩) (pv_w hP hD hK hG [0] rfl rfl rfl 0 rfl rfl) rfl rfl hl.1 rfl (lv_room (Nat.le_of_ble_eq_true rfl)) dL_law_2365 ⟨Nat.le_of_ble_eq_true rfl, Nat.le_of_ble_eq_true rfl⟩) hS (fun q _ h => hF q h) hF (fun r_6 uu9 tt9 H locs ht hvm wr_6 hB hz1 hk1 hS => ?_)
  obtain ⟨gs_7, hgs_7, hgs_7_0, hP1, hD1⟩ := hB
  rw [ht] at hP1
  obtain ⟨hP, hD⟩ := va_join (wr := []) (w1 := [(m0, .inr (12, gs_7))]) hP hD [0] [] rfl rfl (by decide) (by decide) hk1 hF hP1 hD1
  have hP : va_P D vwCl [(m0, .inr (12, gs_7))] _ := hP
  have hD : va_D A [(m0, .inr (12, gs_7))] := hD
  refine lv_istore (lv' := [(6, .int r_6), (5, .int 1), (4, .int 0), (3, .ref o9), (2, .ref m0), (1, .ref h0), (0, .ref b)]) hx hb dL_law_2368 hl (by decide) rfl (fun ls hl => ?_)
  refine lv_aload_n hx hb dL_law_2370 rfl (lv_at hl 4 rfl) ?_
  have hF := va_free (wc := [(m0, .inr (12, gs_7))]) hD hS hA [0] rfl
  refine va_calli (va_runV (As := []) (rest := []) ⟨hx, hb, hml, hown, hts⟩ (c_X12_thrown l D cT m0 gs_7 1 _ (hgs_7) (hgs_7_0)) (cwV 0 hts zgL_law_X12_thrown_149 rfl rfl rfl (by decide +kernel) ⟨Nat.le_of_ble_eq_true rfl, Nat.le_of_ble_eq_true rfl⟩) (pv_w hP hD hK hG [0] rfl rfl rfl 0 rfl rfl) rfl rfl hl.1 rfl (lv_room (Nat.le_of_ble_eq_true rfl)) dL_law_2371 ⟨Nat.le_of_ble_eq_true rfl, Nat.le_of_ble_eq_true rfl⟩) hS (fun q _ h => hF q h) hF (fun r_10 uu9 tt9 H locs ht hvm wr_10 hB hz1 hk1 hS => ?_)
  obtain ⟨hP1, hD1⟩ := hB
  rw [ht] at hP1
  obtain ⟨hP, hD⟩ := va_join (wr := []) (w1 := [(m0, .inr (12, gs_7))]) hP hD [0] [] rfl rfl (by decide) (by decide) hk1 hF hP1 hD1
  have hP : va_P D vwCl [(m0, .inr (12, gs_7))] _ := hP
  have hD : va_D A [(m0, .inr (12, gs_7))] := hD
  obtain rfl : r_10 = 1 := wr_10.trans (rfl)
  refine lv_iload hx hb dL_law_2374 (lv_at hl 1 rfl) ?_
  refine lv_icmp_eq (tgt := 2381) hx hb dL_law_2376 (by decide) (fun _ => ?_) (fun c9 => absurd c9 (by decide))
  refine lv_iload hx hb dL_law_2381 (lv_at hl 1 rfl) ?_
  refine lv_if_ne (tgt := 2398) hx hb dL_law_2383 (by decide) (fun _ => ?_) (fun c9 => absurd c9 (by decide))
  refine lv_goto (tgt := 3043) hx hb dL_law_2398 (by decide) ?_
  exact law_end C0 hA hAl hS (lv_sub hl [2, 6] rfl) (Nat.le_of_ble_eq_true rfl) (Nat.le_of_ble_eq_true rfl)
theorem dL_law_2401 : decode cL_law 2401 = .ok (.aload_n 1, 1) := by decide +kernel
theorem dL_law_2402 : decode cL_law 2402 = .ok (.aload_n 0, 1) := by decide +kernel
theorem dL_law_2403 : decode cL_law 2403 = .ok (.iload 4, 2) := by decide +kernel
theorem dL_law_2405 : decode cL_law 2405 = .ok (.iconst 1, 1) := by decide +kernel
theorem dL_law_2406 : decode cL_law 2406 = .ok (.iadd, 1) := by decide +kernel
theorem dL_law_2407 : decode cL_law 2407 = .ok (.iaload, 1) := by decide +kernel
theorem dL_law_2408 : decode cL_law 2408 = .ok (.aload_n 0, 1) := by decide +kernel
theorem dL_law_2409 : decode cL_law 2409 = .ok (.iload 4, 2) := by decide +kernel
theorem dL_law_2411 : decode cL_law 2411 = .ok (.iconst 2, 1) := by decide +kernel
theorem dL_law_2412 : decode cL_law 2412 = .ok (.iadd, 1) := by decide +kernel
theorem dL_law_2413 : decode cL_law 2413 = .ok (.iaload, 1) := by decide +kernel
theorem dL_law_2414 : decode cL_law 2414 = .ok (.aload_n 0, 1) := by decide +kernel
theorem dL_law_2415 : decode cL_law 2415 = .ok (.iload 4, 2) := by decide +kernel
theorem dL_law_2417 : decode cL_law 2417 = .ok (.iconst 3, 1) := by decide +kernel
theorem dL_law_2418 : decode cL_law 2418 = .ok (.iadd, 1) := by decide +kernel
theorem dL_law_2419 : decode cL_law 2419 = .ok (.iaload, 1) := by decide +kernel
theorem dL_law_2420 : decode cL_law 2420 = .ok (.aload_n 0, 1) := by decide +kernel
theorem dL_law_2421 : decode cL_law 2421 = .ok (.iload 4, 2) := by decide +kernel
theorem dL_law_2423 : decode cL_law 2423 = .ok (.iconst 4, 1) := by decide +kernel
theorem dL_law_2424 : decode cL_law 2424 = .ok (.iadd, 1) := by decide +kernel
theorem dL_law_2425 : decode cL_law 2425 = .ok (.iaload, 1) := by decide +kernel
theorem dL_law_2426 : decode cL_law 2426 = .ok (.ifCond .eq 7, 3) := by decide +kernel
theorem dL_law_2429 : decode cL_law 2429 = .ok (.iconst 1, 1) := by decide +kernel
theorem dL_law_2430 : decode cL_law 2430 = .ok (.goto 4, 3) := by decide +kernel
theorem dL_law_2433 : decode cL_law 2433 = .ok (.iconst 0, 1) := by decide +kernel
theorem dL_law_2434 : decode cL_law 2434 = .ok (.aload_n 3, 1) := by decide +kernel
theorem dL_law_2435 : decode cL_law 2435 = .ok (.invokestatic 252, 3) := by decide +kernel
theorem dL_law_2438 : decode cL_law 2438 = .ok (.istore 5, 2) := by decide +kernel
theorem dL_law_2440 : decode cL_law 2440 = .ok (.aload_n 2, 1) := by decide +kernel
theorem dL_law_2441 : decode cL_law 2441 = .ok (.aload_n 0, 1) := by decide +kernel
theorem dL_law_2442 : decode cL_law 2442 = .ok (.iload 4, 2) := by decide +kernel
theorem dL_law_2444 : decode cL_law 2444 = .ok (.iconst 1, 1) := by decide +kernel
theorem dL_law_2445 : decode cL_law 2445 = .ok (.iadd, 1) := by decide +kernel
theorem dL_law_2446 : decode cL_law 2446 = .ok (.iaload, 1) := by decide +kernel
theorem dL_law_2447 : decode cL_law 2447 = .ok (.aload_n 0, 1) := by decide +kernel
theorem dL_law_2448 : decode cL_law 2448 = .ok (.iload 4, 2) := by decide +kernel
theorem dL_law_2450 : decode cL_law 2450 = .ok (.iconst 2, 1) := by decide +kernel
theorem dL_law_2451 : decode cL_law 2451 = .ok (.iadd, 1) := by decide +kernel
theorem dL_law_2452 : decode cL_law 2452 = .ok (.iaload, 1) := by decide +kernel
theorem dL_law_2453 : decode cL_law 2453 = .ok (.aload_n 0, 1) := by decide +kernel
theorem dL_law_2454 : decode cL_law 2454 = .ok (.iload 4, 2) := by decide +kernel
theorem dL_law_2456 : decode cL_law 2456 = .ok (.iconst 3, 1) := by decide +kernel
theorem dL_law_2457 : decode cL_law 2457 = .ok (.iadd, 1) := by decide +kernel
theorem dL_law_2458 : decode cL_law 2458 = .ok (.iaload, 1) := by decide +kernel
theorem dL_law_2459 : decode cL_law 2459 = .ok (.aload_n 0, 1) := by decide +kernel
theorem dL_law_2460 : decode cL_law 2460 = .ok (.iload 4, 2) := by decide +kernel
theorem dL_law_2462 : decode cL_law 2462 = .ok (.iconst 4, 1) := by decide +kernel
theorem dL_law_2463 : decode cL_law 2463 = .ok (.iadd, 1) := by decide +kernel
theorem dL_law_2464 : decode cL_law 2464 = .ok (.iaload, 1) := by decide +kernel
theorem dL_law_2465 : decode cL_law 2465 = .ok (.ifCond .eq 7, 3) := by decide +kernel
theorem dL_law_2468 : decode cL_law 2468 = .ok (.iconst 1, 1) := by decide +kernel
theorem dL_law_2469 : decode cL_law 2469 = .ok (.goto 4, 3) := by decide +kernel
theorem dL_law_2472 : decode cL_law 2472 = .ok (.iconst 0, 1) := by decide +kernel
theorem dL_law_2473 : decode cL_law 2473 = .ok (.invokevirtual 255, 3) := by decide +kernel
theorem dL_law_2476 : decode cL_law 2476 = .ok (.istore 6, 2) := by decide +kernel
theorem dL_law_2478 : decode cL_law 2478 = .ok (.aload_n 2, 1) := by decide +kernel
theorem dL_law_2479 : decode cL_law 2479 = .ok (.invokevirtual 149, 3) := by decide +kernel
theorem dL_law_2482 : decode cL_law 2482 = .ok (.iload 5, 2) := by decide +kernel
theorem dL_law_2484 : decode cL_law 2484 = .ok (.if_icmp .eq 5, 3) := by decide +kernel
theorem dL_law_2489 : decode cL_law 2489 = .ok (.iload 5, 2) := by decide +kernel
theorem dL_law_2491 : decode cL_law 2491 = .ok (.ifCond .ne 15, 3) := by decide +kernel
theorem dL_law_2506 : decode cL_law 2506 = .ok (.goto 537, 3) := by decide +kernel
set_option maxRecDepth 100000 in
theorem zgL_law_L_paint_252_w : GoodIn lw_tbl zsL_paint := goodIn_app (goodIn_sub (ws := [.codeWith yL_paint cL_paint 7 (some .int) [(0, 14, 17, 37), (0, 14, 21, 13)]]) (fun _ h9 => List.mem_singleton.mp h9 ▸ List.mem_of_getElem? (i := 1767) rfl) (by decide +kernel)) (goodIn_app (goodIn_app (goodIn_app (goodIn_sub (ws := [.methodLink RL 106 yX11_paint, .instanceMethod yX11_paint, .selects RX11 yX11_paint yX11_paint, .initialized RX11, .code yX11_paint cX11_paint 8 (some .int), .classLink RL 37 "java/util/NoSuchElementException", .classLink RL 13 "java/lang/IndexOutOfBoundsException", .methodLink RX11 166 yX11_needShot, .instanceMethod yX11_needShot, .selects RX11 yX11_needShot yX11_needShot, .code yX11_needShot cX11_needShot 3 (some (.object "PuppetFilm$Shot")), .classLink RX11 408 "java/util/NoSuchElementException", .initialized "java/util/NoSuchElementException", .fieldLink RX11 10 "PuppetFilm" "studio" "LPuppetFilm$Studio;", .methodLink RX11 271 yX8_shotAt, .instanceMethod yX8_shotAt, .selects RX8 yX8_shotAt yX8_shotAt, .initialized RX8, .code yX8_shotAt cX8_shotAt 2 (some (.object "PuppetFilm$Shot")), .fieldLink RX8 19 "PuppetFilm$Studio" "shots" "[LPuppetFilm$Shot;"]) (mem_ps [1768, 1769, 1770, 118, 1771, 1357, 848, 1362, 1364, 45, 1365, 1367, 145, 554, 1366, 669, 670, 119, 671, 171] (by decide +kernel)) (by decide +kernel)) zgC_X11) zgC_X8) zgZ)
set_option maxRecDepth 100000 in
theorem zgL_law_L_paint_252 : GoodIn lw_tbl (va_wsS RL 252 yL_paint zsL_paint) := goodIn_app (goodIn_sub (mem_ps [1765, 1766, 117] (by decide +kernel)) (by decide +kernel)) zgL_law_L_paint_252_w
set_option maxRecDepth 100000 in
theorem zgL_law_X12_paint_255_w : GoodIn lw_tbl wsX12_paint := goodIn_app (goodIn_sub (ws := [.code yX12_paint cX12_paint 7 (some .int)]) (fun _ h9 => List.mem_singleton.mp h9 ▸ List.mem_of_getElem? (i := 2557) rfl) (by decide +kernel)) (goodIn_app (goodIn_sub (ws := [.fieldLink RX12 1 "PuppetFilmModel" "thrown" "I", .fieldLink RX12 122 "PuppetFilmModel" "isPainted" "[Z", .methodLink RX12 436 yX12_isShot, .instanceMethod yX12_isShot, .selects RX12 yX12_isShot yX12_isShot, .initialized RX12, .code yX12_isShot cX12_isShot 2 (some .boolean), .fieldLink RX12 398 "PuppetFilmModel" "shots" "I", .methodLink RX12 267 yX12_within, .static yX12_within, .code yX12_within cX12_within 3 (some .boolean), .methodLink RX12 271 yX12_may, .instanceMethod yX12_may, .selects RX12 yX12_may yX12_may, .code yX12_may cX12_may 3 (some .boolean), .methodLink RX12 442 yX12_isFrame, .instanceMethod yX12_isFrame, .selects RX12 yX12_isFrame yX12_isFrame, .code yX12_isFrame cX12_isFrame 3 (some .boolean), .fieldLink RX12 104 "PuppetFilmModel" "frames" "[I", .methodLink RX12 404 yX12_place, .static yX12_place, .code yX12_place cX12_place 2 (some .int)]) (mem_ps [1882, 1932, 2376, 2378, 86, 129, 2379, 1920, 2222, 2223, 2224, 2225, 2227, 63, 2228, 2388, 2390, 88, 2391, 1926, 2345, 2346, 2347] (by decide +kernel)) (by decide +kernel)) zgC_X12)
set_option maxRecDepth 100000 in
theorem zgL_law_X12_paint_255 : GoodIn lw_tbl (wsV RL 255 RX12 yX12_paint wsX12_paint) := goodIn_app (goodIn_sub (mem_ps [2554, 2555, 2556, 129] (by decide +kernel)) (by decide +kernel)) zgL_law_X12_paint_255_w
set_option maxHeartbeats 8000000 in
set_option maxRecDepth 100000 in
/-- the law: paint -/
theorem law_case_32 {p : Program} {l : Launch} {e : Env} {s : State} {m : MethodId} {below : List Frame} {meth : Method} {c : Code} {D : va_G} {cT : Nat → ClassId} {b : Nat} {xs : Nat → Int32} {A : Nat → Prop} (hst : l.stackTraces = false) (C0 : lw_At p s m meth c b 7 xs) (hA : ∀ q : Nat, s.heap.size ≤ q → A q) (hAl : ∀ q, A q → s.heap.size ≤ q) (hK : va_K D vwCl (TY cT) s) (hG : GW s) (hZ : GZ A s s.heap) {h0 : Nat} {m0 : Nat} {o9 : Nat} {x_studio : Nat} {x_script : Nat} {x_teller : Nat} {x_planner : Nat} {x_plan : Nat} {x_drifts : Nat} {x_floor : Nat} {x_trial : Nat} {x_tape : Nat} {s_puppets : Nat} {s_shots : Nat} {s_sounds : Nat} {s_rates : Nat} {s_dresses : Nat} {fs : List Value} (hfs : fs.length = 109) (hfs_0 : fs[0]? = some (.int 0)) (hfs_1 : fs[1]? = some (.int 0)) (hfs_38 : fs[38]? = some (.int 0)) {H : Heap} {locs : List Loc} (hP : va_P D vwCl [(h0, .inr (11, [.ref x_studio, .ref x_script, .ref x_teller, .ref x_planner, .ref x_plan, .ref x_drifts, .ref x_floor, .ref x_trial, .ref x_tape, .int 0, .int (-1)])), (x_studio, .inr (8, [.ref s_puppets, .int 0, .ref s_shots, .int 0, .ref s_sounds, .ref s_rates, .ref s_dresses])), (s_shots, .inl (cT 5, 12, .inr (.inr (.inr (.inr (fun _ => none)))))), (m0, .inr (12, fs))] H) (hD : va_D A [(h0, .inr (11, [.ref x_studio, .ref x_script, .ref x_teller, .ref x_planner, .ref x_plan, .ref x_drifts, .ref x_floor, .ref x_trial, .ref x_tape, .int 0, .int (-1)])), (x_studio, .inr (8, [.ref s_puppets, .int 0, .ref s_shots, .int 0, .ref s_sounds, .ref s_rates, .ref s_dresses])), (s_shots, .inl (cT 5, 12, .inr (.inr (.inr (.inr (fun _ => none)))))), (m0, .inr (12, fs))]) (hS : va_S A s.heap H locs) {ls : Array Slot} (hl : lv_has ls 7 [(4, .int 0), (3, .ref o9), (2, .ref m0), (1, .ref h0), (0, .ref b)]) : W p l e room_1 s m #[Value.ref b] below meth c H locs 215 539454 (lw_Z below #[Value.ref b] s) (F0 m 2401 ls []) := by
  obtain ⟨hx, hb, hr, hml, hown, hts0, hX, hbl, hlocks, hgv⟩ := id C0
  have hts := hts0
  have hbA : ¬ A b := fun h => absurd (hAl b h) (Nat.not_le.mpr hbl)
  have hown : s.vm.findClass RL = some m.cls := hown
  have hb : c.code = cL_law := hb
  refine lv_aload_n hx hb dL_law_2401 rfl (lv_at hl 3 rfl) ?_
  refine lv_aload_n hx hb dL_law_2402 rfl (lv_at hl 4 rfl) ?_
  refine lv_iload hx hb dL_law_2403 (lv_at hl 0 rfl) ?_
  refine lv_iconst (v := 1) hx hb dL_law_2405 (by decide) ?_
  refine lv_iadd hx hb dL_law_2406 ?_
  refine lv_topi (fun z_1 ez_1 => ?_)
  obtain rfl : z_1 = 1 := ez_1.trans (by decide)
  refine va_sld hx hb hX hbl hbA hS (by unfold vp_in; decide) dL_law_2407 ?_
  refine lv_aload_n hx hb dL_law_2408 rfl (lv_at hl 4 rfl) ?_
  refine lv_iload hx hb dL_law_2409 (lv_at hl 0 rfl) ?_
  refine lv_iconst (v := 2) hx hb dL_law_2411 (by decide) ?_
  refine lv_iadd hx hb dL_law_2412 ?_
  refine lv_topi (fun z_2 ez_2 => ?_)
  obtain rfl : z_2 = 2 := ez_2.trans (by decide)
  refine va_sld hx hb hX hbl hbA hS (by unfold vp_in; decide) dL_law_2413 ?_
  refine lv_aload_n hx hb dL_law_2414 rfl (lv_at hl 4 rfl) ?_
  refine lv_iload hx hb dL_law_2415 (lv_at hl 0 rfl) ?_
  refine lv_iconst (v := 3) hx hb dL_law_2417 (by decide) ?_
  refine lv_iadd hx hb dL_law_2418 ?_
  refine lv_topi (fun z_3 ez_3 => ?_)
  obtain rfl : z_3 = 3 := ez_3.trans (by decide)
  refine va_sld hx hb hX hbl hbA hS (by unfold vp_in; decide) dL_law_2419 ?_
  refine lv_aload_n hx hb dL_law_2420 rfl (lv_at hl 4 rfl) ?_
  refine lv_iload hx hb dL_law_2421 (lv_at hl 0 rfl) ?_
  refine lv_iconst (v := 4) hx hb dL_law_2423 (by decide) ?_
  refine lv_iadd hx hb dL_law_2424 ?_
  refine lv_topi (fun z_4 ez_4 => ?_)
  obtain rfl : z_4 = 4 := ez_4.trans (by decide)
  refine va_sld hx hb hX hbl hbA hS (by unfold vp_in; decide) dL_law_2425 ?_
  refine lv_if_eq (tgt := 2433) hx hb dL_law_2426 (by decide) (fun c_5 => ?_) (fun c_5 => ?_)
  · refine lv_iconst (v := 0) hx hb dL_law_2433 (by decide) ?_
    refine lv_aload_n hx hb dL_law_2434 rfl (lv_at hl 1 rfl) ?_
    have hF := va_free (wc := [(h0, .inr (11, [.ref x_studio, .ref x_script, .ref x_teller, .ref x_planner, .ref x_plan, .ref x_drifts, .ref x_floor, .ref x_trial, .ref x_tape, .int 0, .int (-1)])), (x_studio, .inr (8, [.ref s_puppets, .int 0, .ref s_shots, .int 0, .ref s_sounds, .ref s_rates, .ref s_dresses])), (s_shots, .inl (cT 5, 12, .inr (.inr (.inr (.inr (fun _ => none))))))]) hD hS hA [0, 1, 2] rfl
    refine va_calli (vx_runSW (As := [.ref h0, .int (xs (Int32.toNatClampNeg 1)), .int (xs (Int32.toNatClampNeg 2)), .int (xs (Int32.toNatClampNeg 3)), .int 0, .ref o9]) (rest := []) ⟨hx, hb, hml, hown, hts⟩ (c_L_paint l hst D cT h0 (xs (Int32.toNatClampNeg 1)) (xs (Int32.toNatClampNeg 2)) (xs (Int32.toNatClampNeg 3)) 0 o9 x_studio x_script x_teller x_planner x_plan x_drifts x_floor x_trial x_tape s_puppets s_shots s_sounds s_rates s_dresses _ ) (vx_cwSW 6 hts zgL_law_L_paint_252 rfl rfl rfl (by decide +kernel) ⟨Nat.le_of_ble_eq_true rfl, Nat.le_of_ble_eq_true rfl⟩) (ps_z hP hD hK hG hZ hS hF [0, 1, 2] rfl rfl rfl) rfl rfl hl.1 rfl (lv_room (Nat.le_of_ble_eq_true rfl)) dL_law_2435 ⟨Nat.le_of_ble_eq_true rfl, Nat.le_of_ble_eq_true rfl⟩) hS (fun q _ h => hF q h) hF (fun r_6 uu9 tt9 H locs ht hvm wr_6 hB hz1 hk1 hS => ?_)
    obtain ⟨hP, hD⟩ := va_join (wr := [(m0, .inr (12, fs))]) (w1 := []) hP hD [0, 1, 2] [3] rfl rfl (by decide) (by decide) hk1 hF vp_nil vd_nil
    have hP : va_P D vwCl [(m0, .inr (12, fs))] _ := hP
    have hD : va_D A [(m0, .inr (12, fs))] := hD
    refine W.widen (k := 216) (n := 539460) (Nat.le_of_ble_eq_true rfl) (Nat.le_of_ble_eq_true rfl) ?_
    obtain rfl : r_6 = 1 := wr_6.trans (rfl)
    refine lv_istore (lv' := [(5, .int 1), (4, .int 0), (3, .ref o9), (2, .ref m0), (1, .ref h0), (0, .ref b)]) hx hb dL_law_2438 hl (by decide) rfl (fun ls hl => ?_)
    refine lv_aload_n hx hb dL_law_2440 rfl (lv_at hl 3 rfl) ?_
    refine lv_aload_n hx hb dL_law_2441 rfl (lv_at hl 5 rfl) ?_
    refine lv_iload hx hb dL_law_2442 (lv_at hl 1 rfl) ?_
    refine lv_iconst (v := 1) hx hb dL_law_2444 (by decide) ?_
    refine lv_iadd hx hb dL_law_2445 ?_
    refine lv_topi (fun z_7 ez_7 => ?_)
    obtain rfl : z_7 = 1 := ez_7.trans (by decide)
    refine va_sld hx hb hX hbl hbA hS (by unfold vp_in; decide) dL_law_2446 ?_
    refine lv_aload_n hx hb dL_law_2447 rfl (lv_at hl 5 rfl) ?_
    refine lv_iload hx hb dL_law_2448 (lv_at hl 1 rfl) ?_
    refine lv_iconst (v := 2) hx hb dL_law_2450 (by decide) ?_
    refine lv_iadd hx hb dL_law_2451 ?_
    refine lv_topi (fun z_8 ez_8 => ?_)
    obtain rfl : z_8 = 2 := ez_8.trans (by decide)
    refine va_sld hx hb hX hbl hbA hS (by unfold vp_in; decide) dL_law_2452 ?_
    refine lv_aload_n hx hb dL_law_2453 rfl (lv_at hl 5 rfl) ?_
    refine lv_iload hx hb dL_law_2454 (lv_at hl 1 rfl) ?_
    refine lv_iconst (v := 3) hx hb dL_law_2456 (by decide) ?_
    refine lv_iadd hx hb dL_law_2457 ?_
    refine lv_topi (fun z_9 ez_9 => ?_)
    obtain rfl : z_9 = 3 := ez_9.trans (by decide)
    refine va_sld hx hb hX hbl hbA hS (by unfold vp_in; decide) dL_law_2458 ?_
    refine lv_aload_n hx hb dL_law_2459 rfl (lv_at hl 5 rfl) ?_
    refine lv_iload hx hb dL_law_2460 (lv_at hl 1 rfl) ?_
    refine lv_iconst (v := 4) hx hb dL_law_2462 (by decide) ?_
    refine lv_iadd hx hb dL_law_2463 ?_
    refine lv_topi (fun z_10 ez_10 => ?_)
    obtain rfl : z_10 = 4 := ez_10.trans (by decide)
    refine va_sld hx hb hX hbl hbA hS (by unfold vp_in; decide) dL_law_2464 ?_
    refine lv_if_eq (tgt := 2472) hx hb dL_law_2465 (by decide) (fun c_11 => ?_) (fun c_11 => ((c_11 c_5 : False)).elim)
    refine lv_iconst (v := 0) hx hb dL_law_2472 (by decide) ?_
    have hF := va_free (wc := [(m0, .inr (12, fs))]) hD hS hA [0] rfl
    refine va_calli (va_runV (As := [.int (xs (Int32.toNatClampNeg 1)), .int (xs (Int32.toNatClampNeg 2)), .int (xs (Int32.toNatClampNeg 3)), .int 0]) (rest := []) ⟨hx, hb, hml, hown, hts⟩ (c_X12_paint l D cT m0 (xs (Int32.toNatClampNeg 1)) (xs (Int32.toNatClampNeg 2)) (xs (Int32.toNatClampNeg 3)) 0 fs 0 _ (hfs) (hfs_0) (hfs_1) (hfs_38)) (cwV 4 hts zgL_law_X12_paint_255 rfl rfl rfl (by decide +kernel) ⟨Nat.le_of_ble_eq_true rfl, Nat.le_of_ble_eq_true rfl⟩) (pv_w hP hD hK hG [0] rfl rfl rfl 0 rfl rfl) rfl rfl hl.1 rfl (lv_room (Nat.le_of_ble_eq_true rfl)) dL_law_2473 ⟨Nat.le_of_ble_eq_true rfl, Nat.le_of_ble_eq_true rfl⟩) hS (fun q _ h => hF q h) hF (fun r_12 uu9 tt9 H locs ht hvm wr_12 hB hz1 hk1 hS => ?_)
    obtain ⟨gs_13, hgs_13, hgs_13_0, hP1, hD1⟩ := hB
    rw [ht] at hP1
    obtain ⟨hP, hD⟩ := va_join (wr := []) (w1 := [(m0, .inr (12, gs_13))]) hP hD [0] [] rfl rfl (by decide) (by decide) hk1 hF hP1 hD1
    have hP : va_P D vwCl [(m0, .inr (12, gs_13))] _ := hP
    have hD : va_D A [(m0, .inr (12, gs_13))] := hD
    refine lv_istore (lv' := [(6, .int r_12), (5, .int 1), (4, .int 0), (3, .ref o9), (2, .ref m0), (1, .ref h0), (0, .ref b)]) hx hb dL_law_2476 hl (by decide) rfl (fun ls hl => ?_)
    refine lv_aload_n hx hb dL_law_2478 rfl (lv_at hl 4 rfl) ?_
    have hF := va_free (wc := [(m0, .inr (12, gs_13))]) hD hS hA [0] rfl
    refine va_calli (va_runV (As := []) (rest := []) ⟨hx, hb, hml, hown, hts⟩ (c_X12_thrown l D cT m0 gs_13 1 _ (hgs_13) (hgs_13_0)) (cwV 0 hts zgL_law_X12_thrown_149 rfl rfl rfl (by decide +kernel) ⟨Nat.le_of_ble_eq_true rfl, Nat.le_of_ble_eq_true rfl⟩) (pv_w hP hD hK hG [0] rfl rfl rfl 0 rfl rfl) rfl rfl hl.1 rfl (lv_room (Nat.le_of_ble_eq_true rfl)) dL_law_2479 ⟨Nat.le_of_ble_eq_true rfl, Nat.le_of_ble_eq_true rfl⟩) hS (fun q _ h => hF q h) hF (fun r_16 uu9 tt9 H locs ht hvm wr_16 hB hz1 hk1 hS => ?_)
    obtain ⟨hP1, hD1⟩ := hB
    rw [ht] at hP1
    obtain ⟨hP, hD⟩ := va_join (wr := []) (w1 := [(m0, .inr (12, gs_13))]) hP hD [0] [] rfl rfl (by decide) (by decide) hk1 hF hP1 hD1
    have hP : va_P D vwCl [(m0, .inr (12, gs_13))] _ := hP
    have hD : va_D A [(m0, .inr (12, gs_13))] := hD
    obtain rfl : r_16 = 1 := wr_16.trans (rfl)
    refine lv_iload hx hb dL_law_2482 (lv_at hl 1 rfl) ?_
    refine lv_icmp_eq (tgt := 2489) hx hb dL_law_2484 (by decide) (fun _ => ?_) (fun c9 => absurd c9 (by decide))
    refine lv_iload hx hb dL_law_2489 (lv_at hl 1 rfl) ?_
    refine lv_if_ne (tgt := 2506) hx hb dL_law_2491 (by decide) (fun _ => ?_) (fun c9 => absurd c9 (by decide))
    refine lv_goto (tgt := 3043) hx hb dL_law_2506 (by decide) ?_
    exact law_end C0 hA hAl hS (lv_sub hl [2, 6] rfl) (Nat.le_of_ble_eq_true rfl) (Nat.le_of_ble_eq_true rfl)
  · refine lv_iconst (v := 1) hx hb dL_law_2429 (by decide) ?_
    refine lv_goto (tgt := 2434) hx hb dL_law_2430 (by decide) ?_
    refine lv_aload_n hx hb dL_law_2434 rfl (lv_at hl 1 rfl) ?_
    have hF := va_free (wc := [(h0, .inr (11, [.ref x_studio, .ref x_script, .ref x_teller, .ref x_planner, .ref x_plan, .ref x_drifts, .ref x_floor, .ref x_trial, .ref x_tape, .int 0, .int (-1)])), (x_studio, .inr (8, [.ref s_puppets, .int 0, .ref s_shots, .int 0, .ref s_sounds, .ref s_rates, .ref s_dresses])), (s_shots, .inl (cT 5, 12, .inr (.inr (.inr (.inr (fun _ => none))))))]) hD hS hA [0, 1, 2] rfl
    refine va_calli (vx_runSW (As := [.ref h0, .int (xs (Int32.toNatClampNeg 1)), .int (xs (Int32.toNatClampNeg 2)), .int (xs (Int32.toNatClampNeg 3)), .int 1, .ref o9]) (rest := []) ⟨hx, hb, hml, hown, hts⟩ (c_L_paint l hst D cT h0 (xs (Int32.toNatClampNeg 1)) (xs (Int32.toNatClampNeg 2)) (xs (Int32.toNatClampNeg 3)) 1 o9 x_studio x_script x_teller x_planner x_plan x_drifts x_floor x_trial x_tape s_puppets s_shots s_sounds s_rates s_dresses _ ) (vx_cwSW 6 hts zgL_law_L_paint_252 rfl rfl rfl (by decide +kernel) ⟨Nat.le_of_ble_eq_true rfl, Nat.le_of_ble_eq_true rfl⟩) (ps_z hP hD hK hG hZ hS hF [0, 1, 2] rfl rfl rfl) rfl rfl hl.1 rfl (lv_room (Nat.le_of_ble_eq_true rfl)) dL_law_2435 ⟨Nat.le_of_ble_eq_true rfl, Nat.le_of_ble_eq_true rfl⟩) hS (fun q _ h => hF q h) hF (fun r_17 uu9 tt9 H locs ht hvm wr_17 hB hz1 hk1 hS => ?_)
    obtain ⟨hP, hD⟩ := va_join (wr := [(m0, .inr (12, fs))]) (w1 := []) hP hD [0, 1, 2] [3] rfl rfl (by decide) (by decide) hk1 hF vp_nil vd_nil
    have hP : va_P D vwCl [(m0, .inr (12, fs))] _ := hP
    have hD : va_D A [(m0, .inr (12, fs))] := hD
    refine W.widen (k := 216) (n := 539460) (Nat.le_of_ble_eq_true rfl) (Nat.le_of_ble_eq_true rfl) ?_
    obtain rfl : r_17 = 1 := wr_17.trans (rfl)
    refine lv_istore (lv' := [(5, .int 1), (4, .int 0), (3, .ref o9), (2, .ref m0), (1, .ref h0), (0, .ref b)]) hx hb dL_law_2438 hl (by decide) rfl (fun ls hl => ?_)
    refine lv_aload_n hx hb dL_law_2440 rfl (lv_at hl 3 rfl) ?_
    refine lv_aload_n hx hb dL_law_2441 rfl (lv_at hl 5 rfl) ?_
    refine lv_iload hx hb dL_law_2442 (lv_at hl 1 rfl) ?_
    refine lv_iconst (v := 1) hx hb dL_law_2444 (by decide) ?_
    refine lv_iadd hx hb dL_law_2445 ?_
    refine lv_topi (fun z_18 ez_18 => ?_)
    obtain rfl : z_18 = 1 := ez_18.trans (by decide)
    refine va_sld hx hb hX hbl hbA hS (by unfold vp_in; decide) dL_law_2446 ?_
    refine lv_aload_n hx hb dL_law_2447 rfl (lv_at hl 5 rfl) ?_
    refine lv_iload hx hb dL_law_2448 (lv_at hl 1 rfl) ?_
    refine lv_iconst (v := 2) hx hb dL_law_2450 (by decide) ?_
    refine lv_iadd hx hb dL_law_2451 ?_
    refine lv_topi (fun z_19 ez_19 => ?_)
    obtain rfl : z_19 = 2 := ez_19.trans (by decide)
    refine va_sld hx hb hX hbl hbA hS (by unfold vp_in; decide) dL_law_2452 ?_
    refine lv_aload_n hx hb dL_law_2453 rfl (lv_at hl 5 rfl) ?_
    refine lv_iload hx hb dL_law_2454 (lv_at hl 1 rfl) ?_
    refine lv_iconst (v := 3) hx hb dL_law_2456 (by decide) ?_
    refine lv_iadd hx hb dL_law_2457 ?_
    refine lv_topi (fun z_20 ez_20 => ?_)
    obtain rfl : z_20 = 3 := ez_20.trans (by decide)
    refine va_sld hx hb hX hbl hbA hS (by unfold vp_in; decide) dL_law_2458 ?_
    refine lv_aload_n hx hb dL_law_2459 rfl (lv_at hl 5 rfl) ?_
    refine lv_iload hx hb dL_law_2460 (lv_at hl 1 rfl) ?_
    refine lv_iconst (v := 4) hx hb dL_law_2462 (by decide) ?_
    refine lv_iadd hx hb dL_law_2463 ?_
    refine lv_topi (fun z_21 ez_21 => ?_)
    obtain rfl : z_21 = 4 := ez_21.trans (by decide)
    refine va_sld hx hb hX hbl hbA hS (by unfold vp_in; decide) dL_law_2464 ?_
    refine lv_if_eq (tgt := 2472) hx hb dL_law_2465 (by decide) (fun c_22 => ?_) (fun c_22 => ?_)
    · refine lv_iconst (v := 0) hx hb dL_law_2472 (by decide) ?_
      have hF := va_free (wc := [(m0, .inr (12, fs))]) hD hS hA [0] rfl
      refine va_calli (va_runV (As := [.int (xs (Int32.toNatClampNeg 1)), .int (xs (Int32.toNatClampNeg 2)), .int (xs (Int32.toNatClampNeg 3)), .int 0]) (rest := []) ⟨hx, hb, hml, hown, hts⟩ (c_X12_paint l D cT m0 (xs (Int32.toNatClampNeg 1)) (xs (Int32.toNatClampNeg 2)) (xs (Int32.toNatClampNeg 3)) 0 fs 0 _ (hfs) (hfs_0) (hfs_1) (hfs_38)) (cwV 4 hts zgL_law_X12_paint_255 rfl rfl rfl (by decide +kernel) ⟨Nat.le_of_ble_eq_true rfl, Nat.le_of_ble_eq_true rfl⟩) (pv_w hP hD hK hG [0] rfl rfl rfl 0 rfl rfl) rfl rfl hl.1 rfl (lv_room (Nat.le_of_ble_eq_true rfl)) dL_law_2473 ⟨Nat.le_of_ble_eq_true rfl, Nat.le_of_ble_eq_true rfl⟩) hS (fun q _ h => hF q h) hF (fun r_23 uu9 tt9 H locs ht hvm wr_23 hB hz1 hk1 hS => ?_)
      obtain ⟨gs_24, hgs_24, hgs_24_0, hP1, hD1⟩ := hB
      rw [ht] at hP1
      obtain ⟨hP, hD⟩ := va_join (wr := []) (w1 := [(m0, .inr (12, gs_24))]) hP hD [0] [] rfl rfl (by decide) (by decide) hk1 hF hP1 hD1
      have hP : va_P D vwCl [(m0, .inr (12, gs_24))] _ := hP
      have hD : va_D A [(m0, .inr (12, gs_24))] := hD
      refine lv_istore (lv' := [(6, .int r_23), (5, .int 1), (4, .int 0), (3, .ref o9), (2, .ref m0), (1, .ref h0), (0, .ref b)]) hx hb dL_law_2476 hl (by decide) rfl (fun ls hl => ?_)
      refine lv_aload_n hx hb dL_law_2478 rfl (lv_at hl 4 rfl) ?_
      have hF := va_free (wc := [(m0, .inr (12, gs_24))]) hD hS hA [0] rfl
      refine va_calli (va_runV (As := []) (rest := []) ⟨hx, hb, hml, hown, hts⟩ (c_X12_thrown l D cT m0 gs_24 1 _ (hgs_24) (hgs_24_0)) (cwV 0 hts zgL_law_X12_thrown_149 rfl rfl rfl (by decide +kernel) ⟨Nat.le_of_ble_eq_true rfl, Nat.le_of_ble_eq_true rfl⟩) (pv_w hP hD hK hG [0] rfl rfl rfl 0 rfl rfl) rfl rfl hl.1 rfl (lv_room (Nat.le_of_ble_eq_true rfl)) dL_law_2479 ⟨Nat.le_of_ble_eq_true rfl, Nat.le_of_ble_eq_true rfl⟩) hS (fun q _ h => hF q h) hF (fun r_27 uu9 tt9 H locs ht hvm wr_27 hB hz1 hk1 hS => ?_)
      obtain ⟨hP1, hD1⟩ := hB
      rw [ht] at hP1
      obtain ⟨hP, hD⟩ := va_join (wr := []) (w1 := [(m0, .inr (12, gs_24))]) hP hD [0] [] rfl rfl (by decide) (by decide) hk1 hF hP1 hD1
      have hP : va_P D vwCl [(m0, .inr (12, gs_24))] _ := hP
      have hD : va_D A [(m0, .inr (12, gs_24))] := hD
      obtain rfl : r_27 = 1 := wr_27.trans (rfl)
      refine lv_iload hx hb dL_law_2482 (lv_at hl 1 rfl) ?_
      refine lv_icmp_eq (tgt := 2489) hx hb dL_law_2484 (by decide) (fun _ => ?_) (fun c9 => absurd c9 (by decide))
      refine lv_iload hx hb dL_law_2489 (lv_at hl 1 rfl) ?_
      refine lv_if_ne (tgt := 2506) hx hb dL_law_2491 (by decide) (fun _ => ?_) (fun c9 => absurd c9 (by decide))
      refine lv_goto (tgt := 3043) hx hb dL_law_2506 (by decide) ?_
      exact law_end C0 hA hAl hS (lv_sub hl [2, 6] rfl) (Nat.le_of_ble_eq_true rfl) (Nat.le_of_ble_eq_true rfl)
    · refine lv_iconst (v := 1) hx hb dL_law_2468 (by decide) ?_
      refine lv_goto (tgt := 2473) hx hb dL_law_2469 (by decide) ?_
      have hF := va_free (wc := [(m0, .inr (12, fs))]) hD hS hA [0] rfl
      refine va_calli (va_runV (As := [.int (xs (Int32.toNatClampNeg 1)), .int (xs (Int32.toNatClampNeg 2)), .int (xs (Int32.toNatClampNeg 3)), .int 1]) (rest := []) ⟨hx, hb, hml, hown, hts⟩ (c_X12_paint l D cT m0 (xs (Int32.toNatClampNeg 1)) (xs (Int32.toNatClampNeg 2)) (xs (Int32.toNatClampNeg 3)) 1 fs 0 _ (hfs) (hfs_0) (hfs_1) (hfs_38)) (cwV 4 hts zgL_law_X12_paint_255 rfl rfl rfl (by decide +kernel) ⟨Nat.le_of_ble_eq_true rfl, Nat.le_of_ble_eq_true rfl⟩) (pv_w hP hD hK hG [0] rfl rfl rfl 0 rfl rfl) rfl rfl hl.1 rfl (lv_room (Nat.le_of_ble_eq_true rfl)) dL_law_2473 ⟨Nat.le_of_ble_eq_true rfl, Nat.le_of_ble_eq_true rfl⟩) hS (fun q _ h => hF q h) hF (fun r_28 uu9 tt9 H locs ht hvm wr_28 hB hz1 hk1 hS => ?_)
      obtain ⟨gs_29, hgs_29, hgs_29_0, hP1, hD1⟩ := hB
      rw [ht] at hP1
      obtain ⟨hP, hD⟩ := va_join (wr := []) (w1 := [(m0, .inr (12, gs_29))]) hP hD [0] [] rfl rfl (by decide) (by decide) hk1 hF hP1 hD1
      have hP : va_P D vwCl [(m0, .inr (12, gs_29))] _ := hP
      have hD : va_D A [(m0, .inr (12, gs_29))] := hD
      refine lv_istore (lv' := [(6, .int r_28), (5, .int 1), (4, .int 0), (3, .ref o9), (2, .ref m0), (1, .ref h0), (0, .ref b)]) hx hb dL_law_2476 hl (by decide) rfl (fun ls hl => ?_)
      refine lv_aload_n hx hb dL_law_2478 rfl (lv_at hl 4 rfl) ?_
      have hF := va_free (wc := [(m0, .inr (12, gs_29))]) hD hS hA [0] rfl
      refine va_calli (va_runV (As := []) (rest := []) ⟨hx, hb, hml, hown, hts⟩ (c_X12_thrown l D cT m0 gs_29 1 _ (hgs_29) (hgs_29_0)) (cwV 0 hts zgL_law_X12_thrown_149 rfl rfl rfl (by decide +kernel) ⟨Nat.le_of_ble_eq_true rfl, Nat.le_of_ble_eq_true rfl⟩) (pv_w hP hD hK hG [0] rfl rfl rfl 0 rfl rfl) rfl rfl hl.1 rfl (lv_room (Nat.le_of_ble_eq_true rfl)) dL_law_2479 ⟨Nat.le_of_ble_eq_true rfl, Nat.le_of_ble_eq_true rfl⟩) hS (fun q _ h => hF q h) hF (fun r_32 uu9 tt9 H locs ht hvm wr_32 hB hz1 hk1 hS => ?_)
      obtain ⟨hP1, hD1⟩ := hB
      rw [ht] at hP1
      obtain ⟨hP, hD⟩ := va_join (wr := []) (w1 := [(m0, .inr (12, gs_29))]) hP hD [0] [] rfl rfl (by decide) (by decide) hk1 hF hP1 hD1
      have hP : va_P D vwCl [(m0, .inr (12, gs_29))] _ := hP
      have hD : va_D A [(m0, .inr (12, gs_29))] := hD
      obtain rfl : r_32 = 1 := wr_32.trans (rfl)
      refine lv_iload hx hb dL_law_2482 (lv_at hl 1 rfl) ?_
      refine lv_icmp_eq (tgt := 2489) hx hb dL_law_2484 (by decide) (fun _ => ?_) (fun c9 => absurd c9 (by decide))
      refine lv_iload hx hb dL_law_2489 (lv_at hl 1 rfl) ?_
      refine lv_if_ne (tgt := 2506) hx hb dL_law_2491 (by decide) (fun _ => ?_) (fun c9 => absurd c9 (by decide))
      refine lv_goto (tgt := 3043) hx hb dL_law_2506 (by decide) ?_
      exact law_end C0 hA hAl hS (lv_sub hl [2, 6] rfl) (Nat.le_of_ble_eq_true rfl) (Nat.le_of_ble_eq_true rfl)
