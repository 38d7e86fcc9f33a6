theorem dL_sound_0 : decode cL_sound 0 = .ok (.aload_n 3, 1) := by decide +kernel
theorem dL_sound_1 : decode cL_sound 1 = .ok (.iconst 0, 1) := by decide +kernel
theorem dL_sound_10 : decode cL_sound 10 = .ok (.goto 7, 3) := by decide +kernel
theorem dL_sound_13 : decode cL_sound 13 = .ok (.astore 4, 2) := by decide +kernel
theorem dL_sound_15 : decode cL_sound 15 = .ok (.iconst 1, 1) := by decide +kernel
theorem dL_sound_16 : decode cL_sound 16 = .ok (.ireturn, 1) := by decide +kernel
theorem dL_sound_17 : decode cL_sound 17 = .ok (.iconst 0, 1) := by decide +kernel
theorem dL_sound_18 : decode cL_sound 18 = .ok (.ireturn, 1) := by decide +kernel
theorem dL_sound_2 : decode cL_sound 2 = .ok (.aload_n 0, 1) := by decide +kernel
theorem dL_sound_3 : decode cL_sound 3 = .ok (.iload_n 1, 1) := by decide +kernel
theorem dL_sound_4 : decode cL_sound 4 = .ok (.iload_n 2, 1) := by decide +kernel
theorem dL_sound_5 : decode cL_sound 5 = .ok (.invokevirtual 25, 3) := by decide +kernel
theorem dL_sound_8 : decode cL_sound 8 = .ok (.i2l, 1) := by decide +kernel
theorem dL_sound_9 : decode cL_sound 9 = .ok (.lastore, 1) := by decide +kernel
set_option maxRecDepth 20000 in
theorem ggL_sound_X11_sound : GoodIn wsL_sound wsX11_sound := goodIn_ca (goodIn_r _ [6, 7, 8, 9, 10, 5, 11, 12, 13, 14, 15, 16, 17, 18, 19, 20, 21, 22, 23, 24, 25, 26, 27, 28, 29, 30, 31, 32, 33, 34, 35, 36, 37] (by decide +kernel) (by decide +kernel)) (goodIn_sub (fun _ h => List.mem_cons_of_mem _ (List.mem_append_right _ h)) (by decide +kernel))
set_option maxRecDepth 20000 in
theorem gL_sound_X11_sound : GoodIn wsL_sound (wsV RL 25 RX11 yX11_sound wsX11_sound) := goodIn_app (goodIn_of _ (by decide +kernel)) ggL_sound_X11_sound
set_option maxHeartbeats 4000000 in
set_option maxRecDepth 100000 in
theorem c_L_sound (l : Launch) (hst : l.stackTraces = false) (D : va_G) (cT : Nat → ClassId) (h0 : Nat) (p0 : Int32) (p1 : Int32) (o9 : Nat) (x_studio : Nat) (x_script : Nat) (x_teller : Nat) (x_planner : Nat) (x_plan : Nat) (x_drifts : Nat) (x_floor : Nat) (x_trial : Nat) (x_tape : Nat) (s_puppets : Nat) (s_shots : Nat) (s_sounds : Nat) (s_rates : Nat) (s_dresses : Nat) (fso : Nat → Int32) (fo : Nat → Int64) (sz : Nat) (hso : ∀ k, k < 26 → fso k = nI (k % 9 + 1)) : Met l yL_sound wsL_sound ({ frames := 11, cells := 1, slots := 6, locals := 340 }) (va_Pc [.ref h0, .int p0, .int p1, .ref o9] (PZ D cT [(h0, .inr (11, [.ref x_studio, .ref x_script, .ref x_teller, .ref x_planner, .ref x_plan, .ref x_drifts, .ref x_floor, .ref x_trial, .ref x_tape, .int 0, .int (-1)])), (x_studio, .inr (8, [.ref s_puppets, .int 0, .ref s_shots, .int 0, .ref s_sounds, .ref s_rates, .ref s_dresses])), (s_sounds, .inl (cT 0, 26, .inl fso)), (o9, .inl (cT 2, 1, .inr (.inl fo)))] sz)) (va_Qi (fun (r : Int32) (_ : Unit) => r = th_sound p0 p1) (fun (_ : Unit) (t : State) => ∃ (go : Nat → Int64), (th_sound p0 p1 = 0 → go 0 = Int32.toInt64 (vl_sound p0)) ∧ va_P D vwCl [(o9, .inl (cT 2, 1, .inr (.inl go)))] t.heap ∧ va_D (va_A [(h0, .inr (11, [.ref x_studio, .ref x_script, .ref x_teller, .ref x_planner, .ref x_plan, .ref x_drifts, .ref x_floor, .ref x_trial, .ref x_tape, .int 0, .int (-1)])), (x_studio, .inr (8, [.ref s_puppets, .int 0, .ref s_shots, .int 0, .ref s_sounds, .ref s_rates, .ref s_dresses])), (s_sounds, .inl (cT 0, 26, .inl fso)), (o9, .inl (cT 2, 1, .inr (.inl fo)))] sz) [(o9, .inl (cT 2, 1, .inr (.inl go)))]) (va_A [(h0, .inr (11, [.ref x_studio, .ref x_script, .ref x_teller, .ref x_planner, .ref x_plan, .ref x_drifts, .ref x_floor, .ref x_trial, .ref x_tape, .int 0, .int (-1)])), (x_studio, .inr (8, [.ref s_puppets, .int 0, .ref s_shots, .int 0, .ref s_sounds, .ref s_rates, .ref s_dresses])), (s_sounds, .inl (cT 0, 26, .inl fso)), (o9, .inl (cT 2, 1, .inr (.inl fo)))] sz)) 1 6 (va_A [(h0, .inr (11, [.ref x_studio, .ref x_script, .ref x_teller, .ref x_planner, .ref x_plan, .ref x_drifts, .ref x_floor, .ref x_trial, .ref x_tape, .int 0, .int (-1)])), (x_studio, .inr (8, [.ref s_puppets, .int 0, .ref s_shots, .int 0, .ref s_sounds, .ref s_rates, .ref s_dresses])), (s_sounds, .inl (cT 0, 26, .inl fso)), (o9, .inl (cT 2, 1, .inr (.inl fo)))] sz) := by
  refine va_MetW (cc := cL_sound) (maxL := 5) (ret := (some .int)) (by decide) rfl ?_
  intro p e s m args below meth c s₁ B hml hv
  obtain ⟨rfl, ⟨hsz, hP, hK, hD0, hG⟩, hZ⟩ := hv
  have hx := B.exec
  have hb := B.bytes
  have hr := B.returns
  have hts := atoms_spec (ws := wsL_sound) B.pre
  have hown : s.vm.findClass RL = some m.cls := findClass_of_methodNamed B.named
  have hlocks := B.notSynchronized
  have htb := vx_table (x := yL_sound) B (hts _ List.mem_cons_self)
  subst hsz
  have hD := hD0.self (sz := s.heap.size)
  generalize hAe : va_A [(h0, .inr (11, [.ref x_studio, .ref x_script, .ref x_teller, .ref x_planner, .ref x_plan, .ref x_drifts, .ref x_floor, .ref x_trial, .ref x_tape, .int 0, .int (-1)])), (x_studio, .inr (8, [.ref s_puppets, .int 0, .ref s_shots, .int 0, .ref s_sounds, .ref s_rates, .ref s_dresses])), (s_sounds, .inl (cT 0, 26, .inl fso)), (o9, .inl (cT 2, 1, .inr (.inl fo)))] s.heap.size = A at hD hZ ⊢
  have hA : ∀ q : Nat, s.heap.size ≤ q → A q := fun q h => by rw [← hAe]; exact Or.inr h
  have hS : va_S A s.heap s.heap [] := va_S.rf
  have hP : va_P D vwCl [(h0, .inr (11, [.ref x_studio, .ref x_script, .ref x_teller, .ref x_planner, .ref x_plan, .ref x_drifts, .ref x_floor, .ref x_trial, .ref x_tape, .int 0, .int (-1)])), (x_studio, .inr (8, [.ref s_puppets, .int 0, .ref s_shots, .int 0, .ref s_sounds, .ref s_rates, .ref s_dresses])), (s_sounds, .inl (cT 0, 26, .inl fso)), (o9, .inl (cT 2, 1, .inr (.inl fo)))] s.heap := hP
  have hl := lv_entry ([.ref h0, .int p0, .int p1, .ref o9]) (n := 5) (Nat.le_of_ble_eq_true rfl)
  rw [lg_entry_eq]
  generalize (lg_sl ([.ref h0, .int p0, .int p1, .ref o9]) ++ List.replicate (5 - (lg_sl ([.ref h0, .int p0, .int p1, .ref o9])).length) Slot.unset).toArray = ls at hl ⊢
  have hl : lv_has ls 5 [(0, .ref h0), (1, .int p0), (2, .int p1), (3, .ref o9)] := hl
  refine lv_aload_n hx hb dL_sound_0 rfl (lv_at hl 3 rfl) ?_
  refine lv_iconst (v := 0) hx hb dL_sound_1 (by decide) ?_
  refine lv_aload_n hx hb dL_sound_2 rfl (lv_at hl 0 rfl) ?_
  refine lv_iload_n hx hb dL_sound_3 rfl (lv_at hl 1 rfl) ?_
  refine lv_iload_n hx hb dL_sound_4 rfl (lv_at hl 2 rfl) ?_
  have hF := va_free (wc := [(h0, .inr (11, [.ref x_studio, .ref x_script, .ref x_teller, .ref x_planner, .ref x_plan, .ref x_drifts, .ref x_floor, .ref x_trial, .ref x_tape, .int 0, .int (-1)])), (x_studio, .inr (8, [.ref s_puppets, .int 0, .ref s_shots, .int 0, .ref s_sounds, .ref s_rates, .ref s_dresses])), (s_sounds, .inl (cT 0, 26, .inl fso))]) hD hS hA [0, 1, 2] rfl
  refine vx_calli (vx_runV (As := [.int p0, .int p1]) (rest := [.int 0, .ref o9]) ⟨hx, hb, hml, hown, hts⟩ (c_X11_sound l hst D cT h0 p0 p1 x_studio x_script x_teller x_planner x_plan x_drifts x_floor x_trial x_tape s_puppets s_shots s_sounds s_rates s_dresses fso _ (by assumption)) (cwV 2 hts gL_sound_X11_sound rfl rfl rfl (by decide +kernel) ⟨Nat.le_of_ble_eq_true rfl, Nat.le_of_ble_eq_true rfl⟩) (pv_z hP hD hK hG hZ hS hF [0, 1, 2] rfl rfl rfl 0 rfl rfl) rfl rfl hl.1 rfl (lv_room (Nat.le_of_ble_eq_true rfl)) dL_sound_5 ⟨Nat.le_of_ble_eq_true rfl, Nat.le_of_ble_eq_true rfl⟩) hS (fun q _ h => hF q h) hF (fun q _ h => hF q h) (fun E ce q9 uu9 tt9 H locs ht hvm hw hB hz1 hk1 hS hq9 hv9 hc9 => ?_) (fun r_1 uu9 tt9 H locs ht hvm wr_1 hB hz1 hk1 hS => ?_)
  · obtain ⟨rfl, hpx⟩ := hB
    refine vx_widen (k := 1) (n := 6) (Nat.le_of_ble_eq_true rfl) (Nat.le_of_ble_eq_true rfl) ?_
    refine vx_catch (E := "java/lang/IllegalArgumentException") (name := "java/lang/IllegalArgumentException") hown [] ⟨0, 10, 13, 15⟩ [] htb (fun z hz => nomatch hz) (by decide) (by decide) (hts (.classLink RL 15 "java/lang/IllegalArgumentException") (List.mem_of_getElem? (i := 1) (by decide +kernel))) (gwB_any hG (Cond.castable "java/lang/IllegalArgumentException" "java/lang/IllegalArgumentException") (by decide +kernel)) hq9 hv9 hc9 ?_
    obtain ⟨hP, hD⟩ := va_join (wr := [(o9, .inl (cT 2, 1, .inr (.inl fo)))]) (w1 := []) hP hD [0, 1, 2] [3] rfl rfl (by decide) (by decide) hk1 hF vp_nil vd_nil
    have hP : va_P D vwCl [(o9, .inl (cT 2, 1, .inr (.inl fo)))] _ := hP
    have hD : va_D A [(o9, .inl (cT 2, 1, .inr (.inl fo)))] := hD
    refine W.eq (g2 := F0 m 13 ls [.ref q9]) rfl ?_
    refine lv_astore (lv' := [(4, .ref q9), (0, .ref h0), (1, .int p0), (2, .int p1), (3, .ref o9)]) hx hb dL_sound_13 hl (by decide) rfl (fun ls hl => ?_)
    refine lv_iconst (v := 1) hx hb dL_sound_15 (by decide) ?_
    have hP9 := hP.sub (ws' := [(o9, .inl (cT 2, 1, .inr (.inl fo)))]) [0] rfl
    have hD9 := hD.sub (ws' := [(o9, .inl (cT 2, 1, .inr (.inl fo)))]) [0] (by decide) rfl
    exact W.iret (v := 1) hx hb hr (fun t ht hW => ⟨⟨1, (), rfl, hpx.symm, ⟨fo, fun h => absurd (hpx.symm.trans h) (by decide), by rw [ht]; exact hP9, hD9⟩⟩, hS.F ht⟩) hS.2.2 dL_sound_16
  · obtain ⟨hP, hD⟩ := va_join (wr := [(o9, .inl (cT 2, 1, .inr (.inl fo)))]) (w1 := []) hP hD [0, 1, 2] [3] rfl rfl (by decide) (by decide) hk1 hF vp_nil vd_nil
    have hP : va_P D vwCl [(o9, .inl (cT 2, 1, .inr (.inl fo)))] _ := hP
    have hD : va_D A [(o9, .inl (cT 2, 1, .inr (.inl fo)))] := hD
    refine W.widen (k := 1) (n := 6) (Nat.le_of_ble_eq_true rfl) (Nat.le_of_ble_eq_true rfl) ?_
    obtain ⟨j_2, ej_2⟩ : ∃ y : Int64, y = (r_1).toInt64 := ⟨_, rfl⟩
    refine lv_i2l (v := j_2) hx hb dL_sound_8 ej_2.symm ?_
    refine va_last hx hb hK hP hD hS 0 2 rfl rfl (by unfold vp_in; decide) dL_sound_9 (fun H locs hP hD hS => ?_)
    have hP : va_P D vwCl [(o9, .inl (cT 2, 1, .inr (.inl (vp_updL fo 0 j_2))))] _ := hP
    have hD : va_D A [(o9, .inl (cT 2, 1, .inr (.inl (vp_updL fo 0 j_2))))] := hD
    refine lv_goto (tgt := 17) hx hb dL_sound_10 (by decide) ?_
    refine lv_iconst (v := 0) hx hb dL_sound_17 (by decide) ?_
    have hP9 := hP.sub (ws' := [(o9, .inl (cT 2, 1, .inr (.inl (vp_updL fo 0 j_2))))]) [0] rfl
    have hD9 := hD.sub (ws' := [(o9, .inl (cT 2, 1, .inr (.inl (vp_updL fo 0 j_2))))]) [0] (by decide) rfl
    exact W.iret (v := 0) hx hb hr (fun t ht hW => ⟨⟨0, (), rfl, wr_1.1.symm, ⟨(vp_updL fo 0 j_2), fun _ => (if_pos rfl).trans (ej_2.trans (congrArg Int32.toInt64 wr_1.2)), by rw [ht]; exact hP9, hD9⟩⟩, hS.F ht⟩) hS.2.2 dL_sound_18
theorem dL_shot_0 : decode cL_shot 0 = .ok (.aload_n 2, 1) := by decide +kernel
theorem dL_shot_1 : decode cL_shot 1 = .ok (.iconst 0, 1) := by decide +kernel
theorem dL_shot_12 : decode cL_shot 12 = .ok (.astore_n 3, 1) := by decide +kernel
theorem dL_shot_13 : decode cL_shot 13 = .ok (.iconst 1, 1) := by decide +kernel
theorem dL_shot_14 : decode cL_shot 14 = .ok (.ireturn, 1) := by decide +kernel
theorem dL_shot_18 : decode cL_shot 18 = .ok (.iconst 0, 1) := by decide +kernel
theorem dL_shot_19 : decode cL_shot 19 = .ok (.ireturn, 1) := by decide +kernel
theorem dL_shot_2 : decode cL_shot 2 = .ok (.aload_n 0, 1) := by decide +kernel
theorem dL_shot_3 : decode cL_shot 3 = .ok (.iload_n 1, 1) := by decide +kernel
theorem dL_shot_4 : decode cL_shot 4 = .ok (.invokevirtual 28, 3) := by decide +kernel
theorem dL_shot_7 : decode cL_shot 7 = .ok (.i2l, 1) := by decide +kernel
theorem dL_shot_8 : decode cL_shot 8 = .ok (.lastore, 1) := by decide +kernel
theorem dL_shot_9 : decode cL_shot 9 = .ok (.goto 9, 3) := by decide +kernel
set_option maxRecDepth 100000 in
theorem zgL_shot_wsX11_shot_r1 : GoodIn wsL_shot wsX11_shot_r1 := goodIn_sub (mem_ps [8, 9, 10, 11, 12, 13, 14, 15, 16, 17, 18, 19, 20, 21, 6, 22, 23, 24, 25, 26, 27, 28, 29, 30] (by decide +kernel)) (by decide +kernel)
set_option maxRecDepth 100000 in
theorem zgL_shot_wsX11_shot_r2 : GoodIn wsL_shot wsX11_shot_r2 := goodIn_sub (mem_ps [31, 32, 33, 34, 35, 36, 37, 38, 39, 40, 41, 42, 43, 44, 45, 46, 47, 48, 49, 50, 51, 52, 53, 54] (by decide +kernel)) (by decide +kernel)
set_option maxRecDepth 100000 in
theorem zgL_shot_wsX11_shot_r3 : GoodIn wsL_shot wsX11_shot_r3 := goodIn_sub (mem_ps [55, 56, 57, 58, 59, 60, 61, 62, 63, 64, 65, 66, 67, 68, 69, 70, 71, 72, 73, 74, 75, 76, 77, 78] (by decide +kernel)) (by decide +kernel)
set_option maxRecDepth 100000 in
theorem zgL_shot_wsX11_shot_r4 : GoodIn wsL_shot wsX11_shot_r4 := goodIn_sub (mem_ps [79, 80, 81, 82, 83, 84, 85, 86, 87, 88, 89, 90, 91, 92, 93, 94, 95, 96, 97, 98, 99, 100, 101, 102] (by decide +kernel)) (by decide +kernel)
set_option maxRecDepth 100000 in
theorem zgL_shot_wsX11_shot_r5 : GoodIn wsL_shot wsX11_shot_r5 := goodIn_sub (mem_ps [103, 104, 105, 106, 107, 108, 109, 110, 111, 112, 113, 114, 115, 116, 117, 118, 119, 120, 121, 122, 123, 124, 125, 126] (by decide +kernel)) (by decide +kernel)
set_option maxRecDepth 100000 in
theorem zgL_shot_wsX11_shot_r6 : GoodIn wsL_shot wsX11_shot_r6 := goodIn_sub (mem_ps [127, 128, 129, 130, 131, 132, 133, 134, 135, 136, 137, 138, 139, 140, 141, 142, 143, 144, 145, 146, 147, 148, 149, 150] (by decide +kernel)) (by decide +kernel)
set_option maxRecDepth 100000 in
theorem zgL_shot_wsX11_shot_r7 : GoodIn wsL_shot wsX11_shot_r7 := goodIn_sub (mem_ps [151, 152, 153, 154, 155, 156, 157, 158, 159, 160, 161, 162, 163, 164, 165, 166, 167, 168, 169, 170, 171, 172, 173, 174] (by decide +kernel)) (by decide +kernel)
set_option maxRecDepth 100000 in
theorem zgL_shot_wsX11_shot_r8 : GoodIn wsL_shot wsX11_shot_r8 := goodIn_sub (mem_ps [175, 176, 177, 178, 179, 180, 181, 182, 183, 184, 185, 186, 187, 188, 189, 190, 191, 192, 193, 194, 195, 196, 197, 198] (by decide +kernel)) (by decide +kernel)
set_option maxRecDepth 100000 in
theorem zgL_shot_wsX11_shot_r9 : GoodIn wsL_shot wsX11_shot_r9 := goodIn_sub (mem_ps [199, 200, 201, 202, 203, 204, 205, 206, 207, 208, 209, 210, 211, 212, 213, 214, 215, 216, 217, 218, 219, 220, 221, 222] (by decide +kernel)) (by decide +kernel)
set_option maxRecDepth 100000 in
theorem zgL_shot_wsX11_shot_r10 : GoodIn wsL_shot wsX11_shot_r10 := goodIn_sub (mem_ps [223, 224, 225, 226, 227, 228, 229, 230, 231, 232, 233, 234, 235, 236, 237, 238, 239, 240, 241, 242, 243, 244, 245, 246] (by decide +kernel)) (by decide +kernel)
set_option maxRecDepth 100000 in
theorem zgL_shot_wsX11_shot_r11 : GoodIn wsL_shot wsX11_shot_r11 := goodIn_sub (mem_ps [247, 248, 249, 250, 251, 252, 253, 254, 255, 256, 257, 258, 259, 260, 261, 262, 263, 264, 265, 266, 267, 268, 269, 270] (by decide +kernel)) (by decide +kernel)
set_option maxRecDepth 100000 in
theorem zgL_shot_wsX11_shot_r12 : GoodIn wsL_shot wsX11_shot_r12 := goodIn_sub (mem_ps [271, 272, 273, 274, 275, 276, 277, 278, 279, 280, 281, 282, 283, 284, 285, 286, 287, 288, 289, 290, 291, 292, 293, 294] (by decide +kernel)) (by decide +kernel)
set_option maxRecDepth 100000 in
theorem zgL_shot_wsX11_shot_r13 : GoodIn wsL_shot wsX11_shot_r13 := goodIn_sub (mem_ps [295, 296, 297, 298, 299, 300, 301, 302, 303, 304, 305, 306, 307, 308, 309, 310, 311, 312, 313, 314, 315, 316, 317, 318] (by decide +kernel)) (by decide +kernel)
set_option maxRecDepth 100000 in
theorem zgL_shot_wsX11_shot_r14 : GoodIn wsL_shot wsX11_shot_r14 := goodIn_sub (mem_ps [319, 320, 321, 322, 323, 324, 325, 326, 327, 328, 329, 330, 331, 332, 333, 334, 335, 336, 337, 338, 339, 340, 341, 342] (by decide +kernel)) (by decide +kernel)
set_option maxRecDepth 100000 in
theorem zgL_shot_wsX11_shot_r15 : GoodIn wsL_shot wsX11_shot_r15 := goodIn_sub (mem_ps [343, 344, 345, 346, 347, 348, 349, 350, 351, 352, 353, 354, 355, 356, 357, 358, 359, 360, 361, 53, 363, 364, 365, 366] (by decide +kernel)) (by decide +kernel)
set_option maxRecDepth 100000 in
theorem zgL_shot_wsX11_shot_r16 : GoodIn wsL_shot wsX11_shot_r16 := goodIn_sub (mem_ps [367, 368, 369, 370, 371, 372, 373, 374, 375, 376, 377, 378, 379, 380, 381, 382, 383, 384, 385, 386, 387, 388, 389, 390] (by decide +kernel)) (by decide +kernel)
set_option maxRecDepth 100000 in
theorem zgL_shot_wsX11_shot_r17 : GoodIn wsL_shot wsX11_shot_r17 := goodIn_sub (mem_ps [391, 392, 393, 394, 395, 396, 397, 398, 399, 400, 401, 402] (by decide +kernel)) (by decide +kernel)
set_option maxRecDepth 100000 in
theorem zgL_shot_X11_shot_28_w : GoodIn wsL_shot wsX11_shot := goodIn_app (goodIn_sub (ws := [.code yX11_shot cX11_shot 2 (some .int)]) (fun _ h9 => List.mem_singleton.mp h9 ▸ List.mem_of_getElem? (i := 7) rfl) (by decide +kernel)) (goodIn_app (goodIn_app (goodIn_app (goodIn_app (goodIn_app (goodIn_app (goodIn_app (goodIn_app (goodIn_app (goodIn_app (goodIn_app zgL_shot_wsX11_shot_r1 (goodIn_app zgL_shot_wsX11_shot_r2 (goodIn_app zgL_shot_wsX11_shot_r3 (goodIn_app zgL_shot_wsX11_shot_r4 (goodIn_app zgL_shot_wsX11_shot_r5 (goodIn_app zgL_shot_wsX11_shot_r6 (goodIn_app zgL_shot_wsX11_shot_r7 (goodIn_app zgL_shot_wsX11_shot_r8 (goodIn_app zgL_shot_wsX11_shot_r9 (goodIn_app zgL_shot_wsX11_shot_r10 (goodIn_app zgL_shot_wsX11_shot_r11 (goodIn_app zgL_shot_wsX11_shot_r12 (goodIn_app zgL_shot_wsX11_shot_r13 (goodIn_app zgL_shot_wsX11_shot_r14 (goodIn_app zgL_shot_wsX11_shot_r15 (goodIn_app zgL_shot_wsX11_shot_r16 zgL_shot_wsX11_shot_r17)))))))))))))))) (goodIn_sub (fun _ h => List.mem_cons_of_mem _ (List.mem_append_left _ (List.mem_append_left _ (List.mem_append_left _ (List.mem_append_left _ (List.mem_append_left _ (List.mem_append_left _ (List.mem_append_left _ (List.mem_append_left _ (List.mem_append_left _ (List.mem_append_right _ h))))))))))) (by decide +kernel))) (goodIn_sub (fun _ h => List.mem_cons_of_mem _ (List.mem_append_left _ (List.mem_append_left _ (List.mem_append_left _ (List.mem_append_left _ (List.mem_append_left _ (List.mem_append_left _ (List.mem_append_left _ (List.mem_append_left _ (List.mem_append_right _ h)))))))))) (by decide +kernel))) (goodIn_sub (fun _ h => List.mem_cons_of_mem _ (List.mem_append_left _ (List.mem_append_left _ (List.mem_append_left _ (List.mem_append_left _ (List.mem_append_left _ (List.mem_append_left _ (List.mem_append_left _ (List.mem_append_right _ h))))))))) (by decide +kernel))) (goodIn_sub (fun _ h => List.mem_cons_of_mem _ (List.mem_append_left _ (List.mem_append_left _ (List.mem_append_left _ (List.mem_append_left _ (List.mem_append_left _ (List.mem_append_left _ (List.mem_append_right _ h)))))))) (by decide +kernel))) (goodIn_sub (fun _ h => List.mem_cons_of_mem _ (List.mem_append_left _ (List.mem_append_left _ (List.mem_append_left _ (List.mem_append_left _ (List.mem_append_left _ (List.mem_append_right _ h))))))) (by decide +kernel))) (goodIn_sub (fun _ h => List.mem_cons_of_mem _ (List.mem_append_left _ (List.mem_append_left _ (List.mem_append_left _ (List.mem_append_left _ (List.mem_append_right _ h)))))) (by decide +kernel))) (goodIn_sub (fun _ h => List.mem_cons_of_mem _ (List.mem_append_left _ (List.mem_append_left _ (List.mem_append_left _ (List.mem_append_right _ h))))) (by decide +kernel))) (goodIn_sub (fun _ h => List.mem_cons_of_mem _ (List.mem_append_left _ (List.mem_append_left _ (List.mem_append_right _ h)))) (by decide +kernel))) (goodIn_sub (fun _ h => List.mem_cons_of_mem _ (List.mem_append_left _ (List.mem_append_right _ h))) (by decide +kernel))) (goodIn_sub (fun _ h => List.mem_cons_of_mem _ (List.mem_append_right _ h)) (by decide +kernel)))
set_option maxRecDepth 100000 in
theorem zgL_shot_X11_shot_28 : GoodIn wsL_shot (wsV RL 28 RX11 yX11_shot wsX11_shot) := goodIn_app (goodIn_sub (mem_ps [3, 4, 5, 6] (by decide +kernel)) (by decide +kernel)) zgL_shot_X11_shot_28_w
set_option maxHeartbeats 4000000 in
set_option maxRecDepth 100000 in
theorem c_L_shot (l : Launch) (hst : l.stackTraces = false) (D : va_G) (cT : Nat → ClassId) (h0 : Nat) (p0 : Int32) (o9 : Nat) (x_studio : Nat) (x_script : Nat) (x_teller : Nat) (x_planner : Nat) (x_plan : Nat) (x_drifts : Nat) (x_floor : Nat) (x_trial : Nat) (x_tape : Nat) (s_puppets : Nat) (s_shots : Nat) (s_sounds : Nat) (s_rates : Nat) (s_dresses : Nat) (c_studio : Nat) (c_words : Nat) (c_lines : Nat) (c_aimWho : Nat) (c_aimJoint : Nat) (c_aimStep : Nat) (c_open : Nat) (c_frames : Nat) (c_done : Nat) (w_text : Nat) (fo : Nat → Int64) (sz : Nat)  : Met l yL_shot wsL_shot ({ frames := 11, cells := 1, slots := 6, locals := 340 }) (va_Pc [.ref h0, .int p0, .ref o9] (PZ D cT [(h0, .inr (11, [.ref x_studio, .ref x_script, .ref x_teller, .ref x_planner, .ref x_plan, .ref x_drifts, .ref x_floor, .ref x_trial, .ref x_tape, .int 0, .int (-1)])), (x_studio, .inr (8, [.ref s_puppets, .int 0, .ref s_shots, .int 0, .ref s_sounds, .ref s_rates, .ref s_dresses])), (x_script, .inr (6, [.ref c_studio, .ref c_words, .ref c_lines, .int 0, .ref c_aimWho, .ref c_aimJoint, .ref c_aimStep, .int 0, .int 0, .int 0, .int 0, .ref c_open, .ref c_frames, .ref c_done])), (c_words, .inr (10, [.ref w_text, .int 0, .int 0, .int 0, .int 0, .int 0, .int 0])), (w_text, .inl (cT 1, 400, .inl (fun _ => 0))), (c_frames, .inl (cT 2, 5, .inr (.inl (fun _ => 0)))), (c_done, .inl (cT 2, 5, .inr (.inl (fun _ => 0)))), (x_tape, .inl (cT 1, 400, .inl (fun _ => 0))), (o9, .inl (cT 2, 1, .inr (.inl fo)))] sz)) (va_Qi (fun (r : Int32) (_ : Unit) => r = th_shot p0) (fun (_ : Unit) (t : State) => ∃ (go : Nat → Int64), (th_shot p0 = 0 → go 0 = Int32.toInt64 ((-6))) ∧ va_P D vwCl [(o9, .inl (cT 2, 1, .inr (.inl go)))] t.heap ∧ va_D (va_A [(h0, .inr (11, [.ref x_studio, .ref x_script, .ref x_teller, .ref x_planner, .ref x_plan, .ref x_drifts, .ref x_floor, .ref x_trial, .ref x_tape, .int 0, .int (-1)])), (x_studio, .inr (8, [.ref s_puppets, .int 0, .ref s_shots, .int 0, .ref s_sounds, .ref s_rates, .ref s_dresses])), (x_script, .inr (6, [.ref c_studio, .ref c_words, .ref c_lines, .int 0, .ref c_aimWho, .ref c_aimJoint, .ref c_aimStep, .int 0, .int 0, .int 0, .int 0, .ref c_open, .ref c_frames, .ref c_done])), (c_words, .inr (10, [.ref w_text, .int 0, .int 0, .int 0, .int 0, .int 0, .int 0])), (w_text, .inl (cT 1, 400, .inl (fun _ => 0))), (c_frames, .inl (cT 2, 5, .inr (.inl (fun _ => 0)))), (c_done, .inl (cT 2, 5, .inr (.inl (fun _ => 0)))), (x_tape, .inl (cT 1, 400, .inl (fun _ => 0))), (o9, .inl (cT 2, 1, .inr (.inl fo)))] sz) [(o9, .inl (cT 2, 1, .inr (.inl go)))]) (va_A [(h0, .inr (11, [.ref x_studio, .ref x_script, .ref x_teller, .ref x_planner, .ref x_plan, .ref x_drifts, .ref x_floor, .ref x_trial, .ref x_tape, .int 0, .int (-1)])), (x_studio, .inr (8, [.ref s_puppets, .int 0, .ref s_shots, .int 0, .ref s_sounds, .ref s_rates, .ref s_dresses])), (x_script, .inr (6, [.ref c_studio, .ref c_words, .ref c_lines, .int 0, .ref c_aimWho, .ref c_aimJoint, .ref c_aimStep, .int 0, .int 0, .int 0, .int 0, .ref c_open, .ref c_frames, .ref c_done])), (c_words, .inr (10, [.ref w_text, .int 0, .int 0, .int 0, .int 0, .int 0, .int 0])), (w_text, .inl (cT 1, 400, .inl (fun _ => 0))), (c_frames, .inl (cT 2, 5, .inr (.inl (fun _ => 0)))), (c_done, .inl (cT 2, 5, .inr (.inl (fun _ => 0)))), (x_tape, .inl (cT 1, 400, .inl (fun _ => 0))), (o9, .inl (cT 2, 1, .inr (.inl fo)))] sz)) 1 6 (va_A [(h0, .inr (11, [.ref x_studio, .ref x_script, .ref x_teller, .ref x_planner, .ref x_plan, .ref x_drifts, .ref x_floor, .ref x_trial, .ref x_tape, .int 0, .int (-1)])), (x_studio, .inr (8, [.ref s_puppets, .int 0, .ref s_shots, .int 0, .ref s_sounds, .ref s_rates, .ref s_dresses])), (x_script, .inr (6, [.ref c_studio, .ref c_words, .ref c_lines, .int 0, .ref c_aimWho, .ref c_aimJoint, .ref c_aimStep, .int 0, .int 0, .int 0, .int 0, .ref c_open, .ref c_frames, .ref c_done])), (c_words, .inr (10, [.ref w_text, .int 0, .int 0, .int 0, .int 0, .int 0, .int 0])), (w_text, .inl (cT 1, 400, .inl (fun _ => 0))), (c_frames, .inl (cT 2, 5, .inr (.inl (fun _ => 0)))), (c_done, .inl (cT 2, 5, .inr (.inl (fun _ => 0)))), (x_tape, .inl (cT 1, 400, .inl (fun _ => 0))), (o9, .inl (cT 2, 1, .inr (.inl fo)))] sz) := by
  refine va_MetW (cc := cL_shot) (maxL := 4) (ret := (some .int)) (by decide) rfl ?_
  intro p e s m args below meth c s₁ B hml hv
  obtain ⟨rfl, ⟨hsz, hP, hK, hD0, hG⟩, hZ⟩ := hv
  have hx := B.exec
  have hb := B.bytes
  have hr := B.returns
  have hts := atoms_spec (ws := wsL_shot) B.pre
  have hown : s.vm.findClass RL = some m.cls := findClass_of_methodNamed B.named
  have hlocks := B.notSynchronized
  have htb := vx_table (x := yL_shot) B (hts _ List.mem_cons_self)
  subst hsz
  have hD := hD0.self (sz := s.heap.size)
  generalize hAe : va_A [(h0, .inr (11, [.ref x_studio, .ref x_script, .ref x_teller, .ref x_planner, .ref x_plan, .ref x_drifts, .ref x_floor, .ref x_trial, .ref x_tape, .int 0, .int (-1)])), (x_studio, .inr (8, [.ref s_puppets, .int 0, .ref s_shots, .int 0, .ref s_sounds, .ref s_rates, .ref s_dresses])), (x_script, .inr (6, [.ref c_studio, .ref c_words, .ref c_lines, .int 0, .ref c_aimWho, .ref c_aimJoint, .ref c_aimStep, .int 0, .int 0, .int 0, .int 0, .ref c_open, .ref c_frames, .ref c_done])), (c_words, .inr (10, [.ref w_text, .int 0, .int 0, .int 0, .int 0, .int 0, .int 0])), (w_text, .inl (cT 1, 400, .inl (fun _ => 0))), (c_frames, .inl (cT 2, 5, .inr (.inl (fun _ => 0)))), (c_done, .inl (cT 2, 5, .inr (.inl (fun _ => 0)))), (x_tape, .inl (cT 1, 400, .inl (fun _ => 0))), (o9, .inl (cT 2, 1, .inr (.inl fo)))] s.heap.size = A at hD hZ ⊢
  have hA : ∀ q : Nat, s.heap.size ≤ q → A q := fun q h => by rw [← hAe]; exact Or.inr h
  have hS : va_S A s.heap s.heap [] := va_S.rf
  have hP : va_P D vwCl [(h0, .inr (11, [.ref x_studio, .ref x_script, .ref x_teller, .ref x_planner, .ref x_plan, .ref x_drifts, .ref x_floor, .ref x_trial, .ref x_tape, .int 0, .int (-1)])), (x_studio, .inr (8, [.ref s_puppets, .int 0, .ref s_shots, .int 0, .ref s_sounds, .ref s_rates, .ref s_dresses])), (x_script, .inr (6, [.ref c_studio, .ref c_words, .ref c_lines, .int 0, .ref c_aimWho, .ref c_aimJoint, .ref c_aimStep, .int 0, .int 0, .int 0, .int 0, .ref c_open, .ref c_frames, .ref c_done])), (c_words, .inr (10, [.ref w_text, .int 0, .int 0, .int 0, .int 0, .int 0, .int 0])), (w_text, .inl (cT 1, 400, .inl (fun _ => 0))), (c_frames, .inl (cT 2, 5, .inr (.inl (fun _ => 0)))), (c_done, .inl (cT 2, 5, .inr (.inl (fun _ => 0)))), (x_tape, .inl (cT 1, 400, .inl (fun _ => 0))), (o9, .inl (cT 2, 1, .inr (.inl fo)))] s.heap := hP
  have hl := lv_entry ([.ref h0, .int p0, .ref o9]) (n := 4) (Nat.le_of_ble_eq_true rfl)
  rw [lg_entry_eq]
  generalize (lg_sl ([.ref h0, .int p0, .ref o9]) ++ List.replicate (4 - (lg_sl ([.ref h0, .int p0, .ref o9])).length) Slot.unset).toArray = ls at hl ⊢
  have hl : lv_has ls 4 [(0, .ref h0), (1, .int p0), (2, .ref o9)] := hl
  refine lv_aload_n hx hb dL_shot_0 rfl (lv_at hl 2 rfl) ?_
  refine lv_iconst (v := 0) hx hb dL_shot_1 (by decide) ?_
  refine lv_aload_n hx hb dL_shot_2 rfl (lv_at hl 0 rfl) ?_
  refine lv_iload_n hx hb dL_shot_3 rfl (lv_at hl 1 rfl) ?_
  have hF := va_free (wc := [(h0, .inr (11, [.ref x_studio, .ref x_script, .ref x_teller, .ref x_planner, .ref x_plan, .ref x_drifts, .ref x_floor, .ref x_trial, .ref x_tape, .int 0, .int (-1)])), (x_studio, .inr (8, [.ref s_puppets, .int 0, .ref s_shots, .int 0, .ref s_sounds, .ref s_rates, .ref s_dresses])), (x_script, .inr (6, [.ref c_studio, .ref c_words, .ref c_lines, .int 0, .ref c_aimWho, .ref c_aimJoint, .ref c_aimStep, .int 0, .int 0, .int 0, .int 0, .ref c_open, .ref c_frames, .ref c_done])), (c_words, .inr (10, [.ref w_text, .int 0, .int 0, .int 0, .int 0, .int 0, .int 0])), (w_text, .inl (cT 1, 400, .inl (fun _ => 0))), (c_frames, .inl (cT 2, 5, .inr (.inl (fun _ => 0)))), (c_done, .inl (cT 2, 5, .inr (.inl (fun _ => 0)))), (x_tape, .inl (cT 1, 400, .inl (fun _ => 0)))]) hD hS hA [0, 1, 2, 3, 4, 5, 6, 7] rfl
  refine vx_calli (vx_runV (As := [.int p0]) (rest := [.int 0, .ref o9]) ⟨hx, hb, hml, hown, hts⟩ (c_X11_shot l hst D cT h0 p0 x_studio x_script x_teller x_planner x_plan x_drifts x_floor x_trial x_tape s_puppets s_shots s_sounds s_rates s_dresses c_studio c_words c_lines c_aimWho c_aimJoint c_aimStep c_open c_frames c_done w_text _ ) (cwV 1 hts zgL_shot_X11_shot_28 rfl rfl rfl (by decide +kernel) ⟨Nat.le_of_ble_eq_true rfl, Nat.le_of_ble_eq_true rfl⟩) (pv_z hP hD hK hG hZ hS hF [0, 1, 2, 3, 4, 5, 6, 7] rfl rfl rfl 0 rfl rfl) rfl rfl hl.1 rfl (lv_room (Nat.le_of_ble_eq_true rfl)) dL_shot_4 ⟨Nat.le_of_ble_eq_true rfl, Nat.le_of_ble_eq_true rfl⟩) hS (fun q _ h => hF q h) hF (fun q _ h => hF q h) (fun E ce q9 uu9 tt9 H locs ht hvm hw hB hz1 hk1 hS hq9 hv9 hc9 => ?_) (fun r_1 uu9 tt9 H locs ht hvm wr_1 hB hz1 hk1 hS => ?_)
  · obtain ⟨rfl, hpx⟩ := hB
    refine vx_widen (k := 1) (n := 6) (Nat.le_of_ble_eq_true rfl) (Nat.le_of_ble_eq_true rfl) ?_
    refine vx_catch (E := "java/lang/IllegalArgumentException") (name := "java/lang/IllegalArgumentException") hown [] ⟨0, 9, 12, 15⟩ [⟨0, 9, 15, 32⟩] htb (fun z hz => nomatch hz) (by decide) (by decide) (hts (.classLink RL 15 "java/lang/IllegalArgumentException") (List.mem_of_getElem? (i := 1) (by decide +kernel))) (gwB_any hG (Cond.castable "java/lang/IllegalArgumentException" "java/lang/IllegalArgumentException") (by decide +kernel)) hq9 hv9 hc9 ?_
    obtain ⟨hP, hD⟩ := va_join (wr := [(o9, .inl (cT 2, 1, .inr (.inl fo)))]) (w1 := []) hP hD [0, 1, 2, 3, 4, 5, 6, 7] [8] rfl rfl (by decide) (by decide) hk1 hF vp_nil vd_nil
    have hP : va_P D vwCl [(o9, .inl (cT 2, 1, .inr (.inl fo)))] _ := hP
    have hD : va_D A [(o9, .inl (cT 2, 1, .inr (.inl fo)))] := hD
    refine W.eq (g2 := F0 m 12 ls [.ref q9]) rfl ?_
    refine lv_astore_n (lv' := [(3, .ref q9), (0, .ref h0), (1, .int p0), (2, .ref o9)]) hx hb dL_shot_12 rfl hl (by decide) rfl (fun ls hl => ?_)
    refine lv_iconst (v := 1) hx hb dL_shot_13 (by decide) ?_
    have hP9 := hP.sub (ws' := [(o9, .inl (cT 2, 1, .inr (.inl fo)))]) [0] rfl
    have hD9 := hD.sub (ws' := [(o9, .inl (cT 2, 1, .inr (.inl fo)))]) [0] (by decide) rfl
    exact W.iret (v := 1) hx hb hr (fun t ht hW => ⟨⟨1, (), rfl, hpx.symm, ⟨fo, fun h => absurd (hpx.symm.trans h) (by decide), by rw [ht]; exact hP9, hD9⟩⟩, hS.F ht⟩) hS.2.2 dL_shot_14
  · obtain ⟨hP, hD⟩ := va_join (wr := [(o9, .inl (cT 2, 1, .inr (.inl fo)))]) (w1 := []) hP hD [0, 1, 2, 3, 4, 5, 6, 7] [8] rfl rfl (by decide) (by decide) hk1 hF vp_nil vd_nil
    have hP : va_P D vwCl [(o9, .inl (cT 2, 1, .inr (.inl fo)))] _ := hP
    have hD : va_D A [(o9, .inl (cT 2, 1, .inr (.inl fo)))] := hD
    refine W.widen (k := 1) (n := 6) (Nat.le_of_ble_eq_true rfl) (Nat.le_of_ble_eq_true rfl) ?_
    obtain ⟨j_2, ej_2⟩ : ∃ y : Int64, y = (r_1).toInt64 := ⟨_, rfl⟩
    refine lv_i2l (v := j_2) hx hb dL_shot_7 ej_2.symm ?_
    refine va_last hx hb hK hP hD hS 0 2 rfl rfl (by unfold vp_in; decide) dL_shot_8 (fun H locs hP hD hS => ?_)
    have hP : va_P D vwCl [(o9, .inl (cT 2, 1, .inr (.inl (vp_updL fo 0 j_2))))] _ := hP
    have hD : va_D A [(o9, .inl (cT 2, 1, .inr (.inl (vp_updL fo 0 j_2))))] := hD
    refine lv_goto (tgt := 18) hx hb dL_shot_9 (by decide) ?_
    refine lv_iconst (v := 0) hx hb dL_shot_18 (by decide) ?_
    have hP9 := hP.sub (ws' := [(o9, .inl (cT 2, 1, .inr (.inl (vp_updL fo 0 j_2))))]) [0] rfl
    have hD9 := hD.sub (ws' := [(o9, .inl (cT 2, 1, .inr (.inl (vp_updL fo 0 j_2))))]) [0] (by decide) rfl
    exact W.iret (v := 0) hx hb hr (fun t ht hW => ⟨⟨0, (), rfl, wr_1.1.symm, ⟨(vp_updL fo 0 j_2), fun _ => (if_pos rfl).trans (ej_2.trans (congrArg Int32.toInt64 wr_1.2)), by rw [ht]; exact hP9, hD9⟩⟩, hS.F ht⟩) hS.2.2 dL_shot_19
theorem dL_set_0 : decode cL_set 0 = .ok (.aload 4, 2) := by decide +kernel
theorem dL_set_10 : decode cL_set 10 = .ok (.i2l, 1) := by decide +kernel
theorem dL_set_11 : decode cL_set 11 = .ok (.lastore, 1) := by decide +kernel
theorem dL_set_12 : decode cL_set 12 = .ok (.goto 7, 3) := by decide +kernel
theorem dL_set_15 : decode cL_set 15 = .ok (.astore 5, 2) := by decide +kernel
theorem dL_set_17 : decode cL_set 17 = .ok (.iconst 1, 1) := by decide +kernel
theorem dL_set_18 : decode cL_set 18 = .ok (.ireturn, 1) := by decide +kernel
theorem dL_set_19 : decode cL_set 19 = .ok (.iconst 0, 1) := by decide +kernel
theorem dL_set_2 : decode cL_set 2 = .ok (.iconst 0, 1) := by decide +kernel
theorem dL_set_20 : decode cL_set 20 = .ok (.ireturn, 1) := by decide +kernel
theorem dL_set_3 : decode cL_set 3 = .ok (.aload_n 0, 1) := by decide +kernel
theorem dL_set_4 : decode cL_set 4 = .ok (.iload_n 1, 1) := by decide +kernel
theorem dL_set_5 : decode cL_set 5 = .ok (.iload_n 2, 1) := by decide +kernel
theorem dL_set_6 : decode cL_set 6 = .ok (.iload_n 3, 1) := by decide +kernel
theorem dL_set_7 : decode cL_set 7 = .ok (.invokevirtual 69, 3) := by decide +kernel
set_option maxRecDepth 20000 in
theorem ggL_set_X11_set : GoodIn wsL_set wsX11_set := goodIn_ca (goodIn_r _ [6, 7, 8, 9, 10, 11, 12, 13, 14, 5, 15, 16, 17, 18, 19, 20, 21, 22, 23, 24, 25, 26, 27, 28, 29, 30, 31, 32, 33, 34, 35, 36, 37, 38, 39, 40, 41, 42, 43, 44, 45, 46, 47, 48, 49, 50, 51, 52, 53, 54, 55, 56, 57, 58, 59, 60] (by decide +kernel) (by decide +kernel)) (goodIn_sub (fun _ h => List.mem_cons_of_mem _ (List.mem_append_right _ h)) (by decide +kernel))
set_option maxRecDepth 20000 in
theorem gL_set_X11_set : GoodIn wsL_set (wsV RL 69 RX11 yX11_set wsX11_set) := goodIn_app (goodIn_of _ (by decide +kernel)) ggL_set_X11_set
set_option maxHeartbeats 4000000 in
set_option maxRecDepth 100000 in
theorem c_L_set (l : Launch) (hst : l.stackTraces = false) (D : va_G) (cT : Nat → ClassId) (h0 : Nat) (p0 : Int32) (p1 : Int32) (p2 : Int32) (o9 : Nat) (x_studio : Nat) (x_script : Nat) (x_teller : Nat) (x_planner : Nat) (x_plan : Nat) (x_drifts : Nat) (x_floor : Nat) (x_trial : Nat) (x_tape : Nat) (s_puppets : Nat) (s_shots : Nat) (s_sounds : Nat) (s_rates : Nat) (s_dresses : Nat) (fra : Nat → Int32) (fdr : Nat → Int32) (fo : Nat → Int64) (sz : Nat) (hra : ∀ k, k < 3 → fra k = 10) (hdr : ∀ k, k < 8 → fdr k = 1) : Met l yL_set wsL_set ({ frames := 10, cells := 1, slots := 6, locals := 280 }) (va_Pc [.ref h0, .int p0, .int p1, .int p2, .ref o9] (PZ D cT [(h0, .inr (11, [.ref x_studio, .ref x_script, .ref x_teller, .ref x_planner, .ref x_plan, .ref x_drifts, .ref x_floor, .ref x_trial, .ref x_tape, .int 0, .int (-1)])), (x_studio, .inr (8, [.ref s_puppets, .int 0, .ref s_shots, .int 0, .ref s_sounds, .ref s_rates, .ref s_dresses])), (s_shots, .inl (cT 5, 12, .inr (.inr (.inr (.inr (fun _ => none)))))), (s_rates, .inl (cT 0, 3, .inl fra)), (s_dresses, .inl (cT 0, 8, .inl fdr)), (o9, .inl (cT 2, 1, .inr (.inl fo)))] sz)) (va_Qi (fun (r : Int32) (_ : Unit) => r = th_set p0 p1 p2) (fun (_ : Unit) (t : State) => ∃ (go : Nat → Int64), (th_set p0 p1 p2 = 0 → go 0 = Int32.toInt64 (vl_set p0)) ∧ va_P D vwCl [(o9, .inl (cT 2, 1, .inr (.inl go)))] t.heap ∧ va_D (va_A [(h0, .inr (11, [.ref x_studio, .ref x_script, .ref x_teller, .ref x_planner, .ref x_plan, .ref x_drifts, .ref x_floor, .ref x_trial, .ref x_tape, .int 0, .int (-1)])), (x_studio, .inr (8, [.ref s_puppets, .int 0, .ref s_shots, .int 0, .ref s_sounds, .ref s_rates, .ref s_dresses])), (s_shots, .inl (cT 5, 12, .inr (.inr (.inr (.inr (fun _ => none)))))), (s_rates, .inl (cT 0, 3, .inl fra)), (s_dresses, .inl (cT 0, 8, .inl fdr)), (o9, .inl (cT 2, 1, .inr (.inl fo)))] sz) [(o9, .inl (cT 2, 1, .inr (.inl go)))]) (va_A [(h0, .inr (11, [.ref x_studio, .ref x_script, .ref x_teller, .ref x_planner, .ref x_plan, .ref x_drifts, .ref x_floor, .ref x_trial, .ref x_tape, .int 0, .int (-1)])), (x_studio, .inr (8, [.ref s_puppets, .int 0, .ref s_shots, .int 0, .ref s_sounds, .ref s_rates, .ref s_dresses])), (s_shots, .inl (cT 5, 12, .inr (.inr (.inr (.inr (fun _ => none)))))), (s_rates, .inl (cT 0, 3, .inl fra)), (s_dresses, .inl (cT 0, 8, .inl fdr)), (o9, .inl (cT 2, 1, .inr (.inl fo)))] sz)) 1 6 (va_A [(h0, .inr (11, [.ref x_studio, .ref x_script, .ref x_teller, .ref x_planner, .ref x_plan, .ref x_drifts, .ref x_floor, .ref x_trial, .ref x_tape, .int 0, .int (-1)])), (x_studio, .inr (8, [.ref s_puppets, .int 0, .ref s_shots, .int 0, .ref s_sounds, .ref s_rates, .ref s_dresses])), (s_shots, .inl (cT 5, 12, .inr (.inr (.inr (.inr (fun _ => none)))))), (s_rates, .inl (cT 0, 3, .inl fra)), (s_dresses, .inl (cT 0, 8, .inl fdr)), (o9, .inl (cT 2, 1, .inr (.inl fo)))] sz) := by
  refine va_MetW (cc := cL_set) (maxL := 6) (ret := (some .int)) (by decide) rfl ?_
  intro p e s m args below meth c s₁ B hml hv
  obtain ⟨rfl, ⟨hsz, hP, hK, hD0, hG⟩, hZ⟩ := hv
  have hx := B.exec
  have hb := B.bytes
  have hr := B.returns
  have hts := atoms_spec (ws := wsL_set) B.pre
  have hown : s.vm.findClass RL = some m.cls := findClass_of_methodNamed B.named
  have hlocks := B.notSynchronized
  have htb := vx_table (x := yL_set) B (hts _ List.mem_cons_self)
  subst hsz
  have hD := hD0.self (sz := s.heap.size)
  generalize hAe : va_A [(h0, .inr (11, [.ref x_studio, .ref x_script, .ref x_teller, .ref x_planner, .ref x_plan, .ref x_drifts, .ref x_floor, .ref x_trial, .ref x_tape, .int 0, .int (-1)])), (x_studio, .inr (8, [.ref s_puppets, .int 0, .ref s_shots, .int 0, .ref s_sounds, .ref s_rates, .ref s_dresses])), (s_shots, .inl (cT 5, 12, .inr (.inr (.inr (.inr (fun _ => none)))))), (s_rates, .inl (cT 0, 3, .inl fra)), (s_dresses, .inl (cT 0, 8, .inl fdr)), (o9, .inl (cT 2, 1, .inr (.inl fo)))] s.heap.size = A at hD hZ ⊢
  have hA : ∀ q : Nat, s.heap.size ≤ q → A q := fun q h => by rw [← hAe]; exact Or.inr h
  have hS : va_S A s.heap s.heap [] := va_S.rf
  have hP : va_P D vwCl [(h0, .inr (11, [.ref x_studio, .ref x_script, .ref x_teller, .ref x_planner, .ref x_plan, .ref x_drifts, .ref x_floor, .ref x_trial, .ref x_tape, .int 0, .int (-1)])), (x_studio, .inr (8, [.ref s_puppets, .int 0, .ref s_shots, .int 0, .ref s_sounds, .ref s_rates, .ref s_dresses])), (s_shots, .inl (cT 5, 12, .inr (.inr (.inr (.inr (fun _ => none)))))), (s_rates, .inl (cT 0, 3, .inl fra)), (s_dresses, .inl (cT 0, 8, .inl fdr)), (o9, .inl (cT 2, 1, .inr (.inl fo)))] s.heap := hP
  have hl := lv_entry ([.ref h0, .int p0, .int p1, .int p2, .ref o9]) (n := 6) (Nat.le_of_ble_eq_true rfl)
  rw [lg_entry_eq]
  generalize (lg_sl ([.ref h0, .int p0, .int p1, .int p2, .ref o9]) ++ List.replicate (6 - (lg_sl ([.ref h0, .int p0, .int p1, .int p2, .ref o9])).length) Slot.unset).toArray = ls at hl ⊢
  have hl : lv_has ls 6 [(0, .ref h0), (1, .int p0), (2, .int p1), (3, .int p2), (4, .ref o9)] := hl
  refine lv_aload hx hb dL_set_0 (lv_at hl 4 rfl) ?_
  refine lv_iconst (v := 0) hx hb dL_set_2 (by decide) ?_
  refine lv_aload_n hx hb dL_set_3 rfl (lv_at hl 0 rfl) ?_
  refine lv_iload_n hx hb dL_set_4 rfl (lv_at hl 1 rfl) ?_
  refine lv_iload_n hx hb dL_set_5 rfl (lv_at hl 2 rfl) ?_
  refine lv_iload_n hx hb dL_set_6 rfl (lv_at hl 3 rfl) ?_
  have hF := va_free (wc := [(h0, .inr (11, [.ref x_studio, .ref x_script, .ref x_teller, .ref x_planner, .ref x_plan, .ref x_drifts, .ref x_floor, .ref x_trial, .ref x_tape, .int 0, .int (-1)])), (x_studio, .inr (8, [.ref s_puppets, .int 0, .ref s_shots, .int 0, .ref s_sounds, .ref s_rates, .ref s_dresses])), (s_shots, .inl (cT 5, 12, .inr (.inr (.inr (.inr (fun _ => none)))))), (s_rates, .inl (cT 0, 3, .inl fra)), (s_dresses, .inl (cT 0, 8, .inl fdr))]) hD hS hA [0, 1, 2, 3, 4] rfl
  refine vx_calli (vx_runV (As := [.int p0, .int p1, .int p2]) (rest := [.int 0, .ref o9]) ⟨hx, hb, hml, hown, hts⟩ (c_X11_set l hst D cT h0 p0 p1 p2 x_studio x_script x_teller x_planner x_plan x_drifts x_floor x_trial x_tape s_puppets s_shots s_sounds s_rates s_dresses fra fdr _ (by assumption) (by assumption)) (cwV 3 hts gL_set_X11_set rfl rfl rfl (by decide +kernel) ⟨Nat.le_of_ble_eq_true rfl, Nat.le_of_ble_eq_true rfl⟩) (pv_z hP hD hK hG hZ hS hF [0, 1, 2, 3, 4] rfl rfl rfl 0 rfl rfl) rfl rfl hl.1 rfl (lv_room (Nat.le_of_ble_eq_true rfl)) dL_set_7 ⟨Nat.le_of_ble_eq_true rfl, Nat.le_of_ble_eq_true rfl⟩) hS (fun q _ h => hF q h) hF (fun q _ h => hF q h) (fun E ce q9 uu9 tt9 H locs ht hvm hw hB hz1 hk1 hS hq9 hv9 hc9 => ?_) (fun r_1 uu9 tt9 H locs ht hvm wr_1 hB hz1 hk1 hS => ?_)
  · obtain ⟨rfl, hpx⟩ := hB
    refine vx_widen (k := 1) (n := 6) (Nat.le_of_ble_eq_true rfl) (Nat.le_of_ble_eq_true rfl) ?_
    refine vx_catch (E := "java/lang/IllegalArgumentException") (name := "java/lang/IllegalArgumentException") hown [] ⟨0, 12, 15, 15⟩ [] htb (fun z hz => nomatch hz) (by decide) (by decide) (hts (.classLink RL 15 "java/lang/IllegalArgumentException") (List.mem_of_getElem? (i := 1) (by decide +kernel))) (gwB_any hG (Cond.castable "java/lang/IllegalArgumentException" "java/lang/IllegalArgumentException") (by decide +kernel)) hq9 hv9 hc9 ?_
    obtain ⟨hP, hD⟩ := va_join (wr := [(o9, .inl (cT 2, 1, .inr (.inl fo)))]) (w1 := []) hP hD [0, 1, 2, 3, 4] [5] rfl rfl (by decide) (by decide) hk1 hF vp_nil vd_nil
    have hP : va_P D vwCl [(o9, .inl (cT 2, 1, .inr (.inl fo)))] _ := hP
    have hD : va_D A [(o9, .inl (cT 2, 1, .inr (.inl fo)))] := hD
    refine W.eq (g2 := F0 m 15 ls [.ref q9]) rfl ?_
    refine lv_astore (lv' := [(5, .ref q9), (0, .ref h0), (1, .int p0), (2, .int p1), (3, .int p2), (4, .ref o9)]) hx hb dL_set_15 hl (by decide) rfl (fun ls hl => ?_)
    refine lv_iconst (v := 1) hx hb dL_set_17 (by decide) ?_
    have hP9 := hP.sub (ws' := [(o9, .inl (cT 2, 1, .inr (.inl fo)))]) [0] rfl
    have hD9 := hD.sub (ws' := [(o9, .inl (cT 2, 1, .inr (.inl fo)))]) [0] (by decide) rfl
    exact W.iret (v := 1) hx hb hr (fun t ht hW => ⟨⟨1, (), rfl, hpx.symm, ⟨fo, fun h => absurd (hpx.symm.trans h) (by decide), by rw [ht]; exact hP9, hD9⟩⟩, hS.F ht⟩) hS.2.2 dL_set_18
  · obtain ⟨hP, hD⟩ := va_join (wr := [(o9, .inl (cT 2, 1, .inr (.inl fo)))]) (w1 := []) hP hD [0, 1, 2, 3, 4] [5] rfl rfl (by decide) (by decide) hk1 hF vp_nil vd_nil
    have hP : va_P D vwCl [(o9, .inl (cT 2, 1, .inr (.inl fo)))] _ := hP
    have hD : va_D A [(o9, .inl (cT 2, 1, .inr (.inl fo)))] := hD
    refine W.widen (k := 1) (n := 6) (Nat.le_of_ble_eq_true rfl) (Nat.le_of_ble_eq_true rfl) ?_
    obtain ⟨j_2, ej_2⟩ : ∃ y : Int64, y = (r_1).toInt64 := ⟨_, rfl⟩
    refine lv_i2l (v := j_2) hx hb dL_set_10 ej_2.symm ?_
    refine va_last hx hb hK hP hD hS 0 2 rfl rfl (by unfold vp_in; decide) dL_set_11 (fun H locs hP hD hS => ?_)
    have hP : va_P D vwCl [(o9, .inl (cT 2, 1, .inr (.inl (vp_updL fo 0 j_2))))] _ := hP
    have hD : va_D A [(o9, .inl (cT 2, 1, .inr (.inl (vp_updL fo 0 j_2))))] := hD
    refine lv_goto (tgt := 19) hx hb dL_set_12 (by decide) ?_
    refine lv_iconst (v := 0) hx hb dL_set_19 (by decide) ?_
    have hP9 := hP.sub (ws' := [(o9, .inl (cT 2, 1, .inr (.inl (vp_updL fo 0 j_2))))]) [0] rfl
    have hD9 := hD.sub (ws' := [(o9, .inl (cT 2, 1, .inr (.inl (vp_updL fo 0 j_2))))]) [0] (by decide) rfl
    exact W.iret (v := 0) hx hb hr (fun t ht hW => ⟨⟨0, (), rfl, wr_1.1.symm, ⟨(vp_updL fo 0 j_2), fun _ => (if_pos rfl).trans (ej_2.trans (congrArg Int32.toInt64 wr_1.2)), by rw [ht]; exact hP9, hD9⟩⟩, hS.F ht⟩) hS.2.2 dL_set_20
theorem dL_wait_0 : decode cL_wait 0 = .ok (.aload_n 2, 1) := by decide +kernel
theorem dL_wait_1 : decode cL_wait 1 = .ok (.iconst 0, 1) := by decide +kernel
theorem dL_wait_12 : decode cL_wait 12 = .ok (.astore_n 3, 1) := by decide +kernel
theorem dL_wait_13 : decode cL_wait 13 = .ok (.iconst 1, 1) := by decide +kernel
theorem dL_wait_14 : decode cL_wait 14 = .ok (.ireturn, 1) := by decide +kernel
theorem dL_wait_15 : decode cL_wait 15 = .ok (.iconst 0, 1) := by decide +kernel
theorem dL_wait_16 : decode cL_wait 16 = .ok (.ireturn, 1) := by decide +kernel
theorem dL_wait_2 : decode cL_wait 2 = .ok (.aload_n 0, 1) := by decide +kernel
theorem dL_wait_3 : decode cL_wait 3 = .ok (.iload_n 1, 1) := by decide +kernel
theorem dL_wait_4 : decode cL_wait 4 = .ok (.invokevirtual 88, 3) := by decide +kernel
theorem dL_wait_7 : decode cL_wait 7 = .ok (.i2l, 1) := by decide +kernel
theorem dL_wait_8 : decode cL_wait 8 = .ok (.lastore, 1) := by decide +kernel
theorem dL_wait_9 : decode cL_wait 9 = .ok (.goto 6, 3) := by decide +kernel
set_option maxRecDepth 20000 in
theorem ggL_wait_X11_wait : GoodIn wsL_wait wsX11_wait := goodIn_ca (goodIn_r _ [6, 7, 8, 9, 10, 5, 11, 12, 13, 14, 15, 16, 17, 18, 19, 20, 21, 22, 23, 24, 25, 26, 27, 28, 29, 30, 31, 32, 33, 34, 35, 36, 37, 38, 39, 40, 41, 42, 43, 44, 45] (by decide +kernel) (by decide +kernel)) (goodIn_sub (fun _ h => List.mem_cons_of_mem _ (List.mem_append_right _ h)) (by decide +kernel))
set_option maxRecDepth 20000 in
theorem gL_wait_X11_wait : GoodIn wsL_wait (wsV RL 88 RX11 yX11_wait wsX11_wait) := goodIn_app (goodIn_of _ (by decide +kernel)) ggL_wait_X11_wait
set_option maxHeartbeats 4000000 in
set_option maxRecDepth 100000 in
theorem c_L_wait (l : Launch) (hst : l.stackTraces = false) (D : va_G) (cT : Nat → ClassId) (h0 : Nat) (p0 : Int32) (o9 : Nat) (x_studio : Nat) (x_script : Nat) (x_teller : Nat) (x_planner : Nat) (x_plan : Nat) (x_drifts : Nat) (x_floor : Nat) (x_trial : Nat) (x_tape : Nat) (f_studio : Nat) (f_taken : Nat) (f_on : Nat) (f_queues : Nat) (f_queued : Nat) (f_engaged : Nat) (f_dressing : Nat) (f_dressed : Nat) (f_standing : Nat) (f_stations : Nat) (f_limits : Nat) (f_worked : Nat) (fo : Nat → Int64) (sz : Nat)  : Met l yL_wait wsL_wait ({ frames := 10, cells := 1, slots := 6, locals := 280 }) (va_Pc [.ref h0, .int p0, .ref o9] (PZ D cT [(h0, .inr (11, [.ref x_studio, .ref x_script, .ref x_teller, .ref x_planner, .ref x_plan, .ref x_drifts, .ref x_floor, .ref x_trial, .ref x_tape, .int 0, .int (-1)])), (x_floor, .inr (1, [.ref f_studio, .int 1, .int 0, .ref f_taken, .ref f_on, .ref f_queues, .ref f_queued, .ref f_engaged, .ref f_dressing, .ref f_dressed, .ref f_standing, .ref f_stations, .int 0, .ref f_limits, .ref f_worked, .int 0, .int 0, .int 0])), (o9, .inl (cT 2, 1, .inr (.inl fo)))] sz)) (va_Qi (fun (r : Int32) (_ : Unit) => r = th_wait p0) (fun (_ : Unit) (t : State) => ∃ (go : Nat → Int64), (th_wait p0 = 0 → go 0 = Int32.toInt64 (p0)) ∧ va_P D vwCl [(o9, .inl (cT 2, 1, .inr (.inl go)))] t.heap ∧ va_D (va_A [(h0, .inr (11, [.ref x_studio, .ref x_script, .ref x_teller, .ref x_planner, .ref x_plan, .ref x_drifts, .ref x_floor, .ref x_trial, .ref x_tape, .int 0, .int (-1)])), (x_floor, .inr (1, [.ref f_studio, .int 1, .int 0, .ref f_taken, .ref f_on, .ref f_queues, .ref f_queued, .ref f_engaged, .ref f_dressing, .ref f_dressed, .ref f_standing, .ref f_stations, .int 0, .ref f_limits, .ref f_worked, .int 0, .int 0, .int 0])), (o9, .inl (cT 2, 1, .inr (.inl fo)))] sz) [(o9, .inl (cT 2, 1, .inr (.inl go)))]) (va_A [(h0, .inr (11, [.ref x_studio, .ref x_script, .ref x_teller, .ref x_planner, .ref x_plan, .ref x_drifts, .ref x_floor, .ref x_trial, .ref x_tape, .int 0, .int (-1)])), (x_floor, .inr (1, [.ref f_studio, .int 1, .int 0, .ref f_taken, .ref f_on, .ref f_queues, .ref f_queued, .ref f_engaged, .ref f_dressing, .ref f_dressed, .ref f_standing, .ref f_stations, .int 0, .ref f_limits, .ref f_worked, .int 0, .int 0, .int 0])), (o9, .inl (cT 2, 1, .inr (.inl fo)))] sz)) 1 6 (va_A [(h0, .inr (11, [.ref x_studio, .ref x_script, .ref x_teller, .ref x_planner, .ref x_plan, .ref x_drifts, .ref x_floor, .ref x_trial, .ref x_tape, .int 0, .int (-1)])), (x_floor, .inr (1, [.ref f_studio, .int 1, .int 0, .ref f_taken, .ref f_on, .ref f_queues, .ref f_queued, .ref f_engaged, .ref f_dressing, .ref f_dressed, .ref f_standing, .ref f_stations, .int 0, .ref f_limits, .ref f_worked, .int 0, .int 0, .int 0])), (o9, .inl (cT 2, 1, .inr (.inl fo)))] sz) := by
  refine va_MetW (cc := cL_wait) (maxL := 4) (ret := (some .int)) (by decide) rfl ?_
  intro p e s m args below meth c s₁ B hml hv
  obtain ⟨rfl, ⟨hsz, hP, hK, hD0, hG⟩, hZ⟩ := hv
  have hx := B.exec
  have hb := B.bytes
  have hr := B.returns
  have hts := atoms_spec (ws := wsL_wait) B.pre
  have hown : s.vm.findClass RL = some m.cls := findClass_of_methodNamed B.named
  have hlocks := B.notSynchronized
  have htb := vx_table (x := yL_wait) B (hts _ List.mem_cons_self)
  subst hsz
  have hD := hD0.self (sz := s.heap.size)
  generalize hAe : va_A [(h0, .inr (11, [.ref x_studio, .ref x_script, .ref x_teller, .ref x_planner, .ref x_plan, .ref x_drifts, .ref x_floor, .ref x_trial, .ref x_tape, .int 0, .int (-1)])), (x_floor, .inr (1, [.ref f_studio, .int 1, .int 0, .ref f_taken, .ref f_on, .ref f_queues, .ref f_queued, .ref f_engaged, .ref f_dressing, .ref f_dressed, .ref f_standing, .ref f_stations, .int 0, .ref f_limits, .ref f_worked, .int 0, .int 0, .int 0])), (o9, .inl (cT 2, 1, .inr (.inl fo)))] s.heap.size = A at hD hZ ⊢
  have hA : ∀ q : Nat, s.heap.size ≤ q → A q := fun q h => by rw [← hAe]; exact Or.inr h
  have hS : va_S A s.heap s.heap [] := va_S.rf
  have hP : va_P D vwCl [(h0, .inr (11, [.ref x_studio, .ref x_script, .ref x_teller, .ref x_planner, .ref x_plan, .ref x_drifts, .ref x_floor, .ref x_trial, .ref x_tape, .int 0, .int (-1)])), (x_floor, .inr (1, [.ref f_studio, .int 1, .int 0, .ref f_taken, .ref f_on, .ref f_queues, .ref f_queued, .ref f_engaged, .ref f_dressing, .ref f_dressed, .ref f_standing, .ref f_stations, .int 0, .ref f_limits, .ref f_worked, .int 0, .int 0, .int 0])), (o9, .inl (cT 2, 1, .inr (.inl fo)))] s.heap := hP
  have hl := lv_entry ([.ref h0, .int p0, .ref o9]) (n := 4) (Nat.le_of_ble_eq_true rfl)
  rw [lg_entry_eq]
  generalize (lg_sl ([.ref h0, .int p0, .ref o9]) ++ List.replicate (4 - (lg_sl ([.ref h0, .int p0, .ref o9])).length) Slot.unset).toArray = ls at hl ⊢
  have hl : lv_has ls 4 [(0, .ref h0), (1, .int p0), (2, .ref o9)] := hl
  refine lv_aload_n hx hb dL_wait_0 rfl (lv_at hl 2 rfl) ?_
  refine lv_iconst (v := 0) hx hb dL_wait_1 (by decide) ?_
  refine lv_aload_n hx hb dL_wait_2 rfl (lv_at hl 0 rfl) ?_
  refine lv_iload_n hx hb dL_wait_3 rfl (lv_at hl 1 rfl) ?_
  have hF := va_free (wc := [(h0, .inr (11, [.ref x_studio, .ref x_script, .ref x_teller, .ref x_planner, .ref x_plan, .ref x_drifts, .ref x_floor, .ref x_trial, .ref x_tape, .int 0, .int (-1)])), (x_floor, .inr (1, [.ref f_studio, .int 1, .int 0, .ref f_taken, .ref f_on, .ref f_queues, .ref f_queued, .ref f_engaged, .ref f_dressing, .ref f_dressed, .ref f_standing, .ref f_stations, .int 0, .ref f_limits, .ref f_worked, .int 0, .int 0, .int 0]))]) hD hS hA [0, 1] rfl
  refine vx_calli (vx_runV (As := [.int p0]) (rest := [.int 0, .ref o9]) ⟨hx, hb, hml, hown, hts⟩ (c_X11_wait l hst D cT h0 p0 x_studio x_script x_teller x_planner x_plan x_drifts x_floor x_trial x_tape f_studio f_taken f_on f_queues f_queued f_engaged f_dressing f_dressed f_standing f_stations f_limits f_worked _ ) (cwV 1 hts gL_wait_X11_wait rfl rfl rfl (by decide +kernel) ⟨Nat.le_of_ble_eq_true rfl, Nat.le_of_ble_eq_true rfl⟩) (pv_z hP hD hK hG hZ hS hF [0, 1] rfl rfl rfl 0 rfl rfl) rfl rfl hl.1 rfl (lv_room (Nat.le_of_ble_eq_true rfl)) dL_wait_4 ⟨Nat.le_of_ble_eq_true rfl, Nat.le_of_ble_eq_true rfl⟩) hS (fun q _ h => hF q h) hF (fun q _ h => hF q h) (fun E ce q9 uu9 tt9 H locs ht hvm hw hB hz1 hk1 hS hq9 hv9 hc9 => ?_) (fun r_1 uu9 tt9 H locs ht hvm wr_1 hB hz1 hk1 hS => ?_)
  · obtain ⟨rfl, hpx⟩ := hB
    refine vx_widen (k := 1) (n := 6) (Nat.le_of_ble_eq_true rfl) (Nat.le_of_ble_eq_true rfl) ?_
    refine vx_catch (E := "java/lang/IllegalArgumentException") (name := "java/lang/IllegalArgumentException") hown [] ⟨0, 9, 12, 15⟩ [] htb (fun z hz => nomatch hz) (by decide) (by decide) (hts (.classLink RL 15 "java/lang/IllegalArgumentException") (List.mem_of_getElem? (i := 1) (by decide +kernel))) (gwB_any hG (Cond.castable "java/lang/IllegalArgumentException" "java/lang/IllegalArgumentException") (by decide +kernel)) hq9 hv9 hc9 ?_
    obtain ⟨hP, hD⟩ := va_join (wr := [(o9, .inl (cT 2, 1, .inr (.inl fo)))]) (w1 := []) hP hD [0, 1] [2] rfl rfl (by decide) (by decide) hk1 hF vp_nil vd_nil
    have hP : va_P D vwCl [(o9, .inl (cT 2, 1, .inr (.inl fo)))] _ := hP
    have hD : va_D A [(o9, .inl (cT 2, 1, .inr (.inl fo)))] := hD
    refine W.eq (g2 := F0 m 12 ls [.ref q9]) rfl ?_
    refine lv_astore_n (lv' := [(3, .ref q9), (0, .ref h0), (1, .int p0), (2, .ref o9)]) hx hb dL_wait_12 rfl hl (by decide) rfl (fun ls hl => ?_)
    refine lv_iconst (v := 1) hx hb dL_wait_13 (by decide) ?_
    have hP9 := hP.sub (ws' := [(o9, .inl (cT 2, 1, .inr (.inl fo)))]) [0] rfl
    have hD9 := hD.sub (ws' := [(o9, .inl (cT 2, 1, .inr (.inl fo)))]) [0] (by decide) rfl
    exact W.iret (v := 1) hx hb hr (fun t ht hW => ⟨⟨1, (), rfl, hpx.symm, ⟨fo, fun h => absurd (hpx.symm.trans h) (by decide), by rw [ht]; exact hP9, hD9⟩⟩, hS.F ht⟩) hS.2.2 dL_wait_14
  · obtain ⟨hP, hD⟩ := va_join (wr := [(o9, .inl (cT 2, 1, .inr (.inl fo)))]) (w1 := []) hP hD [0, 1] [2] rfl rfl (by decide) (by decide) hk1 hF vp_nil vd_nil
    have hP : va_P D vwCl [(o9, .inl (cT 2, 1, .inr (.inl fo)))] _ := hP
    have hD : va_D A [(o9, .inl (cT 2, 1, .inr (.inl fo)))] := hD
    refine W.widen (k := 1) (n := 6) (Nat.le_of_ble_eq_true rfl) (Nat.le_of_ble_eq_true rfl) ?_
    obtain ⟨j_2, ej_2⟩ : ∃ y : Int64, y = (r_1).toInt64 := ⟨_, rfl⟩
    refine lv_i2l (v := j_2) hx hb dL_wait_7 ej_2.symm ?_
    refine va_last hx hb hK hP hD hS 0 2 rfl rfl (by unfold vp_in; decide) dL_wait_8 (fun H locs hP hD hS => ?_)
    have hP : va_P D vwCl [(o9, .inl (cT 2, 1, .inr (.inl (vp_updL fo 0 j_2))))] _ := hP
    have hD : va_D A [(o9, .inl (cT 2, 1, .inr (.inl (vp_updL fo 0 j_2))))] := hD
    refine lv_goto (tgt := 15) hx hb dL_wait_9 (by decide) ?_
    refine lv_iconst (v := 0) hx hb dL_wait_15 (by decide) ?_
    have hP9 := hP.sub (ws' := [(o9, .inl (cT 2, 1, .inr (.inl (vp_updL fo 0 j_2))))]) [0] rfl
    have hD9 := hD.sub (ws' := [(o9, .inl (cT 2, 1, .inr (.inl (vp_updL fo 0 j_2))))]) [0] (by decide) rfl
    exact W.iret (v := 0) hx hb hr (fun t ht hW => ⟨⟨0, (), rfl, wr_1.1.symm, ⟨(vp_updL fo 0 j_2), fun _ => (if_pos rfl).trans (ej_2.trans (congrArg Int32.toInt64 wr_1.2)), by rw [ht]; exact hP9, hD9⟩⟩, hS.F ht⟩) hS.2.2 dL_wait_16
theorem dL_animator_0 : decode cL_animator 0 = .ok (.aload_n 2, 1) := by decide +kernel
theorem dL_animator_1 : decode cL_animator 1 = .ok (.iconst 0, 1) := by decide +kernel
theorem dL_animator_12 : decode cL_animator 12 = .ok (.astore_n 3, 1) := by decide +kernel
theorem dL_animator_13 : decode cL_animator 13 = .ok (.iconst 1, 1) := by decide +kernel
theorem dL_animator_14 : decode cL_animator 14 = .ok (.ireturn, 1) := by decide +kernel
theorem dL_animator_15 : decode cL_animator 15 = .ok (.iconst 0, 1) := by decide +kernel
theorem dL_animator_16 : decode cL_animator 16 = .ok (.ireturn, 1) := by decide +kernel
theorem dL_animator_2 : decode cL_animator 2 = .ok (.aload_n 0, 1) := by decide +kernel
theorem dL_animator_3 : decode cL_animator 3 = .ok (.iload_n 1, 1) := by decide +kernel
theorem dL_animator_4 : decode cL_animator 4 = .ok (.invokevirtual 113, 3) := by decide +kernel
theorem dL_animator_7 : decode cL_animator 7 = .ok (.i2l, 1) := by decide +kernel
theorem dL_animator_8 : decode cL_animator 8 = .ok (.lastore, 1) := by decide +kernel
theorem dL_animator_9 : decode cL_animator 9 = .ok (.goto 6, 3) := by decide +kernel
set_option maxRecDepth 20000 in
theorem ggL_animator_X11_animator : GoodIn wsL_animator wsX11_animator := goodIn_ca (goodIn_r _ [6, 7, 8, 9, 5, 10, 11, 12, 13, 14, 15, 16, 17, 18, 19, 20, 21, 22, 23, 24, 25, 26, 27, 28, 29, 30, 31, 32, 33, 34, 35, 36, 37, 38, 39, 40, 41, 42, 43, 44, 45, 46, 47, 48, 49, 50, 51] (by decide +kernel) (by decide +kernel)) (goodIn_sub (fun _ h => List.mem_cons_of_mem _ (List.mem_append_right _ h)) (by decide +kernel))
set_option maxRecDepth 20000 in
theorem gL_animator_X11_animator : GoodIn wsL_animator (wsV RL 113 RX11 yX11_animator wsX11_animator) := goodIn_app (goodIn_of _ (by decide +kernel)) ggL_animator_X11_animator
set_option maxHeartbeats 4000000 in
set_option maxRecDepth 100000 in
theorem c_L_animator (l : Launch) (hst : l.stackTraces = false) (D : va_G) (cT : Nat → ClassId) (h0 : Nat) (p0 : Int32) (o9 : Nat) (x_studio : Nat) (x_script : Nat) (x_teller : Nat) (x_planner : Nat) (x_plan : Nat) (x_drifts : Nat) (x_floor : Nat) (x_trial : Nat) (x_tape : Nat) (f_studio : Nat) (f_taken : Nat) (f_on : Nat) (f_queues : Nat) (f_queued : Nat) (f_engaged : Nat) (f_dressing : Nat) (f_dressed : Nat) (f_standing : Nat) (f_stations : Nat) (f_limits : Nat) (f_worked : Nat) (fo : Nat → Int64) (sz : Nat)  : Met l yL_animator wsL_animator ({ frames := 10, cells := 1, slots := 6, locals := 280 }) (va_Pc [.ref h0, .int p0, .ref o9] (PZ D cT [(h0, .inr (11, [.ref x_studio, .ref x_script, .ref x_teller, .ref x_planner, .ref x_plan, .ref x_drifts, .ref x_floor, .ref x_trial, .ref x_tape, .int 0, .int (-1)])), (x_floor, .inr (1, [.ref f_studio, .int 1, .int 0, .ref f_taken, .ref f_on, .ref f_queues, .ref f_queued, .ref f_engaged, .ref f_dressing, .ref f_dressed, .ref f_standing, .ref f_stations, .int 0, .ref f_limits, .ref f_worked, .int 0, .int 0, .int 0])), (f_limits, .inl (cT 0, 6, .inl (fun _ => 0))), (o9, .inl (cT 2, 1, .inr (.inl fo)))] sz)) (va_Qi (fun (r : Int32) (_ : Unit) => r = th_anim p0) (fun (_ : Unit) (t : State) => ∃ (go : Nat → Int64), (th_anim p0 = 0 → go 0 = Int32.toInt64 (0)) ∧ va_P D vwCl [(o9, .inl (cT 2, 1, .inr (.inl go)))] t.heap ∧ va_D (va_A [(h0, .inr (11, [.ref x_studio, .ref x_script, .ref x_teller, .ref x_planner, .ref x_plan, .ref x_drifts, .ref x_floor, .ref x_trial, .ref x_tape, .int 0, .int (-1)])), (x_floor, .inr (1, [.ref f_studio, .int 1, .int 0, .ref f_taken, .ref f_on, .ref f_queues, .ref f_queued, .ref f_engaged, .ref f_dressing, .ref f_dressed, .ref f_standing, .ref f_stations, .int 0, .ref f_limits, .ref f_worked, .int 0, .int 0, .int 0])), (f_limits, .inl (cT 0, 6, .inl (fun _ => 0))), (o9, .inl (cT 2, 1, .inr (.inl fo)))] sz) [(o9, .inl (cT 2, 1, .inr (.inl go)))]) (va_A [(h0, .inr (11, [.ref x_studio, .ref x_script, .ref x_teller, .ref x_planner, .ref x_plan, .ref x_drifts, .ref x_floor, .ref x_trial, .ref x_tape, .int 0, .int (-1)])), (x_floor, .inr (1, [.ref f_studio, .int 1, .int 0, .ref f_taken, .ref f_on, .ref f_queues, .ref f_queued, .ref f_engaged, .ref f_dressing, .ref f_dressed, .ref f_standing, .ref f_stations, .int 0, .ref f_limits, .ref f_worked, .int 0, .int 0, .int 0])), (f_limits, .inl (cT 0, 6, .inl (fun _ => 0))), (o9, .inl (cT 2, 1, .inr (.inl fo)))] sz)) 1 6 (va_A [(h0, .inr (11, [.ref x_studio, .ref x_script, .ref x_teller, .ref x_planner, .ref x_plan, .ref x_drifts, .ref x_floor, .ref x_trial, .ref x_tape, .int 0, .int (-1)])), (x_floor, .inr (1, [.ref f_studio, .int 1, .int 0, .ref f_taken, .ref f_on, .ref f_queues, .ref f_queued, .ref f_engaged, .ref f_dressing, .ref f_dressed, .ref f_standing, .ref f_stations, .int 0, .ref f_limits, .ref f_worked, .int 0, .int 0, .int 0])), (f_limits, .inl (cT 0, 6, .inl (fun _ => 0))), (o9, .inl (cT 2, 1, .inr (.inl fo)))] sz) := by
  refine va_MetW (cc := cL_animator) (maxL := 4) (ret := (some .int)) (by decide) rfl ?_
  intro p e s m args below meth c s₁ B hml hv
  obtain ⟨rfl, ⟨hsz, hP, hK, hD0, hG⟩, hZ⟩ := hv
  have hx := B.exec
  have hb := B.bytes
  have hr := B.returns
  have hts := atoms_spec (ws := wsL_animator) B.pre
  have hown : s.vm.findClass RL = some m.cls := findClass_of_methodNamed B.named
  have hlocks := B.notSynchronized
  have htb := vx_table (x := yL_animator) B (hts _ List.mem_cons_self)
  subst hsz
  have hD := hD0.self (sz := s.heap.size)
  generalize hAe : va_A [(h0, .inr (11, [.ref x_studio, .ref x_script, .ref x_teller, .ref x_planner, .ref x_plan, .ref x_drifts, .ref x_floor, .ref x_trial, .ref x_tape, .int 0, .int (-1)])), (x_floor, .inr (1, [.ref f_studio, .int 1, .int 0, .ref f_taken, .ref f_on, .ref f_queues, .ref f_queued, .ref f_engaged, .ref f_dressing, .ref f_dressed, .ref f_standing, .ref f_stations, .int 0, .ref f_limits, .ref f_worked, .int 0, .int 0, .int 0])), (f_limits, .inl (cT 0, 6, .inl (fun _ => 0))), (o9, .inl (cT 2, 1, .inr (.inl fo)))] s.heap.size = A at hD hZ ⊢
  have hA : ∀ q : Nat, s.heap.size ≤ q → A q := fun q h => by rw [← hAe]; exact Or.inr h
  have hS : va_S A s.heap s.heap [] := va_S.rf
  have hP : va_P D vwCl [(h0, .inr (11, [.ref x_studio, .ref x_script, .ref x_teller, .ref x_planner, .ref x_plan, .ref x_drifts, .ref x_floor, .ref x_trial, .ref x_tape, .int 0, .int (-1)])), (x_floor, .inr (1, [.ref f_studio, .int 1, .int 0, .ref f_taken, .ref f_on, .ref f_queues, .ref f_queued, .ref f_engaged, .ref f_dressing, .ref f_dressed, .ref f_standing, .ref f_stations, .int 0, .ref f_limits, .ref f_worked, .int 0, .int 0, .int 0])), (f_limits, .inl (cT 0, 6, .inl (fun _ => 0))), (o9, .inl (cT 2, 1, .inr (.inl fo)))] s.heap := hP
  have hl := lv_entry ([.ref h0, .int p0, .ref o9]) (n := 4) (Nat.le_of_ble_eq_true rfl)
  rw [lg_entry_eq]
  generalize (lg_sl ([.ref h0, .int p0, .ref o9]) ++ List.replicate (4 - (lg_sl ([.ref h0, .int p0, .ref o9])).length) Slot.unset).toArray = ls at hl ⊢
  have hl : lv_has ls 4 [(0, .ref h0), (1, .int p0), (2, .ref o9)] := hl
  refine lv_aload_n hx hb dL_animator_0 rfl (lv_at hl 2 rfl) ?_
  refine lv_iconst (v := 0) hx hb dL_animator_1 (by decide) ?_
  refine lv_aload_n hx hb dL_animator_2 rfl (lv_at hl 0 rfl) ?_
  refine lv_iload_n hx hb dL_animator_3 rfl (lv_at hl 1 rfl) ?_
  have hF := va_free (wc := [(h0, .inr (11, [.ref x_studio, .ref x_script, .ref x_teller, .ref x_planner, .ref x_plan, .ref x_drifts, .ref x_floor, .ref x_trial, .ref x_tape, .int 0, .int (-1)])), (x_floor, .inr (1, [.ref f_studio, .int 1, .int 0, .ref f_taken, .ref f_on, .ref f_queues, .ref f_queued, .ref f_engaged, .ref f_dressing, .ref f_dressed, .ref f_standing, .ref f_stations, .int 0, .ref f_limits, .ref f_worked, .int 0, .int 0, .int 0])), (f_limits, .inl (cT 0, 6, .inl (fun _ => 0)))]) hD hS hA [0, 1, 2] rfl
  refine vx_calli (vx_runV (As := [.int p0]) (rest := [.int 0, .ref o9]) ⟨hx, hb, hml, hown, hts⟩ (c_X11_animator l hst D cT h0 p0 x_studio x_script x_teller x_planner x_plan x_drifts x_floor x_trial x_tape f_studio f_taken f_on f_queues f_queued f_engaged f_dressing f_dressed f_standing f_stations f_limits f_worked _ ) (cwV 1 hts gL_animator_X11_animator rfl rfl rfl (by decide +kernel) ⟨Nat.le_of_ble_eq_true rfl, Nat.le_of_ble_eq_true rfl⟩) (pv_z hP hD hK hG hZ hS hF [0, 1, 2] rfl rfl rfl 0 rfl rfl) rfl rfl hl.1 rfl (lv_room (Nat.le_of_ble_eq_true rfl)) dL_animator_4 ⟨Nat.le_of_ble_eq_true rfl, Nat.le_of_ble_eq_true rfl⟩) hS (fun q _ h => hF q h) hF (fun q _ h => hF q h) (fun E ce q9 uu9 tt9 H locs ht hvm hw hB hz1 hk1 hS hq9 hv9 hc9 => ?_) (fun r_1 uu9 tt9 H locs ht hvm wr_1 hB hz1 hk1 hS => ?_)
  · obtain ⟨rfl, hpx⟩ := hB
    refine vx_widen (k := 1) (n := 6) (Nat.le_of_ble_eq_true rfl) (Nat.le_of_ble_eq_true rfl) ?_
    refine vx_catch (E := "java/lang/IllegalArgumentException") (name := "java/lang/IllegalArgumentException") hown [] ⟨0, 9, 12, 15⟩ [] htb (fun z hz => nomatch hz) (by decide) (by decide) (hts (.classLink RL 15 "java/lang/IllegalArgumentException") (List.mem_of_getElem? (i := 1) (by decide +kernel))) (gwB_any hG (Cond.castable "java/lang/IllegalArgumentException" "java/lang/IllegalArgumentException") (by decide +kernel)) hq9 hv9 hc9 ?_
    obtain ⟨hP, hD⟩ := va_join (wr := [(o9, .inl (cT 2, 1, .inr (.inl fo)))]) (w1 := []) hP hD [0, 1, 2] [3] rfl rfl (by decide) (by decide) hk1 hF vp_nil vd_nil
    have hP : va_P D vwCl [(o9, .inl (cT 2, 1, .inr (.inl fo)))] _ := hP
    have hD : va_D A [(o9, .inl (cT 2, 1, .inr (.inl fo)))] := hD
    refine W.eq (g2 := F0 m 12 ls [.ref q9]) rfl ?_
    refine lv_astore_n (lv' := [(3, .ref q9), (0, .ref h0), (1, .int p0), (2, .ref o9)]) hx hb dL_animator_12 rfl hl (by decide) rfl (fun ls hl => ?_)
    refine lv_iconst (v := 1) hx hb dL_animator_13 (by decide) ?_
    have hP9 := hP.sub (ws' := [(o9, .inl (cT 2, 1, .inr (.inl fo)))]) [0] rfl
    have hD9 := hD.sub (ws' := [(o9, .inl (cT 2, 1, .inr (.inl fo)))]) [0] (by decide) rfl
    exact W.iret (v := 1) hx hb hr (fun t ht hW => ⟨⟨1, (), rfl, hpx.symm, ⟨fo, fun h => absurd (hpx.symm.trans h) (by decide), by rw [ht]; exact hP9, hD9⟩⟩, hS.F ht⟩) hS.2.2 dL_animator_14
  · obtain ⟨hP, hD⟩ := va_join (wr := [(o9, .inl (cT 2, 1, .inr (.inl fo)))]) (w1 := []) hP hD [0, 1, 2] [3] rfl rfl (by decide) (by decide) hk1 hF vp_nil vd_nil
    have hP : va_P D vwCl [(o9, .inl (cT 2, 1, .inr (.inl fo)))] _ := hP
    have hD : va_D A [(o9, .inl (cT 2, 1, .inr (.inl fo)))] := hD
    refine W.widen (k := 1) (n := 6) (Nat.le_of_ble_eq_true rfl) (Nat.le_of_ble_eq_true rfl) ?_
    obtain ⟨j_2, ej_2⟩ : ∃ y : Int64, y = (r_1).toInt64 := ⟨_, rfl⟩
    refine lv_i2l (v := j_2) hx hb dL_animator_7 ej_2.symm ?_
    refine va_last hx hb hK hP hD hS 0 2 rfl rfl (by unfold vp_in; decide) dL_animator_8 (fun H locs hP hD hS => ?_)
    have hP : va_P D vwCl [(o9, .inl (cT 2, 1, .inr (.inl (vp_updL fo 0 j_2))))] _ := hP
    have hD : va_D A [(o9, .inl (cT 2, 1, .inr (.inl (vp_updL fo 0 j_2))))] := hD
    refine lv_goto (tgt := 15) hx hb dL_animator_9 (by decide) ?_
    refine lv_iconst (v := 0) hx hb dL_animator_15 (by decide) ?_
    have hP9 := hP.sub (ws' := [(o9, .inl (cT 2, 1, .inr (.inl (vp_updL fo 0 j_2))))]) [0] rfl
    have hD9 := hD.sub (ws' := [(o9, .inl (cT 2, 1, .inr (.inl (vp_updL fo 0 j_2))))]) [0] (by decide) rfl
    exact W.iret (v := 0) hx hb hr (fun t ht hW => ⟨⟨0, (), rfl, wr_1.1.symm, ⟨(vp_updL fo 0 j_2), fun _ => (if_pos rfl).trans (ej_2.trans (congrArg Int32.toInt64 wr_1.2)), by rw [ht]; exact hP9, hD9⟩⟩, hS.F ht⟩) hS.2.2 dL_animator_16
theorem dL_station_0 : decode cL_station 0 = .ok (.aload_n 3, 1) := by decide +kernel
theorem dL_station_1 : decode cL_station 1 = .ok (.iconst 0, 1) := by decide +kernel
theorem dL_station_10 : decode cL_station 10 = .ok (.goto 11, 3) := by decide +kernel
theorem dL_station_13 : decode cL_station 13 = .ok (.astore 4, 2) := by decide +kernel
theorem dL_station_15 : decode cL_station 15 = .ok (.iconst 1, 1) := by decide +kernel
theorem dL_station_16 : decode cL_station 16 = .ok (.ireturn, 1) := by decide +kernel
theorem dL_station_17 : decode cL_station 17 = .ok (.astore 4, 2) := by decide +kernel
theorem dL_station_19 : decode cL_station 19 = .ok (.iconst 2, 1) := by decide +kernel
theorem dL_station_2 : decode cL_station 2 = .ok (.aload_n 0, 1) := by decide +kernel
theorem dL_station_20 : decode cL_station 20 = .ok (.ireturn, 1) := by decide +kernel
theorem dL_station_21 : decode cL_station 21 = .ok (.iconst 0, 1) := by decide +kernel
theorem dL_station_22 : decode cL_station 22 = .ok (.ireturn, 1) := by decide +kernel
theorem dL_station_3 : decode cL_station 3 = .ok (.iload_n 1, 1) := by decide +kernel
theorem dL_station_4 : decode cL_station 4 = .ok (.iload_n 2, 1) := by decide +kernel
theorem dL_station_5 : decode cL_station 5 = .ok (.invokevirtual 116, 3) := by decide +kernel
theorem dL_station_8 : decode cL_station 8 = .ok (.i2l, 1) := by decide +kernel
theorem dL_station_9 : decode cL_station 9 = .ok (.lastore, 1) := by decide +kernel
set_option maxRecDepth 20000 in
theorem ggL_station_X11_station : GoodIn wsL_station wsX11_station := goodIn_ca (goodIn_ca (goodIn_r _ [7, 8, 9, 10, 11, 12, 6, 13, 14, 15, 16, 17, 18, 19, 20, 21, 22, 23, 24, 25, 26, 27, 28, 29, 30, 31, 32, 33, 34, 35, 36, 37, 38, 39, 40, 41, 42, 43, 44, 45, 46, 47, 48, 49, 50, 51, 52, 53, 54, 55] (by decide +kernel) (by decide +kernel)) (goodIn_sub (fun _ h => List.mem_cons_of_mem _ (List.mem_append_left _ (List.mem_append_right _ h))) (by decide +kernel))) (goodIn_sub (fun _ h => List.mem_cons_of_mem _ (List.mem_append_right _ h)) (by decide +kernel))
set_option maxRecDepth 20000 in
theorem gL_station_X11_station : GoodIn wsL_station (wsV RL 116 RX11 yX11_station wsX11_station) := goodIn_app (goodIn_of _ (by decide +kernel)) ggL_station_X11_station
set_option maxHeartbeats 4000000 in
set_option maxRecDepth 100000 in
theorem c_L_station (l : Launch) (hst : l.stackTraces = false) (D : va_G) (cT : Nat → ClassId) (h0 : Nat) (p0 : Int32) (p1 : Int32) (o9 : Nat) (x_studio : Nat) (x_script : Nat) (x_teller : Nat) (x_planner : Nat) (x_plan : Nat) (x_drifts : Nat) (x_floor : Nat) (x_trial : Nat) (x_tape : Nat) (f_studio : Nat) (f_taken : Nat) (f_on : Nat) (f_queues : Nat) (f_queued : Nat) (f_engaged : Nat) (f_dressing : Nat) (f_dressed : Nat) (f_standing : Nat) (f_stations : Nat) (f_limits : Nat) (f_worked : Nat) (fst : Nat → Int32) (fo : Nat → Int64) (sz : Nat) (hst9 : ∀ k, k < 3 → fst k = -1) : Met l yL_station wsL_station ({ frames := 11, cells := 2, slots := 12, locals := 340 }) (va_Pc [.ref h0, .int p0, .int p1, .ref o9] (PZ D cT [(h0, .inr (11, [.ref x_studio, .ref x_script, .ref x_teller, .ref x_planner, .ref x_plan, .ref x_drifts, .ref x_floor, .ref x_trial, .ref x_tape, .int 0, .int (-1)])), (x_floor, .inr (1, [.ref f_studio, .int 1, .int 0, .ref f_taken, .ref f_on, .ref f_queues, .ref f_queued, .ref f_engaged, .ref f_dressing, .ref f_dressed, .ref f_standing, .ref f_stations, .int 0, .ref f_limits, .ref f_worked, .int 0, .int 0, .int 0])), (f_stations, .inl (cT 0, 3, .inl fst)), (o9, .inl (cT 2, 1, .inr (.inl fo)))] sz)) (va_Qi (fun (r : Int32) (_ : Unit) => r = th_stat p0 p1) (fun (_ : Unit) (t : State) => ∃ (go : Nat → Int64), (th_stat p0 p1 = 0 → go 0 = Int32.toInt64 ((-1))) ∧ va_P D vwCl [(o9, .inl (cT 2, 1, .inr (.inl go)))] t.heap ∧ va_D (va_A [(h0, .inr (11, [.ref x_studio, .ref x_script, .ref x_teller, .ref x_planner, .ref x_plan, .ref x_drifts, .ref x_floor, .ref x_trial, .ref x_tape, .int 0, .int (-1)])), (x_floor, .inr (1, [.ref f_studio, .int 1, .int 0, .ref f_taken, .ref f_on, .ref f_queues, .ref f_queued, .ref f_engaged, .ref f_dressing, .ref f_dressed, .ref f_standing, .ref f_stations, .int 0, .ref f_limits, .ref f_worked, .int 0, .int 0, .int 0])), (f_stations, .inl (cT 0, 3, .inl fst)), (o9, .inl (cT 2, 1, .inr (.inl fo)))] sz) [(o9, .inl (cT 2, 1, .inr (.inl go)))]) (va_A [(h0, .inr (11, [.ref x_studio, .ref x_script, .ref x_teller, .ref x_planner, .ref x_plan, .ref x_drifts, .ref x_floor, .ref x_trial, .ref x_tape, .int 0, .int (-1)])), (x_floor, .inr (1, [.ref f_studio, .int 1, .int 0, .ref f_taken, .ref f_on, .ref f_queues, .ref f_queued, .ref f_engaged, .ref f_dressing, .ref f_dressed, .ref f_standing, .ref f_stations, .int 0, .ref f_limits, .ref f_worked, .int 0, .int 0, .int 0])), (f_stations, .inl (cT 0, 3, .inl fst)), (o9, .inl (cT 2, 1, .inr (.inl fo)))] sz)) 2 12 (va_A [(h0, .inr (11, [.ref x_studio, .ref x_script, .ref x_teller, .ref x_planner, .ref x_plan, .ref x_drifts, .ref x_floor, .ref x_trial, .ref x_tape, .int 0, .int (-1)])), (x_floor, .inr (1, [.ref f_studio, .int 1, .int 0, .ref f_taken, .ref f_on, .ref f_queues, .ref f_queued, .ref f_engaged, .ref f_dressing, .ref f_dressed, .ref f_standing, .ref f_stations, .int 0, .ref f_limits, .ref f_worked, .int 0, .int 0, .int 0])), (f_stations, .inl (cT 0, 3, .inl fst)), (o9, .inl (cT 2, 1, .inr (.inl fo)))] sz) := by
  refine va_MetW (cc := cL_station) (maxL := 5) (ret := (some .int)) (by decide) rfl ?_
  intro p e s m args below meth c s₁ B hml hv
  obtain ⟨rfl, ⟨hsz, hP, hK, hD0, hG⟩, hZ⟩ := hv
  have hx := B.exec
  have hb := B.bytes
  have hr := B.returns
  have hts := atoms_spec (ws := wsL_station) B.pre
  have hown : s.vm.findClass RL = some m.cls := findClass_of_methodNamed B.named
  have hlocks := B.notSynchronized
  have htb := vx_table (x := yL_station) B (hts _ List.mem_cons_self)
  subst hsz
  have hD := hD0.self (sz := s.heap.size)
  generalize hAe : va_A [(h0, .inr (11, [.ref x_studio, .ref x_script, .ref x_teller, .ref x_planner, .ref x_plan, .ref x_drifts, .ref x_floor, .ref x_trial, .ref x_tape, .int 0, .int (-1)])), (x_floor, .inr (1, [.ref f_studio, .int 1, .int 0, .ref f_taken, .ref f_on, .ref f_queues, .ref f_queued, .ref f_engaged, .ref f_dressing, .ref f_dressed, .ref f_standing, .ref f_stations, .int 0, .ref f_limits, .ref f_worked, .int 0, .int 0, .int 0])), (f_stations, .inl (cT 0, 3, .inl fst)), (o9, .inl (cT 2, 1, .inr (.inl fo)))] s.heap.size = A at hD hZ ⊢
  have hA : ∀ q : Nat, s.heap.size ≤ q → A q := fun q h => by rw [← hAe]; exact Or.inr h
  have hS : va_S A s.heap s.heap [] := va_S.rf
  have hP : va_P D vwCl [(h0, .inr (11, [.ref x_studio, .ref x_script, .ref x_teller, .ref x_planner, .ref x_plan, .ref x_drifts, .ref x_floor, .ref x_trial, .ref x_tape, .int 0, .int (-1)])), (x_floor, .inr (1, [.ref f_studio, .int 1, .int 0, .ref f_taken, .ref f_on, .ref f_queues, .ref f_queued, .ref f_engaged, .ref f_dressing, .ref f_dressed, .ref f_standing, .ref f_stations, .int 0, .ref f_limits, .ref f_worked, .int 0, .int 0, .int 0])), (f_stations, .inl (cT 0, 3, .inl fst)), (o9, .inl (cT 2, 1, .inr (.inl fo)))] s.heap := hP
  have hl := lv_entry ([.ref h0, .int p0, .int p1, .ref o9]) (n := 5) (Nat.le_of_ble_eq_true rfl)
  rw [lg_entry_eq]
  generalize (lg_sl ([.ref h0, .int p0, .int p1, .ref o9]) ++ List.replicate (5 - (lg_sl ([.ref h0, .int p0, .int p1, .ref o9])).length) Slot.unset).toArray = ls at hl ⊢
  have hl : lv_has ls 5 [(0, .ref h0), (1, .int p0), (2, .int p1), (3, .ref o9)] := hl
  refine lv_aload_n hx hb dL_station_0 rfl (lv_at hl 3 rfl) ?_
  refine lv_iconst (v := 0) hx hb dL_station_1 (by decide) ?_
  refine lv_aload_n hx hb dL_station_2 rfl (lv_at hl 0 rfl) ?_
  refine lv_iload_n hx hb dL_station_3 rfl (lv_at hl 1 rfl) ?_
  refine lv_iload_n hx hb dL_station_4 rfl (lv_at hl 2 rfl) ?_
  have hF := va_free (wc := [(h0, .inr (11, [.ref x_studio, .ref x_script, .ref x_teller, .ref x_planner, .ref x_plan, .ref x_drifts, .ref x_floor, .ref x_trial, .ref x_tape, .int 0, .int (-1)])), (x_floor, .inr (1, [.ref f_studio, .int 1, .int 0, .ref f_taken, .ref f_on, .ref f_queues, .ref f_queued, .ref f_engaged, .ref f_dressing, .ref f_dressed, .ref f_standing, .ref f_stations, .int 0, .ref f_limits, .ref f_worked, .int 0, .int 0, .int 0])), (f_stations, .inl (cT 0, 3, .inl fst))]) hD hS hA [0, 1, 2] rfl
  refine vx_calli (vx_runV (As := [.int p0, .int p1]) (rest := [.int 0, .ref o9]) ⟨hx, hb, hml, hown, hts⟩ (c_X11_station l hst D cT h0 p0 p1 x_studio x_script x_teller x_planner x_plan x_drifts x_floor x_trial x_tape f_studio f_taken f_on f_queues f_queued f_engaged f_dressing f_dressed f_standing f_stations f_limits f_worked fst _ (by assumption)) (cwV 2 hts gL_station_X11_station rfl rfl rfl (by decide +kernel) ⟨Nat.le_of_ble_eq_true rfl, Nat.le_of_ble_eq_true rfl⟩) (pv_z hP hD hK hG hZ hS hF [0, 1, 2] rfl rfl rfl 0 rfl rfl) rfl rfl hl.1 rfl (lv_room (Nat.le_of_ble_eq_true rfl)) dL_station_5 ⟨Nat.le_of_ble_eq_true rfl, Nat.le_of_ble_eq_true rfl⟩) hS (fun q _ h => hF q h) hF (fun q _ h => hF q h) (fun E ce q9 uu9 tt9 H locs ht hvm hw hB hz1 hk1 hS hq9 hv9 hc9 => ?_) (fun r_1 uu9 tt9 H locs ht hvm wr_1 hB hz1 hk1 hS => ?_)
  · rcases hB with ⟨rfl, hpx⟩ | ⟨rfl, hpx⟩
    · refine vx_widen (k := 2) (n := 12) (Nat.le_of_ble_eq_true rfl) (Nat.le_of_ble_eq_true rfl) ?_
      refine vx_catch (E := "java/lang/IndexOutOfBoundsException") (name := "java/lang/IndexOutOfBoundsException") hown [] ⟨0, 10, 13, 13⟩ [⟨0, 10, 17, 15⟩] htb (fun z hz => nomatch hz) (by decide) (by decide) (hts (.classLink RL 13 "java/lang/IndexOutOfBoundsException") (List.mem_of_getElem? (i := 1) (by decide +kernel))) (gwB_any hG (Cond.castable "java/lang/IndexOutOfBoundsException" "java/lang/IndexOutOfBoundsException") (by decide +kernel)) hq9 hv9 hc9 ?_
      obtain ⟨hP, hD⟩ := va_join (wr := [(o9, .inl (cT 2, 1, .inr (.inl fo)))]) (w1 := []) hP hD [0, 1, 2] [3] rfl rfl (by decide) (by decide) hk1 hF vp_nil vd_nil
      have hP : va_P D vwCl [(o9, .inl (cT 2, 1, .inr (.inl fo)))] _ := hP
      have hD : va_D A [(o9, .inl (cT 2, 1, .inr (.inl fo)))] := hD
      refine W.eq (g2 := F0 m 13 ls [.ref q9]) rfl ?_
      refine lv_astore (lv' := [(4, .ref q9), (0, .ref h0), (1, .int p0), (2, .int p1), (3, .ref o9)]) hx hb dL_station_13 hl (by decide) rfl (fun ls hl => ?_)
      refine lv_iconst (v := 1) hx hb dL_station_15 (by decide) ?_
      have hP9 := hP.sub (ws' := [(o9, .inl (cT 2, 1, .inr (.inl fo)))]) [0] rfl
      have hD9 := hD.sub (ws' := [(o9, .inl (cT 2, 1, .inr (.inl fo)))]) [0] (by decide) rfl
      exact W.iret (v := 1) hx hb hr (fun t ht hW => ⟨⟨1, (), rfl, hpx.symm, ⟨fo, fun h => absurd (hpx.symm.trans h) (by decide), by rw [ht]; exact hP9, hD9⟩⟩, hS.F ht⟩) hS.2.2 dL_station_16
    · refine vx_widen (k := 2) (n := 12) (Nat.le_of_ble_eq_true rfl) (Nat.le_of_ble_eq_true rfl) ?_
      refine vx_catch (E := "java/lang/IllegalArgumentException") (name := "java/lang/IllegalArgumentException") hown [⟨0, 10, 13, 13⟩] ⟨0, 10, 17, 15⟩ [] htb (fun z hz => by obtain rfl := List.mem_singleton.mp hz; exact Or.inr ⟨by decide, "java/lang/IndexOutOfBoundsException", (hts (.classLink RL 13 "java/lang/IndexOutOfBoundsException") (List.mem_of_getElem? (i := 1) (by decide +kernel))), hG.2.2.1 ("java/lang/IllegalArgumentException", "java/lang/IndexOutOfBoundsException") (by decide +kernel)⟩) (by decide) (by decide) (hts (.classLink RL 15 "java/lang/IllegalArgumentException") (List.mem_of_getElem? (i := 2) (by decide +kernel))) (gwB_any hG (Cond.castable "java/lang/IllegalArgumentException" "java/lang/IllegalArgumentException") (by decide +kernel)) hq9 hv9 hc9 ?_
      obtain ⟨hP, hD⟩ := va_join (wr := [(o9, .inl (cT 2, 1, .inr (.inl fo)))]) (w1 := []) hP hD [0, 1, 2] [3] rfl rfl (by decide) (by decide) hk1 hF vp_nil vd_nil
      have hP : va_P D vwCl [(o9, .inl (cT 2, 1, .inr (.inl fo)))] _ := hP
      have hD : va_D A [(o9, .inl (cT 2, 1, .inr (.inl fo)))] := hD
      refine W.eq (g2 := F0 m 17 ls [.ref q9]) rfl ?_
      refine lv_astore (lv' := [(4, .ref q9), (0, .ref h0), (1, .int p0), (2, .int p1), (3, .ref o9)]) hx hb dL_station_17 hl (by decide) rfl (fun ls hl => ?_)
      refine lv_iconst (v := 2) hx hb dL_station_19 (by decide) ?_
      have hP9 := hP.sub (ws' := [(o9, .inl (cT 2, 1, .inr (.inl fo)))]) [0] rfl
      have hD9 := hD.sub (ws' := [(o9, .inl (cT 2, 1, .inr (.inl fo)))]) [0] (by decide) rfl
      exact W.iret (v := 2) hx hb hr (fun t ht hW => ⟨⟨2, (), rfl, hpx.symm, ⟨fo, fun h => absurd (hpx.symm.trans h) (by decide), by rw [ht]; exact hP9, hD9⟩⟩, hS.F ht⟩) hS.2.2 dL_station_20
  · obtain ⟨hP, hD⟩ := va_join (wr := [(o9, .inl (cT 2, 1, .inr (.inl fo)))]) (w1 := []) hP hD [0, 1, 2] [3] rfl rfl (by decide) (by decide) hk1 hF vp_nil vd_nil
    have hP : va_P D vwCl [(o9, .inl (cT 2, 1, .inr (.inl fo)))] _ := hP
    have hD : va_D A [(o9, .inl (cT 2, 1, .inr (.inl fo)))] := hD
    refine W.widen (k := 2) (n := 12) (Nat.le_of_ble_eq_true rfl) (Nat.le_of_ble_eq_true rfl) ?_
    obtain ⟨j_2, ej_2⟩ : ∃ y : Int64, y = (r_1).toInt64 := ⟨_, rfl⟩
    refine lv_i2l (v := j_2) hx hb dL_station_8 ej_2.symm ?_
    refine va_last hx hb hK hP hD hS 0 2 rfl rfl (by unfold vp_in; decide) dL_station_9 (fun H locs hP hD hS => ?_)
    have hP : va_P D vwCl [(o9, .inl (cT 2, 1, .inr (.inl (vp_updL fo 0 j_2))))] _ := hP
    have hD : va_D A [(o9, .inl (cT 2, 1, .inr (.inl (vp_updL fo 0 j_2))))] := hD
    refine lv_goto (tgt := 21) hx hb dL_station_10 (by decide) ?_
    refine lv_iconst (v := 0) hx hb dL_station_21 (by decide) ?_
    have hP9 := hP.sub (ws' := [(o9, .inl (cT 2, 1, .inr (.inl (vp_updL fo 0 j_2))))]) [0] rfl
    have hD9 := hD.sub (ws' := [(o9, .inl (cT 2, 1, .inr (.inl (vp_updL fo 0 j_2))))]) [0] (by decide) rfl
    exact W.iret (v := 0) hx hb hr (fun t ht hW => ⟨⟨0, (), rfl, wr_1.1.symm, ⟨(vp_updL fo 0 j_2), fun _ => (if_pos rfl).trans (ej_2.trans (congrArg Int32.toInt64 wr_1.2)), by rw [ht]; exact hP9, hD9⟩⟩, hS.F ht⟩) hS.2.2 dL_station_22
theorem dL_floor_0 : decode cL_floor 0 = .ok (.aload_n 2, 1) := by decide +kernel
theorem dL_floor_1 : decode cL_floor 1 = .ok (.iconst 0, 1) := by decide +kernel
theorem dL_floor_12 : decode cL_floor 12 = .ok (.astore_n 3, 1) := by decide +kernel
theorem dL_floor_13 : decode cL_floor 13 = .ok (.iconst 1, 1) := by decide +kernel
theorem dL_floor_14 : decode cL_floor 14 = .ok (.ireturn, 1) := by decide +kernel
theorem dL_floor_15 : decode cL_floor 15 = .ok (.iconst 0, 1) := by decide +kernel
theorem dL_floor_16 : decode cL_floor 16 = .ok (.ireturn, 1) := by decide +kernel
theorem dL_floor_2 : decode cL_floor 2 = .ok (.aload_n 0, 1) := by decide +kernel
theorem dL_floor_3 : decode cL_floor 3 = .ok (.iload_n 1, 1) := by decide +kernel
theorem dL_floor_4 : decode cL_floor 4 = .ok (.invokevirtual 122, 3) := by decide +kernel
theorem dL_floor_7 : decode cL_floor 7 = .ok (.i2l, 1) := by decide +kernel
theorem dL_floor_8 : decode cL_floor 8 = .ok (.lastore, 1) := by decide +kernel
theorem dL_floor_9 : decode cL_floor 9 = .ok (.goto 6, 3) := by decide +kernel
set_option maxRecDepth 20000 in
theorem ggL_floor_X11_floor : GoodIn wsL_floor wsX11_floor := goodIn_ca (goodIn_r _ [6, 7, 8, 9, 10, 5, 11, 12, 13, 14, 15, 16, 17, 18, 19, 20, 21, 22, 23, 24, 25, 26, 27, 28, 29, 30, 31, 32, 33, 34, 35, 36, 37, 38, 39, 40, 41, 42, 43, 44, 45, 46, 47, 48, 49, 50, 51, 52, 53, 54, 55, 56, 57, 58, 59, 60, 61, 62, 63, 64, 65, 66, 67, 68, 69, 70, 71, 72, 73, 74, 75, 76, 77, 78, 79, 80, 81, 82, 83, 84, 85, 86, 87, 88, 89, 90, 91, 92, 93, 94, 95, 96, 97, 98, 99, 100, 101, 102, 103, 104, 105, 106, 107, 108, 109, 110, 111, 112, 113, 114, 115, 116, 117, 118, 119, 120, 121, 122, 123, 124, 125, 126, 127, 128, 129, 130, 131, 132, 133, 134, 135, 136, 137, 138, 139, 140, 141, 142, 143, 144, 145, 146, 147, 148, 149, 150, 151, 152, 153, 154, 155, 156, 157, 158, 159, 160, 161, 162, 163, 164, 165, 166, 167, 168, 169, 170, 171, 172, 173, 174, 175, 176, 177, 178, 179, 180, 181, 182, 183, 184, 185, 186, 187, 188, 189, 190, 191, 192, 193, 194, 195, 196, 197, 198, 199, 200, 201, 202, 203, 204, 205, 206, 207, 208, 209, 210, 211, 212, 213, 214, 215, 216, 217, 218, 219, 220, 221, 222, 223, 224, 225, 226, 227, 228, 229, 230, 231, 232, 233, 234, 235, 236, 237, 238, 239] (by decide +kernel) (by decide +kernel)) (goodIn_sub (fun _ h => List.mem_cons_of_mem _ (List.mem_append_right _ h)) (by decide +kernel))
set_option maxRecDepth 20000 in
theorem gL_floor_X11_floor : GoodIn wsL_floor (wsV RL 122 RX11 yX11_floor wsX11_floor) := goodIn_app (goodIn_of _ (by decide +kernel)) ggL_floor_X11_floor
set_option maxHeartbeats 4000000 in
set_option maxRecDepth 100000 in
theorem c_L_floor (l : Launch) (hst : l.stackTraces = false) (D : va_G) (cT : Nat → ClassId) (h0 : Nat) (p0 : Int32) (o9 : Nat) (x_studio : Nat) (x_script : Nat) (x_teller : Nat) (x_planner : Nat) (x_plan : Nat) (x_drifts : Nat) (x_floor : Nat) (x_trial : Nat) (x_tape : Nat) (f_taken : Nat) (f_on : Nat) (f_queues : Nat) (f_queued : Nat) (f_engaged : Nat) (f_dressing : Nat) (f_dressed : Nat) (f_standing : Nat) (f_stations : Nat) (f_limits : Nat) (f_worked : Nat) (fon : Nat → Int32) (fwo : Nat → Int32) (s_puppets : Nat) (s_shots : Nat) (s_sounds : Nat) (s_rates : Nat) (s_dresses : Nat) (fo : Nat → Int64) (sz : Nat) (hon : ∀ k, k < 3 → fon k = -1) : Met l yL_floor wsL_floor ({ frames := 12, cells := 1, slots := 6, locals := 400 }) (va_Pc [.ref h0, .int p0, .ref o9] (PZ D cT [(h0, .inr (11, [.ref x_studio, .ref x_script, .ref x_teller, .ref x_planner, .ref x_plan, .ref x_drifts, .ref x_floor, .ref x_trial, .ref x_tape, .int 0, .int (-1)])), (x_floor, .inr (1, [.ref x_studio, .int 1, .int 0, .ref f_taken, .ref f_on, .ref f_queues, .ref f_queued, .ref f_engaged, .ref f_dressing, .ref f_dressed, .ref f_standing, .ref f_stations, .int 0, .ref f_limits, .ref f_worked, .int 0, .int 0, .int 0])), (f_on, .inl (cT 0, 3, .inl fon)), (f_queued, .inl (cT 0, 3, .inl (fun _ => 0))), (f_worked, .inl (cT 0, 6, .inl fwo)), (x_studio, .inr (8, [.ref s_puppets, .int 0, .ref s_shots, .int 0, .ref s_sounds, .ref s_rates, .ref s_dresses])), (s_shots, .inl (cT 5, 12, .inr (.inr (.inr (.inr (fun _ => none)))))), (o9, .inl (cT 2, 1, .inr (.inl fo)))] sz)) (va_Qi (fun (r : Int32) (_ : Unit) => r = th_floor p0) (fun (_ : Unit) (t : State) => ∃ (go : Nat → Int64), (th_floor p0 = 0 → go 0 = Int32.toInt64 (p0)) ∧ va_P D vwCl [(o9, .inl (cT 2, 1, .inr (.inl go)))] t.heap ∧ va_D (va_A [(h0, .inr (11, [.ref x_studio, .ref x_script, .ref x_teller, .ref x_planner, .ref x_plan, .ref x_drifts, .ref x_floor, .ref x_trial, .ref x_tape, .int 0, .int (-1)])), (x_floor, .inr (1, [.ref x_studio, .int 1, .int 0, .ref f_taken, .ref f_on, .ref f_queues, .ref f_queued, .ref f_engaged, .ref f_dressing, .ref f_dressed, .ref f_standing, .ref f_stations, .int 0, .ref f_limits, .ref f_worked, .int 0, .int 0, .int 0])), (f_on, .inl (cT 0, 3, .inl fon)), (f_queued, .inl (cT 0, 3, .inl (fun _ => 0))), (f_worked, .inl (cT 0, 6, .inl fwo)), (x_studio, .inr (8, [.ref s_puppets, .int 0, .ref s_shots, .int 0, .ref s_sounds, .ref s_rates, .ref s_dresses])), (s_shots, .inl (cT 5, 12, .inr (.inr (.inr (.inr (fun _ => none)))))), (o9, .inl (cT 2, 1, .inr (.inl fo)))] sz) [(o9, .inl (cT 2, 1, .inr (.inl go)))]) (va_A [(h0, .inr (11, [.ref x_studio, .ref x_script, .ref x_teller, .ref x_planner, .ref x_plan, .ref x_drifts, .ref x_floor, .ref x_trial, .ref x_tape, .int 0, .int (-1)])), (x_floor, .inr (1, [.ref x_studio, .int 1, .int 0, .ref f_taken, .ref f_on, .ref f_queues, .ref f_queued, .ref f_engaged, .ref f_dressing, .ref f_dressed, .ref f_standing, .ref f_stations, .int 0, .ref f_limits, .ref f_worked, .int 0, .int 0, .int 0])), (f_on, .inl (cT 0, 3, .inl fon)), (f_queued, .inl (cT 0, 3, .inl (fun _ => 0))), (f_worked, .inl (cT 0, 6, .inl fwo)), (x_studio, .inr (8, [.ref s_puppets, .int 0, .ref s_shots, .int 0, .ref s_sounds, .ref s_rates, .ref s_dresses])), (s_shots, .inl (cT 5, 12, .inr (.inr (.inr (.inr (fun _ => none)))))), (o9, .inl (cT 2, 1, .inr (.inl fo)))] sz)) 1 6 (va_A [(h0, .inr (11, [.ref x_studio, .ref x_script, .ref x_teller, .ref x_planner, .ref x_plan, .ref x_drifts, .ref x_floor, .ref x_trial, .ref x_tape, .int 0, .int (-1)])), (x_floor, .inr (1, [.ref x_studio, .int 1, .int 0, .ref f_taken, .ref f_on, .ref f_queues, .ref f_queued, .ref f_engaged, .ref f_dressing, .ref f_dressed, .ref f_standing, .ref f_stations, .int 0, .ref f_limits, .ref f_worked, .int 0, .int 0, .int 0])), (f_on, .inl (cT 0, 3, .inl fon)), (f_queued, .inl (cT 0, 3, .inl (fun _ => 0))), (f_worked, .inl (cT 0, 6, .inl fwo)), (x_studio, .inr (8, [.ref s_puppets, .int 0, .ref s_shots, .int 0, .ref s_sounds, .ref s_rates, .ref s_dresses])), (s_shots, .inl (cT 5, 12, .inr (.inr (.inr (.inr (fun _ => none)))))), (o9, .inl (cT 2, 1, .inr (.inl fo)))] sz) := by
  refine va_MetW (cc := cL_floor) (maxL := 4) (ret := (some .int)) (by decide) rfl ?_
  intro p e s m args below meth c s₁ B hml hv
  obtain ⟨rfl, ⟨hsz, hP, hK, hD0, hG⟩, hZ⟩ := hv
  have hx := B.exec
  have hb := B.bytes
  have hr := B.returns
  have hts := atoms_spec (ws := wsL_floor) B.pre
  have hown : s.vm.findClass RL = some m.cls := findClass_of_methodNamed B.named
  have hlocks := B.notSynchronized
  have htb := vx_table (x := yL_floor) B (hts _ List.mem_cons_self)
  subst hsz
  have hD := hD0.self (sz := s.heap.size)
  generalize hAe : va_A [(h0, .inr (11, [.ref x_studio, .ref x_script, .ref x_teller, .ref x_planner, .ref x_plan, .ref x_drifts, .ref x_floor, .ref x_trial, .ref x_tape, .int 0, .int (-1)])), (x_floor, .inr (1, [.ref x_studio, .int 1, .int 0, .ref f_taken, .ref f_on, .ref f_queues, .ref f_queued, .ref f_engaged, .ref f_dressing, .ref f_dressed, .ref f_standing, .ref f_stations, .int 0, .ref f_limits, .ref f_worked, .int 0, .int 0, .int 0])), (f_on, .inl (cT 0, 3, .inl fon)), (f_queued, .inl (cT 0, 3, .inl (fun _ => 0))), (f_worked, .inl (cT 0, 6, .inl fwo)), (x_studio, .inr (8, [.ref s_puppets, .int 0, .ref s_shots, .int 0, .ref s_sounds, .ref s_rates, .ref s_dresses])), (s_shots, .inl (cT 5, 12, .inr (.inr (.inr (.inr (fun _ => none)))))), (o9, .inl (cT 2, 1, .inr (.inl fo)))] s.heap.size = A at hD hZ ⊢
  have hA : ∀ q : Nat, s.heap.size ≤ q → A q := fun q h => by rw [← hAe]; exact Or.inr h
  have hS : va_S A s.heap s.heap [] := va_S.rf
  have hP : va_P D vwCl [(h0, .inr (11, [.ref x_studio, .ref x_script, .ref x_teller, .ref x_planner, .ref x_plan, .ref x_drifts, .ref x_floor, .ref x_trial, .ref x_tape, .int 0, .int (-1)])), (x_floor, .inr (1, [.ref x_studio, .int 1, .int 0, .ref f_taken, .ref f_on, .ref f_queues, .ref f_queued, .ref f_engaged, .ref f_dressing, .ref f_dressed, .ref f_standing, .ref f_stations, .int 0, .ref f_limits, .ref f_worked, .int 0, .int 0, .int 0])), (f_on, .inl (cT 0, 3, .inl fon)), (f_queued, .inl (cT 0, 3, .inl (fun _ => 0))), (f_worked, .inl (cT 0, 6, .inl fwo)), (x_studio, .inr (8, [.ref s_puppets, .int 0, .ref s_shots, .int 0, .ref s_sounds, .ref s_rates, .ref s_dresses])), (s_shots, .inl (cT 5, 12, .inr (.inr (.inr (.inr (fun _ => none)))))), (o9, .inl (cT 2, 1, .inr (.inl fo)))] s.heap := hP
  have hl := lv_entry ([.ref h0, .int p0, .ref o9]) (n := 4) (Nat.le_of_ble_eq_true rfl)
  rw [lg_entry_eq]
  generalize (lg_sl ([.ref h0, .int p0, .ref o9]) ++ List.replicate (4 - (lg_sl ([.ref h0, .int p0, .ref o9])).length) Slot.unset).toArray = ls at hl ⊢
  have hl : lv_has ls 4 [(0, .ref h0), (1, .int p0), (2, .ref o9)] := hl
  refine lv_aload_n hx hb dL_floor_0 rfl (lv_at hl 2 rfl) ?_
  refine lv_iconst (v := 0) hx hb dL_floor_1 (by decide) ?_
  refine lv_aload_n hx hb dL_floor_2 rfl (lv_at hl 0 rfl) ?_
  refine lv_iload_n hx hb dL_floor_3 rfl (lv_at hl 1 rfl) ?_
  have hF := va_free (wc := [(h0, .inr (11, [.ref x_studio, .ref x_script, .ref x_teller, .ref x_planner, .ref x_plan, .ref x_drifts, .ref x_floor, .ref x_trial, .ref x_tape, .int 0, .int (-1)])), (x_floor, .inr (1, [.ref x_studio, .int 1, .int 0, .ref f_taken, .ref f_on, .ref f_queues, .ref f_queued, .ref f_engaged, .ref f_dressing, .ref f_dressed, .ref f_standing, .ref f_stations, .int 0, .ref f_limits, .ref f_worked, .int 0, .int 0, .int 0])), (f_on, .inl (cT 0, 3, .inl fon)), (f_queued, .inl (cT 0, 3, .inl (fun _ => 0))), (f_worked, .inl (cT 0, 6, .inl fwo)), (x_studio, .inr (8, [.ref s_puppets, .int 0, .ref s_shots, .int 0, .ref s_sounds, .ref s_rates, .ref s_dresses])), (s_shots, .inl (cT 5, 12, .inr (.inr (.inr (.inr (fun _ => none))))))]) hD hS hA [0, 1, 2, 3, 4, 5, 6] rfl
  refine vx_calli (vx_runV (As := [.int p0]) (rest := [.int 0, .ref o9]) ⟨hx, hb, hml, hown, hts⟩ (c_X11_floor l hst D cT h0 p0 x_studio x_script x_teller x_planner x_plan x_drifts x_floor x_trial x_tape f_taken f_on f_queues f_queued f_engaged f_dressing f_dressed f_standing f_stations f_limits f_worked fon fwo s_puppets s_shots s_sounds s_rates s_dresses _ (by assumption)) (cwV 1 hts gL_floor_X11_floor rfl rfl rfl (by decide +kernel) ⟨Nat.le_of_ble_eq_true rfl, Nat.le_of_ble_eq_true rfl⟩) (pv_z hP hD hK hG hZ hS hF [0, 1, 2, 3, 4, 5, 6] rfl rfl rfl 0 rfl rfl) rfl rfl hl.1 rfl (lv_room (Nat.le_of_ble_eq_true rfl)) dL_floor_4 ⟨Nat.le_of_ble_eq_true rfl, Nat.le_of_ble_eq_true rfl⟩) hS (fun q _ h => hF q h) hF (fun q _ h => hF q h) (fun E ce q9 uu9 tt9 H locs ht hvm hw hB hz1 hk1 hS hq9 hv9 hc9 => ?_) (fun r_1 uu9 tt9 H locs ht hvm wr_1 hB hz1 hk1 hS => ?_)
  · obtain ⟨rfl, hpx⟩ := hB
    refine vx_widen (k := 1) (n := 6) (Nat.le_of_ble_eq_true rfl) (Nat.le_of_ble_eq_true rfl) ?_
    refine vx_catch (E := "java/lang/IllegalArgumentException") (name := "java/lang/IllegalArgumentException") hown [] ⟨0, 9, 12, 15⟩ [] htb (fun z hz => nomatch hz) (by decide) (by decide) (hts (.classLink RL 15 "java/lang/IllegalArgumentException") (List.mem_of_getElem? (i := 1) (by decide +kernel))) (gwB_any hG (Cond.castable "java/lang/IllegalArgumentException" "java/lang/IllegalArgumentException") (by decide +kernel)) hq9 hv9 hc9 ?_
    obtain ⟨hP, hD⟩ := va_join (wr := [(o9, .inl (cT 2, 1, .inr (.inl fo)))]) (w1 := []) hP hD [0, 1, 2, 3, 4, 5, 6] [7] rfl rfl (by decide) (by decide) hk1 hF vp_nil vd_nil
    have hP : va_P D vwCl [(o9, .inl (cT 2, 1, .inr (.inl fo)))] _ := hP
    have hD : va_D A [(o9, .inl (cT 2, 1, .inr (.inl fo)))] := hD
    refine W.eq (g2 := F0 m 12 ls [.ref q9]) rfl ?_
    refine lv_astore_n (lv' := [(3, .ref q9), (0, .ref h0), (1, .int p0), (2, .ref o9)]) hx hb dL_floor_12 rfl hl (by decide) rfl (fun ls hl => ?_)
    refine lv_iconst (v := 1) hx hb dL_floor_13 (by decide) ?_
    have hP9 := hP.sub (ws' := [(o9, .inl (cT 2, 1, .inr (.inl fo)))]) [0] rfl
    have hD9 := hD.sub (ws' := [(o9, .inl (cT 2, 1, .inr (.inl fo)))]) [0] (by decide) rfl
    exact W.iret (v := 1) hx hb hr (fun t ht hW => ⟨⟨1, (), rfl, hpx.symm, ⟨fo, fun h => absurd (hpx.symm.trans h) (by decide), by rw [ht]; exact hP9, hD9⟩⟩, hS.F ht⟩) hS.2.2 dL_floor_14
  · obtain ⟨hP, hD⟩ := va_join (wr := [(o9, .inl (cT 2, 1, .inr (.inl fo)))]) (w1 := []) hP hD [0, 1, 2, 3, 4, 5, 6] [7] rfl rfl (by decide) (by decide) hk1 hF vp_nil vd_nil
    have hP : va_P D vwCl [(o9, .inl (cT 2, 1, .inr (.inl fo)))] _ := hP
    have hD : va_D A [(o9, .inl (cT 2, 1, .inr (.inl fo)))] := hD
    refine W.widen (k := 1) (n := 6) (Nat.le_of_ble_eq_true rfl) (Nat.le_of_ble_eq_true rfl) ?_
    obtain ⟨j_2, ej_2⟩ : ∃ y : Int64, y = (r_1).toInt64 := ⟨_, rfl⟩
    refine lv_i2l (v := j_2) hx hb dL_floor_7 ej_2.symm ?_
    refine va_last hx hb hK hP hD hS 0 2 rfl rfl (by unfold vp_in; decide) dL_floor_8 (fun H locs hP hD hS => ?_)
    have hP : va_P D vwCl [(o9, .inl (cT 2, 1, .inr (.inl (vp_updL fo 0 j_2))))] _ := hP
    have hD : va_D A [(o9, .inl (cT 2, 1, .inr (.inl (vp_updL fo 0 j_2))))] := hD
    refine lv_goto (tgt := 15) hx hb dL_floor_9 (by decide) ?_
    refine lv_iconst (v := 0) hx hb dL_floor_15 (by decide) ?_
    have hP9 := hP.sub (ws' := [(o9, .inl (cT 2, 1, .inr (.inl (vp_updL fo 0 j_2))))]) [0] rfl
    have hD9 := hD.sub (ws' := [(o9, .inl (cT 2, 1, .inr (.inl (vp_updL fo 0 j_2))))]) [0] (by decide) rfl
    exact W.iret (v := 0) hx hb hr (fun t ht hW => ⟨⟨0, (), rfl, wr_1.1.symm, ⟨(vp_updL fo 0 j_2), fun _ => (if_pos rfl).trans (ej_2.trans (congrArg Int32.toInt64 wr_1.2)), by rw [ht]; exact hP9, hD9⟩⟩, hS.F ht⟩) hS.2.2 dL_floor_16
theorem dL_on_0 : decode cL_on 0 = .ok (.aload_n 3, 1) := by decide +kernel
theorem dL_on_1 : decode cL_on 1 = .ok (.iconst 0, 1) := by decide +kernel
theorem dL_on_10 : decode cL_on 10 = .ok (.goto 11, 3) := by decide +kernel
theorem dL_on_13 : decode cL_on 13 = .ok (.astore 4, 2) := by decide +kernel
theorem dL_on_15 : decode cL_on 15 = .ok (.iconst 1, 1) := by decide +kernel
theorem dL_on_16 : decode cL_on 16 = .ok (.ireturn, 1) := by decide +kernel
theorem dL_on_17 : decode cL_on 17 = .ok (.astore 4, 2) := by decide +kernel
theorem dL_on_19 : decode cL_on 19 = .ok (.iconst 2, 1) := by decide +kernel
theorem dL_on_2 : decode cL_on 2 = .ok (.aload_n 0, 1) := by decide +kernel
theorem dL_on_20 : decode cL_on 20 = .ok (.ireturn, 1) := by decide +kernel
theorem dL_on_21 : decode cL_on 21 = .ok (.iconst 0, 1) := by decide +kernel
theorem dL_on_22 : decode cL_on 22 = .ok (.ireturn, 1) := by decide +kernel
theorem dL_on_3 : decode cL_on 3 = .ok (.iload_n 1, 1) := by decide +kernel
theorem dL_on_4 : decode cL_on 4 = .ok (.iload_n 2, 1) := by decide +kernel
theorem dL_on_5 : decode cL_on 5 = .ok (.invokevirtual 125, 3) := by decide +kernel
theorem dL_on_8 : decode cL_on 8 = .ok (.i2l, 1) := by decide +kernel
theorem dL_on_9 : decode cL_on 9 = .ok (.lastore, 1) := by decide +kernel
set_option maxRecDepth 20000 in
theorem ggL_on_X11_on : GoodIn wsL_on wsX11_on := goodIn_ca (goodIn_ca (goodIn_r _ [7, 8, 9, 10, 11, 12, 6, 13, 14, 15, 16, 17, 18, 19, 20, 21, 22, 23, 24, 25, 26, 27, 28, 29, 30, 31, 32, 33, 34, 35, 36, 37, 38, 39, 40, 41, 42, 43, 44, 45, 46, 47, 48, 49, 50, 51, 52, 53, 54, 55, 56, 57, 58, 59, 60, 61, 62, 63, 64, 65, 66, 67, 68, 69, 70, 71, 72, 73, 74, 75, 76, 77, 78, 79, 80, 81, 82, 83, 84, 85, 86, 87, 88, 89, 90, 91, 92, 93, 94, 95, 96, 97, 98, 99, 100, 101, 102, 103, 104, 105, 106, 107] (by decide +kernel) (by decide +kernel)) (goodIn_sub (fun _ h => List.mem_cons_of_mem _ (List.mem_append_left _ (List.mem_append_right _ h))) (by decide +kernel))) (goodIn_sub (fun _ h => List.mem_cons_of_mem _ (List.mem_append_right _ h)) (by decide +kernel))
set_option maxRecDepth 20000 in
theorem gL_on_X11_on : GoodIn wsL_on (wsV RL 125 RX11 yX11_on wsX11_on) := goodIn_app (goodIn_of _ (by decide +kernel)) ggL_on_X11_on
set_option maxHeartbeats 4000000 in
set_option maxRecDepth 100000 in
theorem c_L_on (l : Launch) (hst : l.stackTraces = false) (D : va_G) (cT : Nat → ClassId) (h0 : Nat) (p0 : Int32) (p1 : Int32) (o9 : Nat) (x_studio : Nat) (x_script : Nat) (x_teller : Nat) (x_planner : Nat) (x_plan : Nat) (x_drifts : Nat) (x_floor : Nat) (x_trial : Nat) (x_tape : Nat) (f_taken : Nat) (f_on : Nat) (f_queues : Nat) (f_queued : Nat) (f_engaged : Nat) (f_dressing : Nat) (f_dressed : Nat) (f_standing : Nat) (f_stations : Nat) (f_limits : Nat) (f_worked : Nat) (fon : Nat → Int32) (s_puppets : Nat) (s_shots : Nat) (s_sounds : Nat) (s_rates : Nat) (s_dresses : Nat) (fo : Nat → Int64) (sz : Nat) (hon : ∀ k, k < 3 → fon k = -1) : Met l yL_on wsL_on ({ frames := 12, cells := 2, slots := 12, locals := 400 }) (va_Pc [.ref h0, .int p0, .int p1, .ref o9] (PZ D cT [(h0, .inr (11, [.ref x_studio, .ref x_script, .ref x_teller, .ref x_planner, .ref x_plan, .ref x_drifts, .ref x_floor, .ref x_trial, .ref x_tape, .int 0, .int (-1)])), (x_floor, .inr (1, [.ref x_studio, .int 1, .int 0, .ref f_taken, .ref f_on, .ref f_queues, .ref f_queued, .ref f_engaged, .ref f_dressing, .ref f_dressed, .ref f_standing, .ref f_stations, .int 0, .ref f_limits, .ref f_worked, .int 0, .int 0, .int 0])), (f_on, .inl (cT 0, 3, .inl fon)), (f_queued, .inl (cT 0, 3, .inl (fun _ => 0))), (x_studio, .inr (8, [.ref s_puppets, .int 0, .ref s_shots, .int 0, .ref s_sounds, .ref s_rates, .ref s_dresses])), (s_shots, .inl (cT 5, 12, .inr (.inr (.inr (.inr (fun _ => none)))))), (o9, .inl (cT 2, 1, .inr (.inl fo)))] sz)) (va_Qi (fun (r : Int32) (_ : Unit) => r = th_on p0 p1) (fun (_ : Unit) (t : State) => ∃ (go : Nat → Int64), (th_on p0 p1 = 0 → go 0 = Int32.toInt64 (vl_on p1)) ∧ va_P D vwCl [(o9, .inl (cT 2, 1, .inr (.inl go)))] t.heap ∧ va_D (va_A [(h0, .inr (11, [.ref x_studio, .ref x_script, .ref x_teller, .ref x_planner, .ref x_plan, .ref x_drifts, .ref x_floor, .ref x_trial, .ref x_tape, .int 0, .int (-1)])), (x_floor, .inr (1, [.ref x_studio, .int 1, .int 0, .ref f_taken, .ref f_on, .ref f_queues, .ref f_queued, .ref f_engaged, .ref f_dressing, .ref f_dressed, .ref f_standing, .ref f_stations, .int 0, .ref f_limits, .ref f_worked, .int 0, .int 0, .int 0])), (f_on, .inl (cT 0, 3, .inl fon)), (f_queued, .inl (cT 0, 3, .inl (fun _ => 0))), (x_studio, .inr (8, [.ref s_puppets, .int 0, .ref s_shots, .int 0, .ref s_sounds, .ref s_rates, .ref s_dresses])), (s_shots, .inl (cT 5, 12, .inr (.inr (.inr (.inr (fun _ => none)))))), (o9, .inl (cT 2, 1, .inr (.inl fo)))] sz) [(o9, .inl (cT 2, 1, .inr (.inl go)))]) (va_A [(h0, .inr (11, [.ref x_studio, .ref x_script, .ref x_teller, .ref x_planner, .ref x_plan, .ref x_drifts, .ref x_floor, .ref x_trial, .ref x_tape, .int 0, .int (-1)])), (x_floor, .inr (1, [.ref x_studio, .int 1, .int 0, .ref f_taken, .ref f_on, .ref f_queues, .ref f_queued, .ref f_engaged, .ref f_dressing, .ref f_dressed, .ref f_standing, .ref f_stations, .int 0, .ref f_limits, .ref f_worked, .int 0, .int 0, .int 0])), (f_on, .inl (cT 0, 3, .inl fon)), (f_queued, .inl (cT 0, 3, .inl (fun _ => 0))), (x_studio, .inr (8, [.ref s_puppets, .int 0, .ref s_shots, .int 0, .ref s_sounds, .ref s_rates, .ref s_dresses])), (s_shots, .inl (cT 5, 12, .inr (.inr (.inr (.inr (fun _ => none)))))), (o9, .inl (cT 2, 1, .inr (.inl fo)))] sz)) 2 12 (va_A [(h0, .inr (11, [.ref x_studio, .ref x_script, .ref x_teller, .ref x_planner, .ref x_plan, .ref x_drifts, .ref x_floor, .ref x_trial, .ref x_tape, .int 0, .int (-1)])), (x_floor, .inr (1, [.ref x_studio, .int 1, .int 0, .ref f_taken, .ref f_on, .ref f_queues, .ref f_queued, .ref f_engaged, .ref f_dressing, .ref f_dressed, .ref f_standing, .ref f_stations, .int 0, .ref f_limits, .ref f_worked, .int 0, .int 0, .int 0])), (f_on, .inl (cT 0, 3, .inl fon)), (f_queued, .inl (cT 0, 3, .inl (fun _ => 0))), (x_studio, .inr (8, [.ref s_puppets, .int 0, .ref s_shots, .int 0, .ref s_sounds, .ref s_rates, .ref s_dresses])), (s_shots, .inl (cT 5, 12, .inr (.inr (.inr (.inr (fun _ => none)))))), (o9, .inl (cT 2, 1, .inr (.inl fo)))] sz) := by
  refine va_MetW (cc := cL_on) (maxL := 5) (ret := (some .int)) (by decide) rfl ?_
  intro p e s m args below meth c s₁ B hml hv
  obtain ⟨rfl, ⟨hsz, hP, hK, hD0, hG⟩, hZ⟩ := hv
  have hx := B.exec
  have hb := B.bytes
  have hr := B.returns
  have hts := atoms_spec (ws := wsL_on) B.pre
  have hown : s.vm.findClass RL = some m.cls := findClass_of_methodNamed B.named
  have hlocks := B.notSynchronized
  have htb := vx_table (x := yL_on) B (hts _ List.mem_cons_self)
  subst hsz
  have hD := hD0.self (sz := s.heap.size)
  generalize hAe : va_A [(h0, .inr (11, [.ref x_studio, .ref x_script, .ref x_teller, .ref x_planner, .ref x_plan, .ref x_drifts, .ref x_floor, .ref x_trial, .ref x_tape, .int 0, .int (-1)])), (x_floor, .inr (1, [.ref x_studio, .int 1, .int 0, .ref f_taken, .ref f_on, .ref f_queues, .ref f_queued, .ref f_engaged, .ref f_dressing, .ref f_dressed, .ref f_standing, .ref f_stations, .int 0, .ref f_limits, .ref f_worked, .int 0, .int 0, .int 0])), (f_on, .inl (cT 0, 3, .inl fon)), (f_queued, .inl (cT 0, 3, .inl (fun _ => 0))), (x_studio, .inr (8, [.ref s_puppets, .int 0, .ref s_shots, .int 0, .ref s_sounds, .ref s_rates, .ref s_dresses])), (s_shots, .inl (cT 5, 12, .inr (.inr (.inr (.inr (fun _ => none)))))), (o9, .inl (cT 2, 1, .inr (.inl fo)))] s.heap.size = A at hD hZ ⊢
  have hA : ∀ q : Nat, s.heap.size ≤ q → A q := fun q h => by rw [← hAe]; exact Or.inr h
  have hS : va_S A s.heap s.heap [] := va_S.rf
  have hP : va_P D vwCl [(h0, .inr (11, [.ref x_studio, .ref x_script, .ref x_teller, .ref x_planner, .ref x_plan, .ref x_drifts, .ref x_floor, .ref x_trial, .ref x_tape, .int 0, .int (-1)])), (x_floor, .inr (1, [.ref x_studio, .int 1, .int 0, .ref f_taken, .ref f_on, .ref f_queues, .ref f_queued, .ref f_engaged, .ref f_dressing, .ref f_dressed, .ref f_standing, .ref f_stations, .int 0, .ref f_limits, .ref f_worked, .int 0, .int 0, .int 0])), (f_on, .inl (cT 0, 3, .inl fon)), (f_queued, .inl (cT 0, 3, .inl (fun _ => 0))), (x_studio, .inr (8, [.ref s_puppets, .int 0, .ref s_shots, .int 0, .ref s_sounds, .ref s_rates, .ref s_dresses])), (s_shots, .inl (cT 5, 12, .inr (.inr (.inr (.inr (fun _ => none)))))), (o9, .inl (cT 2, 1, .inr (.inl fo)))] s.heap := hP
  have hl := lv_entry ([.ref h0, .int p0, .int p1, .ref o9]) (n := 5) (Nat.le_of_ble_eq_true rfl)
  rw [lg_entry_eq]
  generalize (lg_sl ([.ref h0, .int p0, .int p1, .ref o9]) ++ List.replicate (5 - (lg_sl ([.ref h0, .int p0, .int p1, .ref o9])).length) Slot.unset).toArray = ls at hl ⊢
  have hl : lv_has ls 5 [(0, .ref h0), (1, .int p0), (2, .int p1), (3, .ref o9)] := hl
  refine lv_aload_n hx hb dL_on_0 rfl (lv_at hl 3 rfl) ?_
  refine lv_iconst (v := 0) hx hb dL_on_1 (by decide) ?_
  refine lv_aload_n hx hb dL_on_2 rfl (lv_at hl 0 rfl) ?_
  refine lv_iload_n hx hb dL_on_3 rfl (lv_at hl 1 rfl) ?_
  refine lv_iload_n hx hb dL_on_4 rfl (lv_at hl 2 rfl) ?_
  have hF := va_free (wc := [(h0, .inr (11, [.ref x_studio, .ref x_script, .ref x_teller, .ref x_planner, .ref x_plan, .ref x_drifts, .ref x_floor, .ref x_trial, .ref x_tape, .int 0, .int (-1)])), (x_floor, .inr (1, [.ref x_studio, .int 1, .int 0, .ref f_taken, .ref f_on, .ref f_queues, .ref f_queued, .ref f_engaged, .ref f_dressing, .ref f_dressed, .ref f_standing, .ref f_stations, .int 0, .ref f_limits, .ref f_worked, .int 0, .int 0, .int 0])), (f_on, .inl (cT 0, 3, .inl fon)), (f_queued, .inl (cT 0, 3, .inl (fun _ => 0))), (x_studio, .inr (8, [.ref s_puppets, .int 0, .ref s_shots, .int 0, .ref s_sounds, .ref s_rates, .ref s_dresses])), (s_shots, .inl (cT 5, 12, .inr (.inr (.inr (.inr (fun _ => none))))))]) hD hS hA [0, 1, 2, 3, 4, 5] rfl
  refine vx_calli (vx_runV (As := [.int p0, .int p1]) (rest := [.int 0, .ref o9]) ⟨hx, hb, hml, hown, hts⟩ (c_X11_on l hst D cT h0 p0 p1 x_studio x_script x_teller x_planner x_plan x_drifts x_floor x_trial x_tape f_taken f_on f_queues f_queued f_engaged f_dressing f_dressed f_standing f_stations f_limits f_worked fon s_puppets s_shots s_sounds s_rates s_dresses _ (by assumption)) (cwV 2 hts gL_on_X11_on rfl rfl rfl (by decide +kernel) ⟨Nat.le_of_ble_eq_true rfl, Nat.le_of_ble_eq_true rfl⟩) (pv_z hP hD hK hG hZ hS hF [0, 1, 2, 3, 4, 5] rfl rfl rfl 0 rfl rfl) rfl rfl hl.1 rfl (lv_room (Nat.le_of_ble_eq_true rfl)) dL_on_5 ⟨Nat.le_of_ble_eq_true rfl, Nat.le_of_ble_eq_true rfl⟩) hS (fun q _ h => hF q h) hF (fun q _ h => hF q h) (fun E ce q9 uu9 tt9 H locs ht hvm hw hB hz1 hk1 hS hq9 hv9 hc9 => ?_) (fun r_1 uu9 tt9 H locs ht hvm wr_1 hB hz1 hk1 hS => ?_)
  · rcases hB with ⟨rfl, hpx⟩ | ⟨rfl, hpx⟩
    · refine vx_widen (k := 2) (n := 12) (Nat.le_of_ble_eq_true rfl) (Nat.le_of_ble_eq_true rfl) ?_
      refine vx_catch (E := "java/lang/IndexOutOfBoundsException") (name := "java/lang/IndexOutOfBoundsException") hown [] ⟨0, 10, 13, 13⟩ [⟨0, 10, 17, 15⟩] htb (fun z hz => nomatch hz) (by decide) (by decide) (hts (.classLink RL 13 "java/lang/IndexOutOfBoundsException") (List.mem_of_getElem? (i := 1) (by decide +kernel))) (gwB_any hG (Cond.castable "java/lang/IndexOutOfBoundsException" "java/lang/IndexOutOfBoundsException") (by decide +kernel)) hq9 hv9 hc9 ?_
      obtain ⟨hP, hD⟩ := va_join (wr := [(o9, .inl (cT 2, 1, .inr (.inl fo)))]) (w1 := []) hP hD [0, 1, 2, 3, 4, 5] [6] rfl rfl (by decide) (by decide) hk1 hF vp_nil vd_nil
      have hP : va_P D vwCl [(o9, .inl (cT 2, 1, .inr (.inl fo)))] _ := hP
      have hD : va_D A [(o9, .inl (cT 2, 1, .inr (.inl fo)))] := hD
      refine W.eq (g2 := F0 m 13 ls [.ref q9]) rfl ?_
      refine lv_astore (lv' := [(4, .ref q9), (0, .ref h0), (1, .int p0), (2, .int p1), (3, .ref o9)]) hx hb dL_on_13 hl (by decide) rfl (fun ls hl => ?_)
      refine lv_iconst (v := 1) hx hb dL_on_15 (by decide) ?_
      have hP9 := hP.sub (ws' := [(o9, .inl (cT 2, 1, .inr (.inl fo)))]) [0] rfl
      have hD9 := hD.sub (ws' := [(o9, .inl (cT 2, 1, .inr (.inl fo)))]) [0] (by decide) rfl
      exact W.iret (v := 1) hx hb hr (fun t ht hW => ⟨⟨1, (), rfl, hpx.symm, ⟨fo, fun h => absurd (hpx.symm.trans h) (by decide), by rw [ht]; exact hP9, hD9⟩⟩, hS.F ht⟩) hS.2.2 dL_on_16
    · refine vx_widen (k := 2) (n := 12) (Nat.le_of_ble_eq_true rfl) (Nat.le_of_ble_eq_true rfl) ?_
      refine vx_catch (E := "java/lang/IllegalArgumentException") (name := "java/lang/IllegalArgumentException") hown [⟨0, 10, 13, 13⟩] ⟨0, 10, 17, 15⟩ [] htb (fun z hz => by obtain rfl := List.mem_singleton.mp hz; exact Or.inr ⟨by decide, "java/lang/IndexOutOfBoundsException", (hts (.classLink RL 13 "java/lang/IndexOutOfBoundsException") (List.mem_of_getElem? (i := 1) (by decide +kernel))), hG.2.2.1 ("java/lang/IllegalArgumentException", "java/lang/IndexOutOfBoundsException") (by decide +kernel)⟩) (by decide) (by decide) (hts (.classLink RL 15 "java/lang/IllegalArgumentException") (List.mem_of_getElem? (i := 2) (by decide +kernel))) (gwB_any hG (Cond.castable "java/lang/IllegalArgumentException" "java/lang/IllegalArgumentException") (by decide +kernel)) hq9 hv9 hc9 ?_
      obtain ⟨hP, hD⟩ := va_join (wr := [(o9, .inl (cT 2, 1, .inr (.inl fo)))]) (w1 := []) hP hD [0, 1, 2, 3, 4, 5] [6] rfl rfl (by decide) (by decide) hk1 hF vp_nil vd_nil
      have hP : va_P D vwCl [(o9, .inl (cT 2, 1, .inr (.inl fo)))] _ := hP
      have hD : va_D A [(o9, .inl (cT 2, 1, .inr (.inl fo)))] := hD
      refine W.eq (g2 := F0 m 17 ls [.ref q9]) rfl ?_
      refine lv_astore (lv' := [(4, .ref q9), (0, .ref h0), (1, .int p0), (2, .int p1), (3, .ref o9)]) hx hb dL_on_17 hl (by decide) rfl (fun ls hl => ?_)
      refine lv_iconst (v := 2) hx hb dL_on_19 (by decide) ?_
      have hP9 := hP.sub (ws' := [(o9, .inl (cT 2, 1, .inr (.inl fo)))]) [0] rfl
      have hD9 := hD.sub (ws' := [(o9, .inl (cT 2, 1, .inr (.inl fo)))]) [0] (by decide) rfl
      exact W.iret (v := 2) hx hb hr (fun t ht hW => ⟨⟨2, (), rfl, hpx.symm, ⟨fo, fun h => absurd (hpx.symm.trans h) (by decide), by rw [ht]; exact hP9, hD9⟩⟩, hS.F ht⟩) hS.2.2 dL_on_20
  · obtain ⟨hP, hD⟩ := va_join (wr := [(o9, .inl (cT 2, 1, .inr (.inl fo)))]) (w1 := []) hP hD [0, 1, 2, 3, 4, 5] [6] rfl rfl (by decide) (by decide) hk1 hF vp_nil vd_nil
    have hP : va_P D vwCl [(o9, .inl (cT 2, 1, .inr (.inl fo)))] _ := hP
    have hD : va_D A [(o9, .inl (cT 2, 1, .inr (.inl fo)))] := hD
    refine W.widen (k := 2) (n := 12) (Nat.le_of_ble_eq_true rfl) (Nat.le_of_ble_eq_true rfl) ?_
    obtain ⟨j_2, ej_2⟩ : ∃ y : Int64, y = (r_1).toInt64 := ⟨_, rfl⟩
    refine lv_i2l (v := j_2) hx hb dL_on_8 ej_2.symm ?_
    refine va_last hx hb hK hP hD hS 0 2 rfl rfl (by unfold vp_in; decide) dL_on_9 (fun H locs hP hD hS => ?_)
    have hP : va_P D vwCl [(o9, .inl (cT 2, 1, .inr (.inl (vp_updL fo 0 j_2))))] _ := hP
    have hD : va_D A [(o9, .inl (cT 2, 1, .inr (.inl (vp_updL fo 0 j_2))))] := hD
    refine lv_goto (tgt := 21) hx hb dL_on_10 (by decide) ?_
    refine lv_iconst (v := 0) hx hb dL_on_21 (by decide) ?_
    have hP9 := hP.sub (ws' := [(o9, .inl (cT 2, 1, .inr (.inl (vp_updL fo 0 j_2))))]) [0] rfl
    have hD9 := hD.sub (ws' := [(o9, .inl (cT 2, 1, .inr (.inl (vp_updL fo 0 j_2))))]) [0] (by decide) rfl
    exact W.iret (v := 0) hx hb hr (fun t ht hW => ⟨⟨0, (), rfl, wr_1.1.symm, ⟨(vp_updL fo 0 j_2), fun _ => (if_pos rfl).trans (ej_2.trans (congrArg Int32.toInt64 wr_1.2)), by rw [ht]; exact hP9, hD9⟩⟩, hS.F ht⟩) hS.2.2 dL_on_22
theorem dL_stands_0 : decode cL_stands 0 = .ok (.aload_n 2, 1) := by decide +kernel
theorem dL_stands_1 : decode cL_stands 1 = .ok (.iconst 0, 1) := by decide +kernel
theorem dL_stands_12 : decode cL_stands 12 = .ok (.astore_n 3, 1) := by decide +kernel
theorem dL_stands_13 : decode cL_stands 13 = .ok (.iconst 1, 1) := by decide +kernel
theorem dL_stands_14 : decode cL_stands 14 = .ok (.ireturn, 1) := by decide +kernel
theorem dL_stands_15 : decode cL_stands 15 = .ok (.iconst 0, 1) := by decide +kernel
theorem dL_stands_16 : decode cL_stands 16 = .ok (.ireturn, 1) := by decide +kernel
theorem dL_stands_2 : decode cL_stands 2 = .ok (.aload_n 0, 1) := by decide +kernel
theorem dL_stands_3 : decode cL_stands 3 = .ok (.iload_n 1, 1) := by decide +kernel
theorem dL_stands_4 : decode cL_stands 4 = .ok (.invokevirtual 128, 3) := by decide +kernel
theorem dL_stands_7 : decode cL_stands 7 = .ok (.i2l, 1) := by decide +kernel
theorem dL_stands_8 : decode cL_stands 8 = .ok (.lastore, 1) := by decide +kernel
theorem dL_stands_9 : decode cL_stands 9 = .ok (.goto 6, 3) := by decide +kernel
set_option maxRecDepth 20000 in
theorem ggL_stands_X11_stands : GoodIn wsL_stands wsX11_stands := goodIn_ca (goodIn_r _ [6, 7, 8, 9, 5, 10, 11, 12, 13, 14, 15, 16, 17, 18, 19, 20, 21, 22, 23, 24, 25, 26, 27, 28, 29, 30, 31, 32, 33, 34, 35, 36, 37, 38, 39, 40, 41, 42, 43, 44, 45, 46, 47, 48, 49, 50, 51, 52] (by decide +kernel) (by decide +kernel)) (goodIn_sub (fun _ h => List.mem_cons_of_mem _ (List.mem_append_right _ h)) (by decide +kernel))
set_option maxRecDepth 20000 in
theorem gL_stands_X11_stands : GoodIn wsL_stands (wsV RL 128 RX11 yX11_stands wsX11_stands) := goodIn_app (goodIn_of _ (by decide +kernel)) ggL_stands_X11_stands
set_option maxHeartbeats 4000000 in
set_option maxRecDepth 100000 in
theorem c_L_stands (l : Launch) (hst : l.stackTraces = false) (D : va_G) (cT : Nat → ClassId) (h0 : Nat) (p0 : Int32) (o9 : Nat) (x_studio : Nat) (x_script : Nat) (x_teller : Nat) (x_planner : Nat) (x_plan : Nat) (x_drifts : Nat) (x_floor : Nat) (x_trial : Nat) (x_tape : Nat) (f_studio : Nat) (f_taken : Nat) (f_on : Nat) (f_queues : Nat) (f_queued : Nat) (f_engaged : Nat) (f_dressing : Nat) (f_dressed : Nat) (f_standing : Nat) (f_stations : Nat) (f_limits : Nat) (f_worked : Nat) (fsg : Nat → Int32) (fo : Nat → Int64) (sz : Nat) (hsg : ∀ k, k < 8 → fsg k = -1) : Met l yL_stands wsL_stands ({ frames := 11, cells := 1, slots := 6, locals := 340 }) (va_Pc [.ref h0, .int p0, .ref o9] (PZ D cT [(h0, .inr (11, [.ref x_studio, .ref x_script, .ref x_teller, .ref x_planner, .ref x_plan, .ref x_drifts, .ref x_floor, .ref x_trial, .ref x_tape, .int 0, .int (-1)])), (x_floor, .inr (1, [.ref f_studio, .int 1, .int 0, .ref f_taken, .ref f_on, .ref f_queues, .ref f_queued, .ref f_engaged, .ref f_dressing, .ref f_dressed, .ref f_standing, .ref f_stations, .int 0, .ref f_limits, .ref f_worked, .int 0, .int 0, .int 0])), (f_standing, .inl (cT 0, 8, .inl fsg)), (o9, .inl (cT 2, 1, .inr (.inl fo)))] sz)) (va_Qi (fun (r : Int32) (_ : Unit) => r = th_stands p0) (fun (_ : Unit) (t : State) => ∃ (go : Nat → Int64), (th_stands p0 = 0 → go 0 = Int32.toInt64 ((-1))) ∧ va_P D vwCl [(o9, .inl (cT 2, 1, .inr (.inl go)))] t.heap ∧ va_D (va_A [(h0, .inr (11, [.ref x_studio, .ref x_script, .ref x_teller, .ref x_planner, .ref x_plan, .ref x_drifts, .ref x_floor, .ref x_trial, .ref x_tape, .int 0, .int (-1)])), (x_floor, .inr (1, [.ref f_studio, .int 1, .int 0, .ref f_taken, .ref f_on, .ref f_queues, .ref f_queued, .ref f_engaged, .ref f_dressing, .ref f_dressed, .ref f_standing, .ref f_stations, .int 0, .ref f_limits, .ref f_worked, .int 0, .int 0, .int 0])), (f_standing, .inl (cT 0, 8, .inl fsg)), (o9, .inl (cT 2, 1, .inr (.inl fo)))] sz) [(o9, .inl (cT 2, 1, .inr (.inl go)))]) (va_A [(h0, .inr (11, [.ref x_studio, .ref x_script, .ref x_teller, .ref x_planner, .ref x_plan, .ref x_drifts, .ref x_floor, .ref x_trial, .ref x_tape, .int 0, .int (-1)])), (x_floor, .inr (1, [.ref f_studio, .int 1, .int 0, .ref f_taken, .ref f_on, .ref f_queues, .ref f_queued, .ref f_engaged, .ref f_dressing, .ref f_dressed, .ref f_standing, .ref f_stations, .int 0, .ref f_limits, .ref f_worked, .int 0, .int 0, .int 0])), (f_standing, .inl (cT 0, 8, .inl fsg)), (o9, .inl (cT 2, 1, .inr (.inl fo)))] sz)) 1 6 (va_A [(h0, .inr (11, [.ref x_studio, .ref x_script, .ref x_teller, .ref x_planner, .ref x_plan, .ref x_drifts, .ref x_floor, .ref x_trial, .ref x_tape, .int 0, .int (-1)])), (x_floor, .inr (1, [.ref f_studio, .int 1, .int 0, .ref f_taken, .ref f_on, .ref f_queues, .ref f_queued, .ref f_engaged, .ref f_dressing, .ref f_dressed, .ref f_standing, .ref f_stations, .int 0, .ref f_limits, .ref f_worked, .int 0, .int 0, .int 0])), (f_standing, .inl (cT 0, 8, .inl fsg)), (o9, .inl (cT 2, 1, .inr (.inl fo)))] sz) := by
  refine va_MetW (cc := cL_stands) (maxL := 4) (ret := (some .int)) (by decide) rfl ?_
  intro p e s m args below meth c s₁ B hml hv
  obtain ⟨rfl, ⟨hsz, hP, hK, hD0, hG⟩, hZ⟩ := hv
  have hx := B.exec
  have hb := B.bytes
  have hr := B.returns
  have hts := atoms_spec (ws := wsL_stands) B.pre
  have hown : s.vm.findClass RL = some m.cls := findClass_of_methodNamed B.named
  have hlocks := B.notSynchronized
  have htb := vx_table (x := yL_stands) B (hts _ List.mem_cons_self)
  subst hsz
  have hD := hD0.self (sz := s.heap.size)
  generalize hAe : va_A [(h0, .inr (11, [.ref x_studio, .ref x_script, .ref x_teller, .ref x_planner, .ref x_plan, .ref x_drifts, .ref x_floor, .ref x_trial, .ref x_tape, .int 0, .int (-1)])), (x_floor, .inr (1, [.ref f_studio, .int 1, .int 0, .ref f_taken, .ref f_on, .ref f_queues, .ref f_queued, .ref f_engaged, .ref f_dressing, .ref f_dressed, .ref f_standing, .ref f_stations, .int 0, .ref f_limits, .ref f_worked, .int 0, .int 0, .int 0])), (f_standing, .inl (cT 0, 8, .inl fsg)), (o9, .inl (cT 2, 1, .inr (.inl fo)))] s.heap.size = A at hD hZ ⊢
  have hA : ∀ q : Nat, s.heap.size ≤ q → A q := fun q h => by rw [← hAe]; exact Or.inr h
  have hS : va_S A s.heap s.heap [] := va_S.rf
  have hP : va_P D vwCl [(h0, .inr (11, [.ref x_studio, .ref x_script, .ref x_teller, .ref x_planner, .ref x_plan, .ref x_drifts, .ref x_floor, .ref x_trial, .ref x_tape, .int 0, .int (-1)])), (x_floor, .inr (1, [.ref f_studio, .int 1, .int 0, .ref f_taken, .ref f_on, .ref f_queues, .ref f_queued, .ref f_engaged, .ref f_dressing, .ref f_dressed, .ref f_standing, .ref f_stations, .int 0, .ref f_limits, .ref f_worked, .int 0, .int 0, .int 0])), (f_standing, .inl (cT 0, 8, .inl fsg)), (o9, .inl (cT 2, 1, .inr (.inl fo)))] s.heap := hP
  have hl := lv_entry ([.ref h0, .int p0, .ref o9]) (n := 4) (Nat.le_of_ble_eq_true rfl)
  rw [lg_entry_eq]
  generalize (lg_sl ([.ref h0, .int p0, .ref o9]) ++ List.replicate (4 - (lg_sl ([.ref h0, .int p0, .ref o9])).length) Slot.unset).toArray = ls at hl ⊢
  have hl : lv_has ls 4 [(0, .ref h0), (1, .int p0), (2, .ref o9)] := hl
  refine lv_aload_n hx hb dL_stands_0 rfl (lv_at hl 2 rfl) ?_
  refine lv_iconst (v := 0) hx hb dL_stands_1 (by decide) ?_
  refine lv_aload_n hx hb dL_stands_2 rfl (lv_at hl 0 rfl) ?_
  refine lv_iload_n hx hb dL_stands_3 rfl (lv_at hl 1 rfl) ?_
  have hF := va_free (wc := [(h0, .inr (11, [.ref x_studio, .ref x_script, .ref x_teller, .ref x_planner, .ref x_plan, .ref x_drifts, .ref x_floor, .ref x_trial, .ref x_tape, .int 0, .int (-1)])), (x_floor, .inr (1, [.ref f_studio, .int 1, .int 0, .ref f_taken, .ref f_on, .ref f_queues, .ref f_queued, .ref f_engaged, .ref f_dressing, .ref f_dressed, .ref f_standing, .ref f_stations, .int 0, .ref f_limits, .ref f_worked, .int 0, .int 0, .int 0])), (f_standing, .inl (cT 0, 8, .inl fsg))]) hD hS hA [0, 1, 2] rfl
  refine vx_calli (vx_runV (As := [.int p0]) (rest := [.int 0, .ref o9]) ⟨hx, hb, hml, hown, hts⟩ (c_X11_stands l hst D cT h0 p0 x_studio x_script x_teller x_planner x_plan x_drifts x_floor x_trial x_tape f_studio f_taken f_on f_queues f_queued f_engaged f_dressing f_dressed f_standing f_stations f_limits f_worked fsg _ (by assumption)) (cwV 1 hts gL_stands_X11_stands rfl rfl rfl (by decide +kernel) ⟨Nat.le_of_ble_eq_true rfl, Nat.le_of_ble_eq_true rfl⟩) (pv_z hP hD hK hG hZ hS hF [0, 1, 2] rfl rfl rfl 0 rfl rfl) rfl rfl hl.1 rfl (lv_room (Nat.le_of_ble_eq_true rfl)) dL_stands_4 ⟨Nat.le_of_ble_eq_true rfl, Nat.le_of_ble_eq_true rfl⟩) hS (fun q _ h => hF q h) hF (fun q _ h => hF q h) (fun E ce q9 uu9 tt9 H locs ht hvm hw hB hz1 hk1 hS hq9 hv9 hc9 => ?_) (fun r_1 uu9 tt9 H locs ht hvm wr_1 hB hz1 hk1 hS => ?_)
  · obtain ⟨rfl, hpx⟩ := hB
    refine vx_widen (k := 1) (n := 6) (Nat.le_of_ble_eq_true rfl) (Nat.le_of_ble_eq_true rfl) ?_
    refine vx_catch (E := "java/lang/IllegalArgumentException") (name := "java/lang/IllegalArgumentException") hown [] ⟨0, 9, 12, 15⟩ [] htb (fun z hz => nomatch hz) (by decide) (by decide) (hts (.classLink RL 15 "java/lang/IllegalArgumentException") (List.mem_of_getElem? (i := 1) (by decide +kernel))) (gwB_any hG (Cond.castable "java/lang/IllegalArgumentException" "java/lang/IllegalArgumentException") (by decide +kernel)) hq9 hv9 hc9 ?_
    obtain ⟨hP, hD⟩ := va_join (wr := [(o9, .inl (cT 2, 1, .inr (.inl fo)))]) (w1 := []) hP hD [0, 1, 2] [3] rfl rfl (by decide) (by decide) hk1 hF vp_nil vd_nil
    have hP : va_P D vwCl [(o9, .inl (cT 2, 1, .inr (.inl fo)))] _ := hP
    have hD : va_D A [(o9, .inl (cT 2, 1, .inr (.inl fo)))] := hD
    refine W.eq (g2 := F0 m 12 ls [.ref q9]) rfl ?_
    refine lv_astore_n (lv' := [(3, .ref q9), (0, .ref h0), (1, .int p0), (2, .ref o9)]) hx hb dL_stands_12 rfl hl (by decide) rfl (fun ls hl => ?_)
    refine lv_iconst (v := 1) hx hb dL_stands_13 (by decide) ?_
    have hP9 := hP.sub (ws' := [(o9, .inl (cT 2, 1, .inr (.inl fo)))]) [0] rfl
    have hD9 := hD.sub (ws' := [(o9, .inl (cT 2, 1, .inr (.inl fo)))]) [0] (by decide) rfl
    exact W.iret (v := 1) hx hb hr (fun t ht hW => ⟨⟨1, (), rfl, hpx.symm, ⟨fo, fun h => absurd (hpx.symm.trans h) (by decide), by rw [ht]; exact hP9, hD9⟩⟩, hS.F ht⟩) hS.2.2 dL_stands_14
  · obtain ⟨hP, hD⟩ := va_join (wr := [(o9, .inl (cT 2, 1, .inr (.inl fo)))]) (w1 := []) hP hD [0, 1, 2] [3] rfl rfl (by decide) (by decide) hk1 hF vp_nil vd_nil
    have hP : va_P D vwCl [(o9, .inl (cT 2, 1, .inr (.inl fo)))] _ := hP
    have hD : va_D A [(o9, .inl (cT 2, 1, .inr (.inl fo)))] := hD
    refine W.widen (k := 1) (n := 6) (Nat.le_of_ble_eq_true rfl) (Nat.le_of_ble_eq_true rfl) ?_
    obtain ⟨j_2, ej_2⟩ : ∃ y : Int64, y = (r_1).toInt64 := ⟨_, rfl⟩
    refine lv_i2l (v := j_2) hx hb dL_stands_7 ej_2.symm ?_
    refine va_last hx hb hK hP hD hS 0 2 rfl rfl (by unfold vp_in; decide) dL_stands_8 (fun H locs hP hD hS => ?_)
    have hP : va_P D vwCl [(o9, .inl (cT 2, 1, .inr (.inl (vp_updL fo 0 j_2))))] _ := hP
    have hD : va_D A [(o9, .inl (cT 2, 1, .inr (.inl (vp_updL fo 0 j_2))))] := hD
    refine lv_goto (tgt := 15) hx hb dL_stands_9 (by decide) ?_
    refine lv_iconst (v := 0) hx hb dL_stands_15 (by decide) ?_
    have hP9 := hP.sub (ws' := [(o9, .inl (cT 2, 1, .inr (.inl (vp_updL fo 0 j_2))))]) [0] rfl
    have hD9 := hD.sub (ws' := [(o9, .inl (cT 2, 1, .inr (.inl (vp_updL fo 0 j_2))))]) [0] (by decide) rfl
    exact W.iret (v := 0) hx hb hr (fun t ht hW => ⟨⟨0, (), rfl, wr_1.1.symm, ⟨(vp_updL fo 0 j_2), fun _ => (if_pos rfl).trans (ej_2.trans (congrArg Int32.toInt64 wr_1.2)), by rw [ht]; exact hP9, hD9⟩⟩, hS.F ht⟩) hS.2.2 dL_stands_16
