theorem dL_told_0 : decode cL_told 0 = .ok (.aload_n 3, 1) := by decide +kernel
theorem dL_told_1 : decode cL_told 1 = .ok (.iconst 0, 1) := by decide +kernel
theorem dL_told_13 : decode cL_told 13 = .ok (.astore 4, 2) := by decide +kernel
theorem dL_told_15 : decode cL_told 15 = .ok (.iconst 1, 1) := by decide +kernel
theorem dL_told_16 : decode cL_told 16 = .ok (.ireturn, 1) := by decide +kernel
theorem dL_told_2 : decode cL_told 2 = .ok (.aload_n 0, 1) := by decide +kernel
theorem dL_told_3 : decode cL_told 3 = .ok (.iload_n 1, 1) := by decide +kernel
theorem dL_told_4 : decode cL_told 4 = .ok (.iload_n 2, 1) := by decide +kernel
theorem dL_told_5 : decode cL_told 5 = .ok (.invokevirtual 34, 3) := by decide +kernel
set_option maxRecDepth 100000 in
theorem zgL_told_X11_told_34_w : GoodIn zsL_told zsX11_told := goodIn_app (goodIn_sub (ws := [.code yX11_told cX11_told 4 (some .int)]) (fun _ h9 => List.mem_singleton.mp h9 ▸ List.mem_of_getElem? (i := 5) rfl) (by decide +kernel)) (goodIn_app (goodIn_app (goodIn_app (goodIn_sub (ws := [.methodLink RX11 166 yX11_needShot, .instanceMethod yX11_needShot, .selects RX11 yX11_needShot yX11_needShot, .initialized RX11, .code yX11_needShot cX11_needShot 3 (some (.object "PuppetFilm$Shot")), .classLink RX11 408 "java/util/NoSuchElementException", .initialized "java/util/NoSuchElementException", .fieldLink RX11 10 "PuppetFilm" "studio" "LPuppetFilm$Studio;", .methodLink RX11 271 yX8_shotAt, .instanceMethod yX8_shotAt, .selects RX8 yX8_shotAt yX8_shotAt, .initialized RX8, .code yX8_shotAt cX8_shotAt 2 (some (.object "PuppetFilm$Shot")), .fieldLink RX8 19 "PuppetFilm$Studio" "shots" "[LPuppetFilm$Shot;"]) (mem_ps [8, 9, 10, 4, 11, 12, 13, 14, 15, 16, 17, 18, 19, 20] (by decide +kernel)) (by decide +kernel)) (goodIn_sub (fun _ h => List.mem_cons_of_mem _ (List.mem_append_left _ (List.mem_append_left _ (List.mem_append_right _ h)))) (by decide +kernel))) (goodIn_sub (fun _ h => List.mem_cons_of_mem _ (List.mem_append_left _ (List.mem_append_right _ h))) (by decide +kernel))) (goodIn_sub (fun _ h => List.mem_cons_of_mem _ (List.mem_append_right _ h)) (by decide +kernel)))
set_option maxRecDepth 100000 in
theorem zgL_told_X11_told_34 : GoodIn zsL_told (wsV RL 34 RX11 yX11_told zsX11_told) := goodIn_app (goodIn_sub (mem_ps [1, 2, 3, 4] (by decide +kernel)) (by decide +kernel)) zgL_told_X11_told_34_w
set_option maxHeartbeats 4000000 in
set_option maxRecDepth 100000 in
theorem c_L_told (l : Launch) (hst : l.stackTraces = false) (D : va_G) (cT : Nat → ClassId) (h0 : Nat) (p0 : Int32) (p1 : Int32) (o9 : Nat) (x_studio : Nat) (x_script : Nat) (x_teller : Nat) (x_planner : Nat) (x_plan : Nat) (x_drifts : Nat) (x_floor : Nat) (x_trial : Nat) (x_tape : Nat) (s_puppets : Nat) (s_shots : Nat) (s_sounds : Nat) (s_rates : Nat) (s_dresses : Nat) (sz : Nat)  : Met l yL_told zsL_told ({ frames := 11, cells := 1, slots := 6, locals := 340 }) (va_Pc [.ref h0, .int p0, .int p1, .ref o9] (PZ D cT [(h0, .inr (11, [.ref x_studio, .ref x_script, .ref x_teller, .ref x_planner, .ref x_plan, .ref x_drifts, .ref x_floor, .ref x_trial, .ref x_tape, .int 0, .int (-1)])), (x_studio, .inr (8, [.ref s_puppets, .int 0, .ref s_shots, .int 0, .ref s_sounds, .ref s_rates, .ref s_dresses])), (s_shots, .inl (cT 5, 12, .inr (.inr (.inr (.inr (fun _ => none))))))] sz)) (va_Qi (fun (r : Int32) (_ : Unit) => r = 1) (fun (_ : Unit) (_ : State) => True) (va_A [(h0, .inr (11, [.ref x_studio, .ref x_script, .ref x_teller, .ref x_planner, .ref x_plan, .ref x_drifts, .ref x_floor, .ref x_trial, .ref x_tape, .int 0, .int (-1)])), (x_studio, .inr (8, [.ref s_puppets, .int 0, .ref s_shots, .int 0, .ref s_sounds, .ref s_rates, .ref s_dresses])), (s_shots, .inl (cT 5, 12, .inr (.inr (.inr (.inr (fun _ => none))))))] sz)) 1 6 (va_A [(h0, .inr (11, [.ref x_studio, .ref x_script, .ref x_teller, .ref x_planner, .ref x_plan, .ref x_drifts, .ref x_floor, .ref x_trial, .ref x_tape, .int 0, .int (-1)])), (x_studio, .inr (8, [.ref s_puppets, .int 0, .ref s_shots, .int 0, .ref s_sounds, .ref s_rates, .ref s_dresses])), (s_shots, .inl (cT 5, 12, .inr (.inr (.inr (.inr (fun _ => none))))))] sz) := by
  refine va_MetW (cc := cL_told) (maxL := 5) (ret := (some .int)) (by decide) rfl ?_
  intro p e s m args below meth c s₁ B hml hv
  obtain ⟨rfl, ⟨hsz, hP, hK, hD0, hG⟩, hZ⟩ := hv
  have hx := B.exec
  have hb := B.bytes
  have hr := B.returns
  have hts := atoms_spec (ws := zsL_told) B.pre
  have hown : s.vm.findClass RL = some m.cls := findClass_of_methodNamed B.named
  have hlocks := B.notSynchronized
  have htb := vx_table (x := yL_told) B (hts _ List.mem_cons_self)
  subst hsz
  have hD := hD0.self (sz := s.heap.size)
  generalize hAe : va_A [(h0, .inr (11, [.ref x_studio, .ref x_script, .ref x_teller, .ref x_planner, .ref x_plan, .ref x_drifts, .ref x_floor, .ref x_trial, .ref x_tape, .int 0, .int (-1)])), (x_studio, .inr (8, [.ref s_puppets, .int 0, .ref s_shots, .int 0, .ref s_sounds, .ref s_rates, .ref s_dresses])), (s_shots, .inl (cT 5, 12, .inr (.inr (.inr (.inr (fun _ => none))))))] s.heap.size = A at hD hZ ⊢
  have hA : ∀ q : Nat, s.heap.size ≤ q → A q := fun q h => by rw [← hAe]; exact Or.inr h
  have hS : va_S A s.heap s.heap [] := va_S.rf
  have hP : va_P D vwCl [(h0, .inr (11, [.ref x_studio, .ref x_script, .ref x_teller, .ref x_planner, .ref x_plan, .ref x_drifts, .ref x_floor, .ref x_trial, .ref x_tape, .int 0, .int (-1)])), (x_studio, .inr (8, [.ref s_puppets, .int 0, .ref s_shots, .int 0, .ref s_sounds, .ref s_rates, .ref s_dresses])), (s_shots, .inl (cT 5, 12, .inr (.inr (.inr (.inr (fun _ => none))))))] s.heap := hP
  have hl := lv_entry ([.ref h0, .int p0, .int p1, .ref o9]) (n := 5) (Nat.le_of_ble_eq_true rfl)
  rw [lg_entry_eq]
  generalize (lg_sl ([.ref h0, .int p0, .int p1, .ref o9]) ++ List.replicate (5 - (lg_sl ([.ref h0, .int p0, .int p1, .ref o9])).length) Slot.unset).toArray = ls at hl ⊢
  have hl : lv_has ls 5 [(0, .ref h0), (1, .int p0), (2, .int p1), (3, .ref o9)] := hl
  refine lv_aload_n hx hb dL_told_0 rfl (lv_at hl 3 rfl) ?_
  refine lv_iconst (v := 0) hx hb dL_told_1 (by decide) ?_
  refine lv_aload_n hx hb dL_told_2 rfl (lv_at hl 0 rfl) ?_
  refine lv_iload_n hx hb dL_told_3 rfl (lv_at hl 1 rfl) ?_
  refine lv_iload_n hx hb dL_told_4 rfl (lv_at hl 2 rfl) ?_
  have hF := va_free (wc := [(h0, .inr (11, [.ref x_studio, .ref x_script, .ref x_teller, .ref x_planner, .ref x_plan, .ref x_drifts, .ref x_floor, .ref x_trial, .ref x_tape, .int 0, .int (-1)])), (x_studio, .inr (8, [.ref s_puppets, .int 0, .ref s_shots, .int 0, .ref s_sounds, .ref s_rates, .ref s_dresses])), (s_shots, .inl (cT 5, 12, .inr (.inr (.inr (.inr (fun _ => none))))))]) hD hS hA [0, 1, 2] rfl
  refine vx_calli (vx_runV (As := [.int p0, .int p1]) (rest := [.int 0, .ref o9]) ⟨hx, hb, hml, hown, hts⟩ (z_X11_told l hst D cT h0 p0 p1 x_studio x_script x_teller x_planner x_plan x_drifts x_floor x_trial x_tape s_puppets s_shots s_sounds s_rates s_dresses _ ) (cwV 2 hts zgL_told_X11_told_34 rfl rfl rfl (by decide +kernel) ⟨Nat.le_of_ble_eq_true rfl, Nat.le_of_ble_eq_true rfl⟩) (pv_z hP hD hK hG hZ hS hF [0, 1, 2] rfl rfl rfl 0 rfl rfl) rfl rfl hl.1 rfl (lv_room (Nat.le_of_ble_eq_true rfl)) dL_told_5 ⟨Nat.le_of_ble_eq_true rfl, Nat.le_of_ble_eq_true rfl⟩) hS (fun q _ h => hF q h) hF (fun q _ h => hF q h) (fun E ce q9 uu9 tt9 H locs ht hvm hw hB hz1 hk1 hS hq9 hv9 hc9 => ?_) (fun r_1 uu9 tt9 H locs ht hvm wr_1 hB hz1 hk1 hS => wr_1.elim)
  obtain ⟨rfl, hpx⟩ := hB
  refine vx_widen (k := 1) (n := 6) (Nat.le_of_ble_eq_true rfl) (Nat.le_of_ble_eq_true rfl) ?_
  refine vx_catch (E := "java/util/NoSuchElementException") (name := "java/util/NoSuchElementException") hown [] ⟨0, 10, 13, 37⟩ [⟨0, 10, 17, 15⟩] htb (fun z hz => nomatch hz) (by decide) (by decide) (hts (.classLink RL 37 "java/util/NoSuchElementException") (List.mem_of_getElem? (i := 6) (by decide +kernel))) (gwB_any hG (Cond.castable "java/util/NoSuchElementException" "java/util/NoSuchElementException") (by decide +kernel)) hq9 hv9 hc9 ?_
  obtain ⟨hP, hD⟩ := va_join (wr := []) (w1 := []) hP hD [0, 1, 2] [] rfl rfl (by decide) (by decide) hk1 hF vp_nil vd_nil
  have hP : va_P D vwCl [] _ := hP
  have hD : va_D A [] := hD
  refine W.eq (g2 := F0 m 13 ls [.ref q9]) rfl ?_
  refine lv_astore (lv' := [(4, .ref q9), (0, .ref h0), (1, .int p0), (2, .int p1), (3, .ref o9)]) hx hb dL_told_13 hl (by decide) rfl (fun ls hl => ?_)
  refine lv_iconst (v := 1) hx hb dL_told_15 (by decide) ?_
  exact W.iret (v := 1) hx hb hr (fun t ht hW => ⟨⟨1, (), rfl, rfl, trivial⟩, hS.F ht⟩) hS.2.2 dL_told_16
theorem dL_step_0 : decode cL_step 0 = .ok (.aload 5, 2) := by decide +kernel
theorem dL_step_17 : decode cL_step 17 = .ok (.astore 6, 2) := by decide +kernel
theorem dL_step_19 : decode cL_step 19 = .ok (.iconst 1, 1) := by decide +kernel
theorem dL_step_2 : decode cL_step 2 = .ok (.iconst 0, 1) := by decide +kernel
theorem dL_step_20 : decode cL_step 20 = .ok (.ireturn, 1) := by decide +kernel
theorem dL_step_3 : decode cL_step 3 = .ok (.aload_n 0, 1) := by decide +kernel
theorem dL_step_4 : decode cL_step 4 = .ok (.iload_n 1, 1) := by decide +kernel
theorem dL_step_5 : decode cL_step 5 = .ok (.iload_n 2, 1) := by decide +kernel
theorem dL_step_6 : decode cL_step 6 = .ok (.iload_n 3, 1) := by decide +kernel
theorem dL_step_7 : decode cL_step 7 = .ok (.iload 4, 2) := by decide +kernel
theorem dL_step_9 : decode cL_step 9 = .ok (.invokevirtual 39, 3) := by decide +kernel
set_option maxRecDepth 100000 in
theorem zgL_step_X11_step_39_w : GoodIn zsL_step zsX11_step := goodIn_app (goodIn_sub (ws := [.code yX11_step cX11_step 7 (some .int)]) (fun _ h9 => List.mem_singleton.mp h9 ▸ List.mem_of_getElem? (i := 5) rfl) (by decide +kernel)) (goodIn_app (goodIn_app (goodIn_app (goodIn_sub (ws := [.methodLink RX11 166 yX11_needShot, .instanceMethod yX11_needShot, .selects RX11 yX11_needShot yX11_needShot, .initialized RX11, .code yX11_needShot cX11_needShot 3 (some (.object "PuppetFilm$Shot")), .classLink RX11 408 "java/util/NoSuchElementException", .initialized "java/util/NoSuchElementException", .fieldLink RX11 10 "PuppetFilm" "studio" "LPuppetFilm$Studio;", .methodLink RX11 271 yX8_shotAt, .instanceMethod yX8_shotAt, .selects RX8 yX8_shotAt yX8_shotAt, .initialized RX8, .code yX8_shotAt cX8_shotAt 2 (some (.object "PuppetFilm$Shot")), .fieldLink RX8 19 "PuppetFilm$Studio" "shots" "[LPuppetFilm$Shot;"]) (mem_ps [7, 8, 9, 4, 10, 11, 12, 13, 14, 15, 16, 17, 18, 19] (by decide +kernel)) (by decide +kernel)) (goodIn_sub (fun _ h => List.mem_cons_of_mem _ (List.mem_append_left _ (List.mem_append_left _ (List.mem_append_right _ h)))) (by decide +kernel))) (goodIn_sub (fun _ h => List.mem_cons_of_mem _ (List.mem_append_left _ (List.mem_append_right _ h))) (by decide +kernel))) (goodIn_sub (fun _ h => List.mem_cons_of_mem _ (List.mem_append_right _ h)) (by decide +kernel)))
set_option maxRecDepth 100000 in
theorem zgL_step_X11_step_39 : GoodIn zsL_step (wsV RL 39 RX11 yX11_step zsX11_step) := goodIn_app (goodIn_sub (mem_ps [1, 2, 3, 4] (by decide +kernel)) (by decide +kernel)) zgL_step_X11_step_39_w
set_option maxHeartbeats 4000000 in
set_option maxRecDepth 100000 in
theorem c_L_step (l : Launch) (hst : l.stackTraces = false) (D : va_G) (cT : Nat → ClassId) (h0 : Nat) (p0 : Int32) (p1 : Int32) (p2 : Int32) (p3 : Int32) (o9 : Nat) (x_studio : Nat) (x_script : Nat) (x_teller : Nat) (x_planner : Nat) (x_plan : Nat) (x_drifts : Nat) (x_floor : Nat) (x_trial : Nat) (x_tape : Nat) (s_puppets : Nat) (s_shots : Nat) (s_sounds : Nat) (s_rates : Nat) (s_dresses : Nat) (sz : Nat)  : Met l yL_step zsL_step ({ frames := 11, cells := 1, slots := 6, locals := 340 }) (va_Pc [.ref h0, .int p0, .int p1, .int p2, .int p3, .ref o9] (PZ D cT [(h0, .inr (11, [.ref x_studio, .ref x_script, .ref x_teller, .ref x_planner, .ref x_plan, .ref x_drifts, .ref x_floor, .ref x_trial, .ref x_tape, .int 0, .int (-1)])), (x_studio, .inr (8, [.ref s_puppets, .int 0, .ref s_shots, .int 0, .ref s_sounds, .ref s_rates, .ref s_dresses])), (s_shots, .inl (cT 5, 12, .inr (.inr (.inr (.inr (fun _ => none))))))] sz)) (va_Qi (fun (r : Int32) (_ : Unit) => r = 1) (fun (_ : Unit) (_ : State) => True) (va_A [(h0, .inr (11, [.ref x_studio, .ref x_script, .ref x_teller, .ref x_planner, .ref x_plan, .ref x_drifts, .ref x_floor, .ref x_trial, .ref x_tape, .int 0, .int (-1)])), (x_studio, .inr (8, [.ref s_puppets, .int 0, .ref s_shots, .int 0, .ref s_sounds, .ref s_rates, .ref s_dresses])), (s_shots, .inl (cT 5, 12, .inr (.inr (.inr (.inr (fun _ => none))))))] sz)) 1 6 (va_A [(h0, .inr (11, [.ref x_studio, .ref x_script, .ref x_teller, .ref x_planner, .ref x_plan, .ref x_drifts, .ref x_floor, .ref x_trial, .ref x_tape, .int 0, .int (-1)])), (x_studio, .inr (8, [.ref s_puppets, .int 0, .ref s_shots, .int 0, .ref s_sounds, .ref s_rates, .ref s_dresses])), (s_shots, .inl (cT 5, 12, .inr (.inr (.inr (.inr (fun _ => none))))))] sz) := by
  refine va_MetW (cc := cL_step) (maxL := 7) (ret := (some .int)) (by decide) rfl ?_
  intro p e s m args below meth c s₁ B hml hv
  obtain ⟨rfl, ⟨hsz, hP, hK, hD0, hG⟩, hZ⟩ := hv
  have hx := B.exec
  have hb := B.bytes
  have hr := B.returns
  have hts := atoms_spec (ws := zsL_step) B.pre
  have hown : s.vm.findClass RL = some m.cls := findClass_of_methodNamed B.named
  have hlocks := B.notSynchronized
  have htb := vx_table (x := yL_step) B (hts _ List.mem_cons_self)
  subst hsz
  have hD := hD0.self (sz := s.heap.size)
  generalize hAe : va_A [(h0, .inr (11, [.ref x_studio, .ref x_script, .ref x_teller, .ref x_planner, .ref x_plan, .ref x_drifts, .ref x_floor, .ref x_trial, .ref x_tape, .int 0, .int (-1)])), (x_studio, .inr (8, [.ref s_puppets, .int 0, .ref s_shots, .int 0, .ref s_sounds, .ref s_rates, .ref s_dresses])), (s_shots, .inl (cT 5, 12, .inr (.inr (.inr (.inr (fun _ => none))))))] s.heap.size = A at hD hZ ⊢
  have hA : ∀ q : Nat, s.heap.size ≤ q → A q := fun q h => by rw [← hAe]; exact Or.inr h
  have hS : va_S A s.heap s.heap [] := va_S.rf
  have hP : va_P D vwCl [(h0, .inr (11, [.ref x_studio, .ref x_script, .ref x_teller, .ref x_planner, .ref x_plan, .ref x_drifts, .ref x_floor, .ref x_trial, .ref x_tape, .int 0, .int (-1)])), (x_studio, .inr (8, [.ref s_puppets, .int 0, .ref s_shots, .int 0, .ref s_sounds, .ref s_rates, .ref s_dresses])), (s_shots, .inl (cT 5, 12, .inr (.inr (.inr (.inr (fun _ => none))))))] s.heap := hP
  have hl := lv_entry ([.ref h0, .int p0, .int p1, .int p2, .int p3, .ref o9]) (n := 7) (Nat.le_of_ble_eq_true rfl)
  rw [lg_entry_eq]
  generalize (lg_sl ([.ref h0, .int p0, .int p1, .int p2, .int p3, .ref o9]) ++ List.replicate (7 - (lg_sl ([.ref h0, .int p0, .int p1, .int p2, .int p3, .ref o9])).length) Slot.unset).toArray = ls at hl ⊢
  have hl : lv_has ls 7 [(0, .ref h0), (1, .int p0), (2, .int p1), (3, .int p2), (4, .int p3), (5, .ref o9)] := hl
  refine lv_aload hx hb dL_step_0 (lv_at hl 5 rfl) ?_
  refine lv_iconst (v := 0) hx hb dL_step_2 (by decide) ?_
  refine lv_aload_n hx hb dL_step_3 rfl (lv_at hl 0 rfl) ?_
  refine lv_iload_n hx hb dL_step_4 rfl (lv_at hl 1 rfl) ?_
  refine lv_iload_n hx hb dL_step_5 rfl (lv_at hl 2 rfl) ?_
  refine lv_iload_n hx hb dL_step_6 rfl (lv_at hl 3 rfl) ?_
  refine lv_iload hx hb dL_step_7 (lv_at hl 4 rfl) ?_
  have hF := va_free (wc := [(h0, .inr (11, [.ref x_studio, .ref x_script, .ref x_teller, .ref x_planner, .ref x_plan, .ref x_drifts, .ref x_floor, .ref x_trial, .ref x_tape, .int 0, .int (-1)])), (x_studio, .inr (8, [.ref s_puppets, .int 0, .ref s_shots, .int 0, .ref s_sounds, .ref s_rates, .ref s_dresses])), (s_shots, .inl (cT 5, 12, .inr (.inr (.inr (.inr (fun _ => none))))))]) hD hS hA [0, 1, 2] rfl
  refine vx_calli (vx_runV (As := [.int p0, .int p1, .int p2, .int p3]) (rest := [.int 0, .ref o9]) ⟨hx, hb, hml, hown, hts⟩ (z_X11_step l hst D cT h0 p0 p1 p2 p3 x_studio x_script x_teller x_planner x_plan x_drifts x_floor x_trial x_tape s_puppets s_shots s_sounds s_rates s_dresses _ ) (cwV 4 hts zgL_step_X11_step_39 rfl rfl rfl (by decide +kernel) ⟨Nat.le_of_ble_eq_true rfl, Nat.le_of_ble_eq_true rfl⟩) (pv_z hP hD hK hG hZ hS hF [0, 1, 2] rfl rfl rfl 0 rfl rfl) rfl rfl hl.1 rfl (lv_room (Nat.le_of_ble_eq_true rfl)) dL_step_9 ⟨Nat.le_of_ble_eq_true rfl, Nat.le_of_ble_eq_true rfl⟩) hS (fun q _ h => hF q h) hF (fun q _ h => hF q h) (fun E ce q9 uu9 tt9 H locs ht hvm hw hB hz1 hk1 hS hq9 hv9 hc9 => ?_) (fun r_1 uu9 tt9 H locs ht hvm wr_1 hB hz1 hk1 hS => wr_1.elim)
  obtain ⟨rfl, hpx⟩ := hB
  refine vx_widen (k := 1) (n := 6) (Nat.le_of_ble_eq_true rfl) (Nat.le_of_ble_eq_true rfl) ?_
  refine vx_catch (E := "java/util/NoSuchElementException") (name := "java/util/NoSuchElementException") hown [] ⟨0, 14, 17, 37⟩ [] htb (fun z hz => nomatch hz) (by decide) (by decide) (hts (.classLink RL 37 "java/util/NoSuchElementException") (List.mem_of_getElem? (i := 6) (by decide +kernel))) (gwB_any hG (Cond.castable "java/util/NoSuchElementException" "java/util/NoSuchElementException") (by decide +kernel)) hq9 hv9 hc9 ?_
  obtain ⟨hP, hD⟩ := va_join (wr := []) (w1 := []) hP hD [0, 1, 2] [] rfl rfl (by decide) (by decide) hk1 hF vp_nil vd_nil
  have hP : va_P D vwCl [] _ := hP
  have hD : va_D A [] := hD
  refine W.eq (g2 := F0 m 17 ls [.ref q9]) rfl ?_
  refine lv_astore (lv' := [(6, .ref q9), (0, .ref h0), (1, .int p0), (2, .int p1), (3, .int p2), (4, .int p3), (5, .ref o9)]) hx hb dL_step_17 hl (by decide) rfl (fun ls hl => ?_)
  refine lv_iconst (v := 1) hx hb dL_step_19 (by decide) ?_
  exact W.iret (v := 1) hx hb hr (fun t ht hW => ⟨⟨1, (), rfl, rfl, trivial⟩, hS.F ht⟩) hS.2.2 dL_step_20
theorem dL_mouth_0 : decode cL_mouth 0 = .ok (.aload 4, 2) := by decide +kernel
theorem dL_mouth_15 : decode cL_mouth 15 = .ok (.astore 5, 2) := by decide +kernel
theorem dL_mouth_17 : decode cL_mouth 17 = .ok (.iconst 1, 1) := by decide +kernel
theorem dL_mouth_18 : decode cL_mouth 18 = .ok (.ireturn, 1) := by decide +kernel
theorem dL_mouth_2 : decode cL_mouth 2 = .ok (.iconst 0, 1) := by decide +kernel
theorem dL_mouth_3 : decode cL_mouth 3 = .ok (.aload_n 0, 1) := by decide +kernel
theorem dL_mouth_4 : decode cL_mouth 4 = .ok (.iload_n 1, 1) := by decide +kernel
theorem dL_mouth_5 : decode cL_mouth 5 = .ok (.iload_n 2, 1) := by decide +kernel
theorem dL_mouth_6 : decode cL_mouth 6 = .ok (.iload_n 3, 1) := by decide +kernel
theorem dL_mouth_7 : decode cL_mouth 7 = .ok (.invokevirtual 43, 3) := by decide +kernel
set_option maxRecDepth 100000 in
theorem zgL_mouth_X11_mouth_43_w : GoodIn zsL_mouth zsX11_mouth := goodIn_app (goodIn_sub (ws := [.code yX11_mouth cX11_mouth 5 (some .int)]) (fun _ h9 => List.mem_singleton.mp h9 ▸ List.mem_of_getElem? (i := 5) rfl) (by decide +kernel)) (goodIn_app (goodIn_app (goodIn_app (goodIn_sub (ws := [.methodLink RX11 166 yX11_needShot, .instanceMethod yX11_needShot, .selects RX11 yX11_needShot yX11_needShot, .initialized RX11, .code yX11_needShot cX11_needShot 3 (some (.object "PuppetFilm$Shot")), .classLink RX11 408 "java/util/NoSuchElementException", .initialized "java/util/NoSuchElementException", .fieldLink RX11 10 "PuppetFilm" "studio" "LPuppetFilm$Studio;", .methodLink RX11 271 yX8_shotAt, .instanceMethod yX8_shotAt, .selects RX8 yX8_shotAt yX8_shotAt, .initialized RX8, .code yX8_shotAt cX8_shotAt 2 (some (.object "PuppetFilm$Shot")), .fieldLink RX8 19 "PuppetFilm$Studio" "shots" "[LPuppetFilm$Shot;"]) (mem_ps [7, 8, 9, 4, 10, 11, 12, 13, 14, 15, 16, 17, 18, 19] (by decide +kernel)) (by decide +kernel)) (goodIn_sub (fun _ h => List.mem_cons_of_mem _ (List.mem_append_left _ (List.mem_append_left _ (List.mem_append_right _ h)))) (by decide +kernel))) (goodIn_sub (fun _ h => List.mem_cons_of_mem _ (List.mem_append_left _ (List.mem_append_right _ h))) (by decide +kernel))) (goodIn_sub (fun _ h => List.mem_cons_of_mem _ (List.mem_append_right _ h)) (by decide +kernel)))
set_option maxRecDepth 100000 in
theorem zgL_mouth_X11_mouth_43 : GoodIn zsL_mouth (wsV RL 43 RX11 yX11_mouth zsX11_mouth) := goodIn_app (goodIn_sub (mem_ps [1, 2, 3, 4] (by decide +kernel)) (by decide +kernel)) zgL_mouth_X11_mouth_43_w
set_option maxHeartbeats 4000000 in
set_option maxRecDepth 100000 in
theorem c_L_mouth (l : Launch) (hst : l.stackTraces = false) (D : va_G) (cT : Nat → ClassId) (h0 : Nat) (p0 : Int32) (p1 : Int32) (p2 : Int32) (o9 : Nat) (x_studio : Nat) (x_script : Nat) (x_teller : Nat) (x_planner : Nat) (x_plan : Nat) (x_drifts : Nat) (x_floor : Nat) (x_trial : Nat) (x_tape : Nat) (s_puppets : Nat) (s_shots : Nat) (s_sounds : Nat) (s_rates : Nat) (s_dresses : Nat) (sz : Nat)  : Met l yL_mouth zsL_mouth ({ frames := 11, cells := 1, slots := 6, locals := 340 }) (va_Pc [.ref h0, .int p0, .int p1, .int p2, .ref o9] (PZ D cT [(h0, .inr (11, [.ref x_studio, .ref x_script, .ref x_teller, .ref x_planner, .ref x_plan, .ref x_drifts, .ref x_floor, .ref x_trial, .ref x_tape, .int 0, .int (-1)])), (x_studio, .inr (8, [.ref s_puppets, .int 0, .ref s_shots, .int 0, .ref s_sounds, .ref s_rates, .ref s_dresses])), (s_shots, .inl (cT 5, 12, .inr (.inr (.inr (.inr (fun _ => none))))))] sz)) (va_Qi (fun (r : Int32) (_ : Unit) => r = 1) (fun (_ : Unit) (_ : State) => True) (va_A [(h0, .inr (11, [.ref x_studio, .ref x_script, .ref x_teller, .ref x_planner, .ref x_plan, .ref x_drifts, .ref x_floor, .ref x_trial, .ref x_tape, .int 0, .int (-1)])), (x_studio, .inr (8, [.ref s_puppets, .int 0, .ref s_shots, .int 0, .ref s_sounds, .ref s_rates, .ref s_dresses])), (s_shots, .inl (cT 5, 12, .inr (.inr (.inr (.inr (fun _ => none))))))] sz)) 1 6 (va_A [(h0, .inr (11, [.ref x_studio, .ref x_script, .ref x_teller, .ref x_planner, .ref x_plan, .ref x_drifts, .ref x_floor, .ref x_trial, .ref x_tape, .int 0, .int (-1)])), (x_studio, .inr (8, [.ref s_puppets, .int 0, .ref s_shots, .int 0, .ref s_sounds, .ref s_rates, .ref s_dresses])), (s_shots, .inl (cT 5, 12, .inr (.inr (.inr (.inr (fun _ => none))))))] sz) := by
  refine va_MetW (cc := cL_mouth) (maxL := 6) (ret := (some .int)) (by decide) rfl ?_
  intro p e s m args below meth c s₁ B hml hv
  obtain ⟨rfl, ⟨hsz, hP, hK, hD0, hG⟩, hZ⟩ := hv
  have hx := B.exec
  have hb := B.bytes
  have hr := B.returns
  have hts := atoms_spec (ws := zsL_mouth) B.pre
  have hown : s.vm.findClass RL = some m.cls := findClass_of_methodNamed B.named
  have hlocks := B.notSynchronized
  have htb := vx_table (x := yL_mouth) B (hts _ List.mem_cons_self)
  subst hsz
  have hD := hD0.self (sz := s.heap.size)
  generalize hAe : va_A [(h0, .inr (11, [.ref x_studio, .ref x_script, .ref x_teller, .ref x_planner, .ref x_plan, .ref x_drifts, .ref x_floor, .ref x_trial, .ref x_tape, .int 0, .int (-1)])), (x_studio, .inr (8, [.ref s_puppets, .int 0, .ref s_shots, .int 0, .ref s_sounds, .ref s_rates, .ref s_dresses])), (s_shots, .inl (cT 5, 12, .inr (.inr (.inr (.inr (fun _ => none))))))] s.heap.size = A at hD hZ ⊢
  have hA : ∀ q : Nat, s.heap.size ≤ q → A q := fun q h => by rw [← hAe]; exact Or.inr h
  have hS : va_S A s.heap s.heap [] := va_S.rf
  have hP : va_P D vwCl [(h0, .inr (11, [.ref x_studio, .ref x_script, .ref x_teller, .ref x_planner, .ref x_plan, .ref x_drifts, .ref x_floor, .ref x_trial, .ref x_tape, .int 0, .int (-1)])), (x_studio, .inr (8, [.ref s_puppets, .int 0, .ref s_shots, .int 0, .ref s_sounds, .ref s_rates, .ref s_dresses])), (s_shots, .inl (cT 5, 12, .inr (.inr (.inr (.inr (fun _ => none))))))] s.heap := hP
  have hl := lv_entry ([.ref h0, .int p0, .int p1, .int p2, .ref o9]) (n := 6) (Nat.le_of_ble_eq_true rfl)
  rw [lg_entry_eq]
  generalize (lg_sl ([.ref h0, .int p0, .int p1, .int p2, .ref o9]) ++ List.replicate (6 - (lg_sl ([.ref h0, .int p0, .int p1, .int p2, .ref o9])).length) Slot.unset).toArray = ls at hl ⊢
  have hl : lv_has ls 6 [(0, .ref h0), (1, .int p0), (2, .int p1), (3, .int p2), (4, .ref o9)] := hl
  refine lv_aload hx hb dL_mouth_0 (lv_at hl 4 rfl) ?_
  refine lv_iconst (v := 0) hx hb dL_mouth_2 (by decide) ?_
  refine lv_aload_n hx hb dL_mouth_3 rfl (lv_at hl 0 rfl) ?_
  refine lv_iload_n hx hb dL_mouth_4 rfl (lv_at hl 1 rfl) ?_
  refine lv_iload_n hx hb dL_mouth_5 rfl (lv_at hl 2 rfl) ?_
  refine lv_iload_n hx hb dL_mouth_6 rfl (lv_at hl 3 rfl) ?_
  have hF := va_free (wc := [(h0, .inr (11, [.ref x_studio, .ref x_script, .ref x_teller, .ref x_planner, .ref x_plan, .ref x_drifts, .ref x_floor, .ref x_trial, .ref x_tape, .int 0, .int (-1)])), (x_studio, .inr (8, [.ref s_puppets, .int 0, .ref s_shots, .int 0, .ref s_sounds, .ref s_rates, .ref s_dresses])), (s_shots, .inl (cT 5, 12, .inr (.inr (.inr (.inr (fun _ => none))))))]) hD hS hA [0, 1, 2] rfl
  refine vx_calli (vx_runV (As := [.int p0, .int p1, .int p2]) (rest := [.int 0, .ref o9]) ⟨hx, hb, hml, hown, hts⟩ (z_X11_mouth l hst D cT h0 p0 p1 p2 x_studio x_script x_teller x_planner x_plan x_drifts x_floor x_trial x_tape s_puppets s_shots s_sounds s_rates s_dresses _ ) (cwV 3 hts zgL_mouth_X11_mouth_43 rfl rfl rfl (by decide +kernel) ⟨Nat.le_of_ble_eq_true rfl, Nat.le_of_ble_eq_true rfl⟩) (pv_z hP hD hK hG hZ hS hF [0, 1, 2] rfl rfl rfl 0 rfl rfl) rfl rfl hl.1 rfl (lv_room (Nat.le_of_ble_eq_true rfl)) dL_mouth_7 ⟨Nat.le_of_ble_eq_true rfl, Nat.le_of_ble_eq_true rfl⟩) hS (fun q _ h => hF q h) hF (fun q _ h => hF q h) (fun E ce q9 uu9 tt9 H locs ht hvm hw hB hz1 hk1 hS hq9 hv9 hc9 => ?_) (fun r_1 uu9 tt9 H locs ht hvm wr_1 hB hz1 hk1 hS => wr_1.elim)
  obtain ⟨rfl, hpx⟩ := hB
  refine vx_widen (k := 1) (n := 6) (Nat.le_of_ble_eq_true rfl) (Nat.le_of_ble_eq_true rfl) ?_
  refine vx_catch (E := "java/util/NoSuchElementException") (name := "java/util/NoSuchElementException") hown [] ⟨0, 12, 15, 37⟩ [] htb (fun z hz => nomatch hz) (by decide) (by decide) (hts (.classLink RL 37 "java/util/NoSuchElementException") (List.mem_of_getElem? (i := 6) (by decide +kernel))) (gwB_any hG (Cond.castable "java/util/NoSuchElementException" "java/util/NoSuchElementException") (by decide +kernel)) hq9 hv9 hc9 ?_
  obtain ⟨hP, hD⟩ := va_join (wr := []) (w1 := []) hP hD [0, 1, 2] [] rfl rfl (by decide) (by decide) hk1 hF vp_nil vd_nil
  have hP : va_P D vwCl [] _ := hP
  have hD : va_D A [] := hD
  refine W.eq (g2 := F0 m 15 ls [.ref q9]) rfl ?_
  refine lv_astore (lv' := [(5, .ref q9), (0, .ref h0), (1, .int p0), (2, .int p1), (3, .int p2), (4, .ref o9)]) hx hb dL_mouth_15 hl (by decide) rfl (fun ls hl => ?_)
  refine lv_iconst (v := 1) hx hb dL_mouth_17 (by decide) ?_
  exact W.iret (v := 1) hx hb hr (fun t ht hW => ⟨⟨1, (), rfl, rfl, trivial⟩, hS.F ht⟩) hS.2.2 dL_mouth_18
theorem dL_camera_0 : decode cL_camera 0 = .ok (.aload 4, 2) := by decide +kernel
theorem dL_camera_15 : decode cL_camera 15 = .ok (.astore 5, 2) := by decide +kernel
theorem dL_camera_17 : decode cL_camera 17 = .ok (.iconst 1, 1) := by decide +kernel
theorem dL_camera_18 : decode cL_camera 18 = .ok (.ireturn, 1) := by decide +kernel
theorem dL_camera_2 : decode cL_camera 2 = .ok (.iconst 0, 1) := by decide +kernel
theorem dL_camera_3 : decode cL_camera 3 = .ok (.aload_n 0, 1) := by decide +kernel
theorem dL_camera_4 : decode cL_camera 4 = .ok (.iload_n 1, 1) := by decide +kernel
theorem dL_camera_5 : decode cL_camera 5 = .ok (.iload_n 2, 1) := by decide +kernel
theorem dL_camera_6 : decode cL_camera 6 = .ok (.iload_n 3, 1) := by decide +kernel
theorem dL_camera_7 : decode cL_camera 7 = .ok (.invokevirtual 47, 3) := by decide +kernel
set_option maxRecDepth 100000 in
theorem zgL_camera_X11_camera_47_w : GoodIn zsL_camera zsX11_camera := goodIn_app (goodIn_sub (ws := [.code yX11_camera cX11_camera 5 (some .int)]) (fun _ h9 => List.mem_singleton.mp h9 ▸ List.mem_of_getElem? (i := 5) rfl) (by decide +kernel)) (goodIn_app (goodIn_app (goodIn_app (goodIn_sub (ws := [.methodLink RX11 166 yX11_needShot, .instanceMethod yX11_needShot, .selects RX11 yX11_needShot yX11_needShot, .initialized RX11, .code yX11_needShot cX11_needShot 3 (some (.object "PuppetFilm$Shot")), .classLink RX11 408 "java/util/NoSuchElementException", .initialized "java/util/NoSuchElementException", .fieldLink RX11 10 "PuppetFilm" "studio" "LPuppetFilm$Studio;", .methodLink RX11 271 yX8_shotAt, .instanceMethod yX8_shotAt, .selects RX8 yX8_shotAt yX8_shotAt, .initialized RX8, .code yX8_shotAt cX8_shotAt 2 (some (.object "PuppetFilm$Shot")), .fieldLink RX8 19 "PuppetFilm$Studio" "shots" "[LPuppetFilm$Shot;"]) (mem_ps [7, 8, 9, 4, 10, 11, 12, 13, 14, 15, 16, 17, 18, 19] (by decide +kernel)) (by decide +kernel)) (goodIn_sub (fun _ h => List.mem_cons_of_mem _ (List.mem_append_left _ (List.mem_append_left _ (List.mem_append_right _ h)))) (by decide +kernel))) (goodIn_sub (fun _ h => List.mem_cons_of_mem _ (List.mem_append_left _ (List.mem_append_right _ h))) (by decide +kernel))) (goodIn_sub (fun _ h => List.mem_cons_of_mem _ (List.mem_append_right _ h)) (by decide +kernel)))
set_option maxRecDepth 100000 in
theorem zgL_camera_X11_camera_47 : GoodIn zsL_camera (wsV RL 47 RX11 yX11_camera zsX11_camera) := goodIn_app (goodIn_sub (mem_ps [1, 2, 3, 4] (by decide +kernel)) (by decide +kernel)) zgL_camera_X11_camera_47_w
set_option maxHeartbeats 4000000 in
set_option maxRecDepth 100000 in
theorem c_L_camera (l : Launch) (hst : l.stackTraces = false) (D : va_G) (cT : Nat → ClassId) (h0 : Nat) (p0 : Int32) (p1 : Int32) (p2 : Int32) (o9 : Nat) (x_studio : Nat) (x_script : Nat) (x_teller : Nat) (x_planner : Nat) (x_plan : Nat) (x_drifts : Nat) (x_floor : Nat) (x_trial : Nat) (x_tape : Nat) (s_puppets : Nat) (s_shots : Nat) (s_sounds : Nat) (s_rates : Nat) (s_dresses : Nat) (sz : Nat)  : Met l yL_camera zsL_camera ({ frames := 11, cells := 1, slots := 6, locals := 340 }) (va_Pc [.ref h0, .int p0, .int p1, .int p2, .ref o9] (PZ D cT [(h0, .inr (11, [.ref x_studio, .ref x_script, .ref x_teller, .ref x_planner, .ref x_plan, .ref x_drifts, .ref x_floor, .ref x_trial, .ref x_tape, .int 0, .int (-1)])), (x_studio, .inr (8, [.ref s_puppets, .int 0, .ref s_shots, .int 0, .ref s_sounds, .ref s_rates, .ref s_dresses])), (s_shots, .inl (cT 5, 12, .inr (.inr (.inr (.inr (fun _ => none))))))] sz)) (va_Qi (fun (r : Int32) (_ : Unit) => r = 1) (fun (_ : Unit) (_ : State) => True) (va_A [(h0, .inr (11, [.ref x_studio, .ref x_script, .ref x_teller, .ref x_planner, .ref x_plan, .ref x_drifts, .ref x_floor, .ref x_trial, .ref x_tape, .int 0, .int (-1)])), (x_studio, .inr (8, [.ref s_puppets, .int 0, .ref s_shots, .int 0, .ref s_sounds, .ref s_rates, .ref s_dresses])), (s_shots, .inl (cT 5, 12, .inr (.inr (.inr (.inr (fun _ => none))))))] sz)) 1 6 (va_A [(h0, .inr (11, [.ref x_studio, .ref x_script, .ref x_teller, .ref x_planner, .ref x_plan, .ref x_drifts, .ref x_floor, .ref x_trial, .ref x_tape, .int 0, .int (-1)])), (x_studio, .inr (8, [.ref s_puppets, .int 0, .ref s_shots, .int 0, .ref s_sounds, .ref s_rates, .ref s_dresses])), (s_shots, .inl (cT 5, 12, .inr (.inr (.inr (.inr (fun _ => none))))))] sz) := by
  refine va_MetW (cc := cL_camera) (maxL := 6) (ret := (some .int)) (by decide) rfl ?_
  intro p e s m args below meth c s₁ B hml hv
  obtain ⟨rfl, ⟨hsz, hP, hK, hD0, hG⟩, hZ⟩ := hv
  have hx := B.exec
  have hb := B.bytes
  have hr := B.returns
  have hts := atoms_spec (ws := zsL_camera) B.pre
  have hown : s.vm.findClass RL = some m.cls := findClass_of_methodNamed B.named
  have hlocks := B.notSynchronized
  have htb := vx_table (x := yL_camera) B (hts _ List.mem_cons_self)
  subst hsz
  have hD := hD0.self (sz := s.heap.size)
  generalize hAe : va_A [(h0, .inr (11, [.ref x_studio, .ref x_script, .ref x_teller, .ref x_planner, .ref x_plan, .ref x_drifts, .ref x_floor, .ref x_trial, .ref x_tape, .int 0, .int (-1)])), (x_studio, .inr (8, [.ref s_puppets, .int 0, .ref s_shots, .int 0, .ref s_sounds, .ref s_rates, .ref s_dresses])), (s_shots, .inl (cT 5, 12, .inr (.inr (.inr (.inr (fun _ => none))))))] s.heap.size = A at hD hZ ⊢
  have hA : ∀ q : Nat, s.heap.size ≤ q → A q := fun q h => by rw [← hAe]; exact Or.inr h
  have hS : va_S A s.heap s.heap [] := va_S.rf
  have hP : va_P D vwCl [(h0, .inr (11, [.ref x_studio, .ref x_script, .ref x_teller, .ref x_planner, .ref x_plan, .ref x_drifts, .ref x_floor, .ref x_trial, .ref x_tape, .int 0, .int (-1)])), (x_studio, .inr (8, [.ref s_puppets, .int 0, .ref s_shots, .int 0, .ref s_sounds, .ref s_rates, .ref s_dresses])), (s_shots, .inl (cT 5, 12, .inr (.inr (.inr (.inr (fun _ => none))))))] s.heap := hP
  have hl := lv_entry ([.ref h0, .int p0, .int p1, .int p2, .ref o9]) (n := 6) (Nat.le_of_ble_eq_true rfl)
  rw [lg_entry_eq]
  generalize (lg_sl ([.ref h0, .int p0, .int p1, .int p2, .ref o9]) ++ List.replicate (6 - (lg_sl ([.ref h0, .int p0, .int p1, .int p2, .ref o9])).length) Slot.unset).toArray = ls at hl ⊢
  have hl : lv_has ls 6 [(0, .ref h0), (1, .int p0), (2, .int p1), (3, .int p2), (4, .ref o9)] := hl
  refine lv_aload hx hb dL_camera_0 (lv_at hl 4 rfl) ?_
  refine lv_iconst (v := 0) hx hb dL_camera_2 (by decide) ?_
  refine lv_aload_n hx hb dL_camera_3 rfl (lv_at hl 0 rfl) ?_
  refine lv_iload_n hx hb dL_camera_4 rfl (lv_at hl 1 rfl) ?_
  refine lv_iload_n hx hb dL_camera_5 rfl (lv_at hl 2 rfl) ?_
  refine lv_iload_n hx hb dL_camera_6 rfl (lv_at hl 3 rfl) ?_
  have hF := va_free (wc := [(h0, .inr (11, [.ref x_studio, .ref x_script, .ref x_teller, .ref x_planner, .ref x_plan, .ref x_drifts, .ref x_floor, .ref x_trial, .ref x_tape, .int 0, .int (-1)])), (x_studio, .inr (8, [.ref s_puppets, .int 0, .ref s_shots, .int 0, .ref s_sounds, .ref s_rates, .ref s_dresses])), (s_shots, .inl (cT 5, 12, .inr (.inr (.inr (.inr (fun _ => none))))))]) hD hS hA [0, 1, 2] rfl
  refine vx_calli (vx_runV (As := [.int p0, .int p1, .int p2]) (rest := [.int 0, .ref o9]) ⟨hx, hb, hml, hown, hts⟩ (z_X11_camera l hst D cT h0 p0 p1 p2 x_studio x_script x_teller x_planner x_plan x_drifts x_floor x_trial x_tape s_puppets s_shots s_sounds s_rates s_dresses _ ) (cwV 3 hts zgL_camera_X11_camera_47 rfl rfl rfl (by decide +kernel) ⟨Nat.le_of_ble_eq_true rfl, Nat.le_of_ble_eq_true rfl⟩) (pv_z hP hD hK hG hZ hS hF [0, 1, 2] rfl rfl rfl 0 rfl rfl) rfl rfl hl.1 rfl (lv_room (Nat.le_of_ble_eq_true rfl)) dL_camera_7 ⟨Nat.le_of_ble_eq_true rfl, Nat.le_of_ble_eq_true rfl⟩) hS (fun q _ h => hF q h) hF (fun q _ h => hF q h) (fun E ce q9 uu9 tt9 H locs ht hvm hw hB hz1 hk1 hS hq9 hv9 hc9 => ?_) (fun r_1 uu9 tt9 H locs ht hvm wr_1 hB hz1 hk1 hS => wr_1.elim)
  obtain ⟨rfl, hpx⟩ := hB
  refine vx_widen (k := 1) (n := 6) (Nat.le_of_ble_eq_true rfl) (Nat.le_of_ble_eq_true rfl) ?_
  refine vx_catch (E := "java/util/NoSuchElementException") (name := "java/util/NoSuchElementException") hown [] ⟨0, 12, 15, 37⟩ [] htb (fun z hz => nomatch hz) (by decide) (by decide) (hts (.classLink RL 37 "java/util/NoSuchElementException") (List.mem_of_getElem? (i := 6) (by decide +kernel))) (gwB_any hG (Cond.castable "java/util/NoSuchElementException" "java/util/NoSuchElementException") (by decide +kernel)) hq9 hv9 hc9 ?_
  obtain ⟨hP, hD⟩ := va_join (wr := []) (w1 := []) hP hD [0, 1, 2] [] rfl rfl (by decide) (by decide) hk1 hF vp_nil vd_nil
  have hP : va_P D vwCl [] _ := hP
  have hD : va_D A [] := hD
  refine W.eq (g2 := F0 m 15 ls [.ref q9]) rfl ?_
  refine lv_astore (lv' := [(5, .ref q9), (0, .ref h0), (1, .int p0), (2, .int p1), (3, .int p2), (4, .ref o9)]) hx hb dL_camera_15 hl (by decide) rfl (fun ls hl => ?_)
  refine lv_iconst (v := 1) hx hb dL_camera_17 (by decide) ?_
  exact W.iret (v := 1) hx hb hr (fun t ht hW => ⟨⟨1, (), rfl, rfl, trivial⟩, hS.F ht⟩) hS.2.2 dL_camera_18
theorem dL_state_0 : decode cL_state 0 = .ok (.aload 4, 2) := by decide +kernel
theorem dL_state_15 : decode cL_state 15 = .ok (.astore 5, 2) := by decide +kernel
theorem dL_state_17 : decode cL_state 17 = .ok (.iconst 1, 1) := by decide +kernel
theorem dL_state_18 : decode cL_state 18 = .ok (.ireturn, 1) := by decide +kernel
theorem dL_state_2 : decode cL_state 2 = .ok (.iconst 0, 1) := by decide +kernel
theorem dL_state_3 : decode cL_state 3 = .ok (.aload_n 0, 1) := by decide +kernel
theorem dL_state_4 : decode cL_state 4 = .ok (.iload_n 1, 1) := by decide +kernel
theorem dL_state_5 : decode cL_state 5 = .ok (.iload_n 2, 1) := by decide +kernel
theorem dL_state_6 : decode cL_state 6 = .ok (.iload_n 3, 1) := by decide +kernel
theorem dL_state_7 : decode cL_state 7 = .ok (.invokevirtual 50, 3) := by decide +kernel
set_option maxRecDepth 100000 in
theorem zgL_state_X11_state_50_w : GoodIn zsL_state zsX11_state := goodIn_app (goodIn_sub (ws := [.code yX11_state cX11_state 7 (some .int)]) (fun _ h9 => List.mem_singleton.mp h9 ▸ List.mem_of_getElem? (i := 5) rfl) (by decide +kernel)) (goodIn_app (goodIn_app (goodIn_app (goodIn_sub (ws := [.methodLink RX11 166 yX11_needShot, .instanceMethod yX11_needShot, .selects RX11 yX11_needShot yX11_needShot, .initialized RX11, .code yX11_needShot cX11_needShot 3 (some (.object "PuppetFilm$Shot")), .classLink RX11 408 "java/util/NoSuchElementException", .initialized "java/util/NoSuchElementException", .fieldLink RX11 10 "PuppetFilm" "studio" "LPuppetFilm$Studio;", .methodLink RX11 271 yX8_shotAt, .instanceMethod yX8_shotAt, .selects RX8 yX8_shotAt yX8_shotAt, .initialized RX8, .code yX8_shotAt cX8_shotAt 2 (some (.object "PuppetFilm$Shot")), .fieldLink RX8 19 "PuppetFilm$Studio" "shots" "[LPuppetFilm$Shot;"]) (mem_ps [7, 8, 9, 4, 10, 11, 12, 13, 14, 15, 16, 17, 18, 19] (by decide +kernel)) (by decide +kernel)) (goodIn_sub (fun _ h => List.mem_cons_of_mem _ (List.mem_append_left _ (List.mem_append_left _ (List.mem_append_right _ h)))) (by decide +kernel))) (goodIn_sub (fun _ h => List.mem_cons_of_mem _ (List.mem_append_left _ (List.mem_append_right _ h))) (by decide +kernel))) (goodIn_sub (fun _ h => List.mem_cons_of_mem _ (List.mem_append_right _ h)) (by decide +kernel)))
set_option maxRecDepth 100000 in
theorem zgL_state_X11_state_50 : GoodIn zsL_state (wsV RL 50 RX11 yX11_state zsX11_state) := goodIn_app (goodIn_sub (mem_ps [1, 2, 3, 4] (by decide +kernel)) (by decide +kernel)) zgL_state_X11_state_50_w
set_option maxHeartbeats 4000000 in
set_option maxRecDepth 100000 in
theorem c_L_state (l : Launch) (hst : l.stackTraces = false) (D : va_G) (cT : Nat → ClassId) (h0 : Nat) (p0 : Int32) (p1 : Int32) (p2 : Int32) (o9 : Nat) (x_studio : Nat) (x_script : Nat) (x_teller : Nat) (x_planner : Nat) (x_plan : Nat) (x_drifts : Nat) (x_floor : Nat) (x_trial : Nat) (x_tape : Nat) (s_puppets : Nat) (s_shots : Nat) (s_sounds : Nat) (s_rates : Nat) (s_dresses : Nat) (sz : Nat)  : Met l yL_state zsL_state ({ frames := 11, cells := 1, slots := 6, locals := 340 }) (va_Pc [.ref h0, .int p0, .int p1, .int p2, .ref o9] (PZ D cT [(h0, .inr (11, [.ref x_studio, .ref x_script, .ref x_teller, .ref x_planner, .ref x_plan, .ref x_drifts, .ref x_floor, .ref x_trial, .ref x_tape, .int 0, .int (-1)])), (x_studio, .inr (8, [.ref s_puppets, .int 0, .ref s_shots, .int 0, .ref s_sounds, .ref s_rates, .ref s_dresses])), (s_shots, .inl (cT 5, 12, .inr (.inr (.inr (.inr (fun _ => none))))))] sz)) (va_Qi (fun (r : Int32) (_ : Unit) => r = 1) (fun (_ : Unit) (_ : State) => True) (va_A [(h0, .inr (11, [.ref x_studio, .ref x_script, .ref x_teller, .ref x_planner, .ref x_plan, .ref x_drifts, .ref x_floor, .ref x_trial, .ref x_tape, .int 0, .int (-1)])), (x_studio, .inr (8, [.ref s_puppets, .int 0, .ref s_shots, .int 0, .ref s_sounds, .ref s_rates, .ref s_dresses])), (s_shots, .inl (cT 5, 12, .inr (.inr (.inr (.inr (fun _ => none))))))] sz)) 1 6 (va_A [(h0, .inr (11, [.ref x_studio, .ref x_script, .ref x_teller, .ref x_planner, .ref x_plan, .ref x_drifts, .ref x_floor, .ref x_trial, .ref x_tape, .int 0, .int (-1)])), (x_studio, .inr (8, [.ref s_puppets, .int 0, .ref s_shots, .int 0, .ref s_sounds, .ref s_rates, .ref s_dresses])), (s_shots, .inl (cT 5, 12, .inr (.inr (.inr (.inr (fun _ => none))))))] sz) := by
  refine va_MetW (cc := cL_state) (maxL := 6) (ret := (some .int)) (by decide) rfl ?_
  intro p e s m args below meth c s₁ B hml hv
  obtain ⟨rfl, ⟨hsz, hP, hK, hD0, hG⟩, hZ⟩ := hv
  have hx := B.exec
  have hb := B.bytes
  have hr := B.returns
  have hts := atoms_spec (ws := zsL_state) B.pre
  have hown : s.vm.findClass RL = some m.cls := findClass_of_methodNamed B.named
  have hlocks := B.notSynchronized
  have htb := vx_table (x := yL_state) B (hts _ List.mem_cons_self)
  subst hsz
  have hD := hD0.self (sz := s.heap.size)
  generalize hAe : va_A [(h0, .inr (11, [.ref x_studio, .ref x_script, .ref x_teller, .ref x_planner, .ref x_plan, .ref x_drifts, .ref x_floor, .ref x_trial, .ref x_tape, .int 0, .int (-1)])), (x_studio, .inr (8, [.ref s_puppets, .int 0, .ref s_shots, .int 0, .ref s_sounds, .ref s_rates, .ref s_dresses])), (s_shots, .inl (cT 5, 12, .inr (.inr (.inr (.inr (fun _ => none))))))] s.heap.size = A at hD hZ ⊢
  have hA : ∀ q : Nat, s.heap.size ≤ q → A q := fun q h => by rw [← hAe]; exact Or.inr h
  have hS : va_S A s.heap s.heap [] := va_S.rf
  have hP : va_P D vwCl [(h0, .inr (11, [.ref x_studio, .ref x_script, .ref x_teller, .ref x_planner, .ref x_plan, .ref x_drifts, .ref x_floor, .ref x_trial, .ref x_tape, .int 0, .int (-1)])), (x_studio, .inr (8, [.ref s_puppets, .int 0, .ref s_shots, .int 0, .ref s_sounds, .ref s_rates, .ref s_dresses])), (s_shots, .inl (cT 5, 12, .inr (.inr (.inr (.inr (fun _ => none))))))] s.heap := hP
  have hl := lv_entry ([.ref h0, .int p0, .int p1, .int p2, .ref o9]) (n := 6) (Nat.le_of_ble_eq_true rfl)
  rw [lg_entry_eq]
  generalize (lg_sl ([.ref h0, .int p0, .int p1, .int p2, .ref o9]) ++ List.replicate (6 - (lg_sl ([.ref h0, .int p0, .int p1, .int p2, .ref o9])).length) Slot.unset).toArray = ls at hl ⊢
  have hl : lv_has ls 6 [(0, .ref h0), (1, .int p0), (2, .int p1), (3, .int p2), (4, .ref o9)] := hl
  refine lv_aload hx hb dL_state_0 (lv_at hl 4 rfl) ?_
  refine lv_iconst (v := 0) hx hb dL_state_2 (by decide) ?_
  refine lv_aload_n hx hb dL_state_3 rfl (lv_at hl 0 rfl) ?_
  refine lv_iload_n hx hb dL_state_4 rfl (lv_at hl 1 rfl) ?_
  refine lv_iload_n hx hb dL_state_5 rfl (lv_at hl 2 rfl) ?_
  refine lv_iload_n hx hb dL_state_6 rfl (lv_at hl 3 rfl) ?_
  have hF := va_free (wc := [(h0, .inr (11, [.ref x_studio, .ref x_script, .ref x_teller, .ref x_planner, .ref x_plan, .ref x_drifts, .ref x_floor, .ref x_trial, .ref x_tape, .int 0, .int (-1)])), (x_studio, .inr (8, [.ref s_puppets, .int 0, .ref s_shots, .int 0, .ref s_sounds, .ref s_rates, .ref s_dresses])), (s_shots, .inl (cT 5, 12, .inr (.inr (.inr (.inr (fun _ => none))))))]) hD hS hA [0, 1, 2] rfl
  refine vx_calli (vx_runV (As := [.int p0, .int p1, .int p2]) (rest := [.int 0, .ref o9]) ⟨hx, hb, hml, hown, hts⟩ (z_X11_state l hst D cT h0 p0 p1 p2 x_studio x_script x_teller x_planner x_plan x_drifts x_floor x_trial x_tape s_puppets s_shots s_sounds s_rates s_dresses _ ) (cwV 3 hts zgL_state_X11_state_50 rfl rfl rfl (by decide +kernel) ⟨Nat.le_of_ble_eq_true rfl, Nat.le_of_ble_eq_true rfl⟩) (pv_z hP hD hK hG hZ hS hF [0, 1, 2] rfl rfl rfl 0 rfl rfl) rfl rfl hl.1 rfl (lv_room (Nat.le_of_ble_eq_true rfl)) dL_state_7 ⟨Nat.le_of_ble_eq_true rfl, Nat.le_of_ble_eq_true rfl⟩) hS (fun q _ h => hF q h) hF (fun q _ h => hF q h) (fun E ce q9 uu9 tt9 H locs ht hvm hw hB hz1 hk1 hS hq9 hv9 hc9 => ?_) (fun r_1 uu9 tt9 H locs ht hvm wr_1 hB hz1 hk1 hS => wr_1.elim)
  obtain ⟨rfl, hpx⟩ := hB
  refine vx_widen (k := 1) (n := 6) (Nat.le_of_ble_eq_true rfl) (Nat.le_of_ble_eq_true rfl) ?_
  refine vx_catch (E := "java/util/NoSuchElementException") (name := "java/util/NoSuchElementException") hown [] ⟨0, 12, 15, 37⟩ [] htb (fun z hz => nomatch hz) (by decide) (by decide) (hts (.classLink RL 37 "java/util/NoSuchElementException") (List.mem_of_getElem? (i := 6) (by decide +kernel))) (gwB_any hG (Cond.castable "java/util/NoSuchElementException" "java/util/NoSuchElementException") (by decide +kernel)) hq9 hv9 hc9 ?_
  obtain ⟨hP, hD⟩ := va_join (wr := []) (w1 := []) hP hD [0, 1, 2] [] rfl rfl (by decide) (by decide) hk1 hF vp_nil vd_nil
  have hP : va_P D vwCl [] _ := hP
  have hD : va_D A [] := hD
  refine W.eq (g2 := F0 m 15 ls [.ref q9]) rfl ?_
  refine lv_astore (lv' := [(5, .ref q9), (0, .ref h0), (1, .int p0), (2, .int p1), (3, .int p2), (4, .ref o9)]) hx hb dL_state_15 hl (by decide) rfl (fun ls hl => ?_)
  refine lv_iconst (v := 1) hx hb dL_state_17 (by decide) ?_
  exact W.iret (v := 1) hx hb hr (fun t ht hW => ⟨⟨1, (), rfl, rfl, trivial⟩, hS.F ht⟩) hS.2.2 dL_state_18
theorem dL_lean_0 : decode cL_lean 0 = .ok (.aload 4, 2) := by decide +kernel
theorem dL_lean_15 : decode cL_lean 15 = .ok (.astore 5, 2) := by decide +kernel
theorem dL_lean_17 : decode cL_lean 17 = .ok (.iconst 1, 1) := by decide +kernel
theorem dL_lean_18 : decode cL_lean 18 = .ok (.ireturn, 1) := by decide +kernel
theorem dL_lean_2 : decode cL_lean 2 = .ok (.iconst 0, 1) := by decide +kernel
theorem dL_lean_3 : decode cL_lean 3 = .ok (.aload_n 0, 1) := by decide +kernel
theorem dL_lean_4 : decode cL_lean 4 = .ok (.iload_n 1, 1) := by decide +kernel
theorem dL_lean_5 : decode cL_lean 5 = .ok (.iload_n 2, 1) := by decide +kernel
theorem dL_lean_6 : decode cL_lean 6 = .ok (.iload_n 3, 1) := by decide +kernel
theorem dL_lean_7 : decode cL_lean 7 = .ok (.invokevirtual 53, 3) := by decide +kernel
set_option maxRecDepth 100000 in
theorem zgL_lean_X11_lean_53_w : GoodIn zsL_lean zsX11_lean := goodIn_app (goodIn_sub (ws := [.code yX11_lean cX11_lean 6 (some .int)]) (fun _ h9 => List.mem_singleton.mp h9 ▸ List.mem_of_getElem? (i := 5) rfl) (by decide +kernel)) (goodIn_app (goodIn_app (goodIn_app (goodIn_sub (ws := [.methodLink RX11 166 yX11_needShot, .instanceMethod yX11_needShot, .selects RX11 yX11_needShot yX11_needShot, .initialized RX11, .code yX11_needShot cX11_needShot 3 (some (.object "PuppetFilm$Shot")), .classLink RX11 408 "java/util/NoSuchElementException", .initialized "java/util/NoSuchElementException", .fieldLink RX11 10 "PuppetFilm" "studio" "LPuppetFilm$Studio;", .methodLink RX11 271 yX8_shotAt, .instanceMethod yX8_shotAt, .selects RX8 yX8_shotAt yX8_shotAt, .initialized RX8, .code yX8_shotAt cX8_shotAt 2 (some (.object "PuppetFilm$Shot")), .fieldLink RX8 19 "PuppetFilm$Studio" "shots" "[LPuppetFilm$Shot;"]) (mem_ps [7, 8, 9, 4, 10, 11, 12, 13, 14, 15, 16, 17, 18, 19] (by decide +kernel)) (by decide +kernel)) (goodIn_sub (fun _ h => List.mem_cons_of_mem _ (List.mem_append_left _ (List.mem_append_left _ (List.mem_append_right _ h)))) (by decide +kernel))) (goodIn_sub (fun _ h => List.mem_cons_of_mem _ (List.mem_append_left _ (List.mem_append_right _ h))) (by decide +kernel))) (goodIn_sub (fun _ h => List.mem_cons_of_mem _ (List.mem_append_right _ h)) (by decide +kernel)))
set_option maxRecDepth 100000 in
theorem zgL_lean_X11_lean_53 : GoodIn zsL_lean (wsV RL 53 RX11 yX11_lean zsX11_lean) := goodIn_app (goodIn_sub (mem_ps [1, 2, 3, 4] (by decide +kernel)) (by decide +kernel)) zgL_lean_X11_lean_53_w
set_option maxHeartbeats 4000000 in
set_option maxRecDepth 100000 in
theorem c_L_lean (l : Launch) (hst : l.stackTraces = false) (D : va_G) (cT : Nat → ClassId) (h0 : Nat) (p0 : Int32) (p1 : Int32) (p2 : Int32) (o9 : Nat) (x_studio : Nat) (x_script : Nat) (x_teller : Nat) (x_planner : Nat) (x_plan : Nat) (x_drifts : Nat) (x_floor : Nat) (x_trial : Nat) (x_tape : Nat) (s_puppets : Nat) (s_shots : Nat) (s_sounds : Nat) (s_rates : Nat) (s_dresses : Nat) (sz : Nat)  : Met l yL_lean zsL_lean ({ frames := 11, cells := 1, slots := 6, locals := 340 }) (va_Pc [.ref h0, .int p0, .int p1, .int p2, .ref o9] (PZ D cT [(h0, .inr (11, [.ref x_studio, .ref x_script, .ref x_teller, .ref x_planner, .ref x_plan, .ref x_drifts, .ref x_floor, .ref x_trial, .ref x_tape, .int 0, .int (-1)])), (x_studio, .inr (8, [.ref s_puppets, .int 0, .ref s_shots, .int 0, .ref s_sounds, .ref s_rates, .ref s_dresses])), (s_shots, .inl (cT 5, 12, .inr (.inr (.inr (.inr (fun _ => none))))))] sz)) (va_Qi (fun (r : Int32) (_ : Unit) => r = 1) (fun (_ : Unit) (_ : State) => True) (va_A [(h0, .inr (11, [.ref x_studio, .ref x_script, .ref x_teller, .ref x_planner, .ref x_plan, .ref x_drifts, .ref x_floor, .ref x_trial, .ref x_tape, .int 0, .int (-1)])), (x_studio, .inr (8, [.ref s_puppets, .int 0, .ref s_shots, .int 0, .ref s_sounds, .ref s_rates, .ref s_dresses])), (s_shots, .inl (cT 5, 12, .inr (.inr (.inr (.inr (fun _ => none))))))] sz)) 1 6 (va_A [(h0, .inr (11, [.ref x_studio, .ref x_script, .ref x_teller, .ref x_planner, .ref x_plan, .ref x_drifts, .ref x_floor, .ref x_trial, .ref x_tape, .int 0, .int (-1)])), (x_studio, .inr (8, [.ref s_puppets, .int 0, .ref s_shots, .int 0, .ref s_sounds, .ref s_rates, .ref s_dresses])), (s_shots, .inl (cT 5, 12, .inr (.inr (.inr (.inr (fun _ => none))))))] sz) := by
  refine va_MetW (cc := cL_lean) (maxL := 6) (ret := (some .int)) (by decide) rfl ?_
  intro p e s m args below meth c s₁ B hml hv
  obtain ⟨rfl, ⟨hsz, hP, hK, hD0, hG⟩, hZ⟩ := hv
  have hx := B.exec
  have hb := B.bytes
  have hr := B.returns
  have hts := atoms_spec (ws := zsL_lean) B.pre
  have hown : s.vm.findClass RL = some m.cls := findClass_of_methodNamed B.named
  have hlocks := B.notSynchronized
  have htb := vx_table (x := yL_lean) B (hts _ List.mem_cons_self)
  subst hsz
  have hD := hD0.self (sz := s.heap.size)
  generalize hAe : va_A [(h0, .inr (11, [.ref x_studio, .ref x_script, .ref x_teller, .ref x_planner, .ref x_plan, .ref x_drifts, .ref x_floor, .ref x_trial, .ref x_tape, .int 0, .int (-1)])), (x_studio, .inr (8, [.ref s_puppets, .int 0, .ref s_shots, .int 0, .ref s_sounds, .ref s_rates, .ref s_dresses])), (s_shots, .inl (cT 5, 12, .inr (.inr (.inr (.inr (fun _ => none))))))] s.heap.size = A at hD hZ ⊢
  have hA : ∀ q : Nat, s.heap.size ≤ q → A q := fun q h => by rw [← hAe]; exact Or.inr h
  have hS : va_S A s.heap s.heap [] := va_S.rf
  have hP : va_P D vwCl [(h0, .inr (11, [.ref x_studio, .ref x_script, .ref x_teller, .ref x_planner, .ref x_plan, .ref x_drifts, .ref x_floor, .ref x_trial, .ref x_tape, .int 0, .int (-1)])), (x_studio, .inr (8, [.ref s_puppets, .int 0, .ref s_shots, .int 0, .ref s_sounds, .ref s_rates, .ref s_dresses])), (s_shots, .inl (cT 5, 12, .inr (.inr (.inr (.inr (fun _ => none))))))] s.heap := hP
  have hl := lv_entry ([.ref h0, .int p0, .int p1, .int p2, .ref o9]) (n := 6) (Nat.le_of_ble_eq_true rfl)
  rw [lg_entry_eq]
  generalize (lg_sl ([.ref h0, .int p0, .int p1, .int p2, .ref o9]) ++ List.replicate (6 - (lg_sl ([.ref h0, .int p0, .int p1, .int p2, .ref o9])).length) Slot.unset).toArray = ls at hl ⊢
  have hl : lv_has ls 6 [(0, .ref h0), (1, .int p0), (2, .int p1), (3, .int p2), (4, .ref o9)] := hl
  refine lv_aload hx hb dL_lean_0 (lv_at hl 4 rfl) ?_
  refine lv_iconst (v := 0) hx hb dL_lean_2 (by decide) ?_
  refine lv_aload_n hx hb dL_lean_3 rfl (lv_at hl 0 rfl) ?_
  refine lv_iload_n hx hb dL_lean_4 rfl (lv_at hl 1 rfl) ?_
  refine lv_iload_n hx hb dL_lean_5 rfl (lv_at hl 2 rfl) ?_
  refine lv_iload_n hx hb dL_lean_6 rfl (lv_at hl 3 rfl) ?_
  have hF := va_free (wc := [(h0, .inr (11, [.ref x_studio, .ref x_script, .ref x_teller, .ref x_planner, .ref x_plan, .ref x_drifts, .ref x_floor, .ref x_trial, .ref x_tape, .int 0, .int (-1)])), (x_studio, .inr (8, [.ref s_puppets, .int 0, .ref s_shots, .int 0, .ref s_sounds, .ref s_rates, .ref s_dresses])), (s_shots, .inl (cT 5, 12, .inr (.inr (.inr (.inr (fun _ => none))))))]) hD hS hA [0, 1, 2] rfl
  refine vx_calli (vx_runV (As := [.int p0, .int p1, .int p2]) (rest := [.int 0, .ref o9]) ⟨hx, hb, hml, hown, hts⟩ (z_X11_lean l hst D cT h0 p0 p1 p2 x_studio x_script x_teller x_planner x_plan x_drifts x_floor x_trial x_tape s_puppets s_shots s_sounds s_rates s_dresses _ ) (cwV 3 hts zgL_lean_X11_lean_53 rfl rfl rfl (by decide +kernel) ⟨Nat.le_of_ble_eq_true rfl, Nat.le_of_ble_eq_true rfl⟩) (pv_z hP hD hK hG hZ hS hF [0, 1, 2] rfl rfl rfl 0 rfl rfl) rfl rfl hl.1 rfl (lv_room (Nat.le_of_ble_eq_true rfl)) dL_lean_7 ⟨Nat.le_of_ble_eq_true rfl, Nat.le_of_ble_eq_true rfl⟩) hS (fun q _ h => hF q h) hF (fun q _ h => hF q h) (fun E ce q9 uu9 tt9 H locs ht hvm hw hB hz1 hk1 hS hq9 hv9 hc9 => ?_) (fun r_1 uu9 tt9 H locs ht hvm wr_1 hB hz1 hk1 hS => wr_1.elim)
  obtain ⟨rfl, hpx⟩ := hB
  refine vx_widen (k := 1) (n := 6) (Nat.le_of_ble_eq_true rfl) (Nat.le_of_ble_eq_true rfl) ?_
  refine vx_catch (E := "java/util/NoSuchElementException") (name := "java/util/NoSuchElementException") hown [] ⟨0, 12, 15, 37⟩ [] htb (fun z hz => nomatch hz) (by decide) (by decide) (hts (.classLink RL 37 "java/util/NoSuchElementException") (List.mem_of_getElem? (i := 6) (by decide +kernel))) (gwB_any hG (Cond.castable "java/util/NoSuchElementException" "java/util/NoSuchElementException") (by decide +kernel)) hq9 hv9 hc9 ?_
  obtain ⟨hP, hD⟩ := va_join (wr := []) (w1 := []) hP hD [0, 1, 2] [] rfl rfl (by decide) (by decide) hk1 hF vp_nil vd_nil
  have hP : va_P D vwCl [] _ := hP
  have hD : va_D A [] := hD
  refine W.eq (g2 := F0 m 15 ls [.ref q9]) rfl ?_
  refine lv_astore (lv' := [(5, .ref q9), (0, .ref h0), (1, .int p0), (2, .int p1), (3, .int p2), (4, .ref o9)]) hx hb dL_lean_15 hl (by decide) rfl (fun ls hl => ?_)
  refine lv_iconst (v := 1) hx hb dL_lean_17 (by decide) ?_
  exact W.iret (v := 1) hx hb hr (fun t ht hW => ⟨⟨1, (), rfl, rfl, trivial⟩, hS.F ht⟩) hS.2.2 dL_lean_18
theorem dL_breach_0 : decode cL_breach 0 = .ok (.aload_n 3, 1) := by decide +kernel
theorem dL_breach_1 : decode cL_breach 1 = .ok (.iconst 0, 1) := by decide +kernel
theorem dL_breach_13 : decode cL_breach 13 = .ok (.astore 4, 2) := by decide +kernel
theorem dL_breach_15 : decode cL_breach 15 = .ok (.iconst 1, 1) := by decide +kernel
theorem dL_breach_16 : decode cL_breach 16 = .ok (.ireturn, 1) := by decide +kernel
theorem dL_breach_2 : decode cL_breach 2 = .ok (.aload_n 0, 1) := by decide +kernel
theorem dL_breach_3 : decode cL_breach 3 = .ok (.iload_n 1, 1) := by decide +kernel
theorem dL_breach_4 : decode cL_breach 4 = .ok (.iload_n 2, 1) := by decide +kernel
theorem dL_breach_5 : decode cL_breach 5 = .ok (.invokevirtual 56, 3) := by decide +kernel
set_option maxRecDepth 100000 in
theorem zgL_breach_X11_breach_56_w : GoodIn zsL_breach zsX11_breach := goodIn_app (goodIn_sub (ws := [.code yX11_breach cX11_breach 6 (some .int)]) (fun _ h9 => List.mem_singleton.mp h9 ▸ List.mem_of_getElem? (i := 5) rfl) (by decide +kernel)) (goodIn_app (goodIn_app (goodIn_app (goodIn_sub (ws := [.methodLink RX11 166 yX11_needShot, .instanceMethod yX11_needShot, .selects RX11 yX11_needShot yX11_needShot, .initialized RX11, .code yX11_needShot cX11_needShot 3 (some (.object "PuppetFilm$Shot")), .classLink RX11 408 "java/util/NoSuchElementException", .initialized "java/util/NoSuchElementException", .fieldLink RX11 10 "PuppetFilm" "studio" "LPuppetFilm$Studio;", .methodLink RX11 271 yX8_shotAt, .instanceMethod yX8_shotAt, .selects RX8 yX8_shotAt yX8_shotAt, .initialized RX8, .code yX8_shotAt cX8_shotAt 2 (some (.object "PuppetFilm$Shot")), .fieldLink RX8 19 "PuppetFilm$Studio" "shots" "[LPuppetFilm$Shot;"]) (mem_ps [8, 9, 10, 4, 11, 12, 13, 14, 15, 16, 17, 18, 19, 20] (by decide +kernel)) (by decide +kernel)) (goodIn_sub (fun _ h => List.mem_cons_of_mem _ (List.mem_append_left _ (List.mem_append_left _ (List.mem_append_right _ h)))) (by decide +kernel))) (goodIn_sub (fun _ h => List.mem_cons_of_mem _ (List.mem_append_left _ (List.mem_append_right _ h))) (by decide +kernel))) (goodIn_sub (fun _ h => List.mem_cons_of_mem _ (List.mem_append_right _ h)) (by decide +kernel)))
set_option maxRecDepth 100000 in
theorem zgL_breach_X11_breach_56 : GoodIn zsL_breach (wsV RL 56 RX11 yX11_breach zsX11_breach) := goodIn_app (goodIn_sub (mem_ps [1, 2, 3, 4] (by decide +kernel)) (by decide +kernel)) zgL_breach_X11_breach_56_w
set_option maxHeartbeats 4000000 in
set_option maxRecDepth 100000 in
theorem c_L_breach (l : Launch) (hst : l.stackTraces = false) (D : va_G) (cT : Nat → ClassId) (h0 : Nat) (p0 : Int32) (p1 : Int32) (o9 : Nat) (x_studio : Nat) (x_script : Nat) (x_teller : Nat) (x_planner : Nat) (x_plan : Nat) (x_drifts : Nat) (x_floor : Nat) (x_trial : Nat) (x_tape : Nat) (s_puppets : Nat) (s_shots : Nat) (s_sounds : Nat) (s_rates : Nat) (s_dresses : Nat) (sz : Nat)  : Met l yL_breach zsL_breach ({ frames := 11, cells := 1, slots := 6, locals := 340 }) (va_Pc [.ref h0, .int p0, .int p1, .ref o9] (PZ D cT [(h0, .inr (11, [.ref x_studio, .ref x_script, .ref x_teller, .ref x_planner, .ref x_plan, .ref x_drifts, .ref x_floor, .ref x_trial, .ref x_tape, .int 0, .int (-1)])), (x_studio, .inr (8, [.ref s_puppets, .int 0, .ref s_shots, .int 0, .ref s_sounds, .ref s_rates, .ref s_dresses])), (s_shots, .inl (cT 5, 12, .inr (.inr (.inr (.inr (fun _ => none))))))] sz)) (va_Qi (fun (r : Int32) (_ : Unit) => r = 1) (fun (_ : Unit) (_ : State) => True) (va_A [(h0, .inr (11, [.ref x_studio, .ref x_script, .ref x_teller, .ref x_planner, .ref x_plan, .ref x_drifts, .ref x_floor, .ref x_trial, .ref x_tape, .int 0, .int (-1)])), (x_studio, .inr (8, [.ref s_puppets, .int 0, .ref s_shots, .int 0, .ref s_sounds, .ref s_rates, .ref s_dresses])), (s_shots, .inl (cT 5, 12, .inr (.inr (.inr (.inr (fun _ => none))))))] sz)) 1 6 (va_A [(h0, .inr (11, [.ref x_studio, .ref x_script, .ref x_teller, .ref x_planner, .ref x_plan, .ref x_drifts, .ref x_floor, .ref x_trial, .ref x_tape, .int 0, .int (-1)])), (x_studio, .inr (8, [.ref s_puppets, .int 0, .ref s_shots, .int 0, .ref s_sounds, .ref s_rates, .ref s_dresses])), (s_shots, .inl (cT 5, 12, .inr (.inr (.inr (.inr (fun _ => none))))))] sz) := by
  refine va_MetW (cc := cL_breach) (maxL := 5) (ret := (some .int)) (by decide) rfl ?_
  intro p e s m args below meth c s₁ B hml hv
  obtain ⟨rfl, ⟨hsz, hP, hK, hD0, hG⟩, hZ⟩ := hv
  have hx := B.exec
  have hb := B.bytes
  have hr := B.returns
  have hts := atoms_spec (ws := zsL_breach) B.pre
  have hown : s.vm.findClass RL = some m.cls := findClass_of_methodNamed B.named
  have hlocks := B.notSynchronized
  have htb := vx_table (x := yL_breach) B (hts _ List.mem_cons_self)
  subst hsz
  have hD := hD0.self (sz := s.heap.size)
  generalize hAe : va_A [(h0, .inr (11, [.ref x_studio, .ref x_script, .ref x_teller, .ref x_planner, .ref x_plan, .ref x_drifts, .ref x_floor, .ref x_trial, .ref x_tape, .int 0, .int (-1)])), (x_studio, .inr (8, [.ref s_puppets, .int 0, .ref s_shots, .int 0, .ref s_sounds, .ref s_rates, .ref s_dresses])), (s_shots, .inl (cT 5, 12, .inr (.inr (.inr (.inr (fun _ => none))))))] s.heap.size = A at hD hZ ⊢
  have hA : ∀ q : Nat, s.heap.size ≤ q → A q := fun q h => by rw [← hAe]; exact Or.inr h
  have hS : va_S A s.heap s.heap [] := va_S.rf
  have hP : va_P D vwCl [(h0, .inr (11, [.ref x_studio, .ref x_script, .ref x_teller, .ref x_planner, .ref x_plan, .ref x_drifts, .ref x_floor, .ref x_trial, .ref x_tape, .int 0, .int (-1)])), (x_studio, .inr (8, [.ref s_puppets, .int 0, .ref s_shots, .int 0, .ref s_sounds, .ref s_rates, .ref s_dresses])), (s_shots, .inl (cT 5, 12, .inr (.inr (.inr (.inr (fun _ => none))))))] s.heap := hP
  have hl := lv_entry ([.ref h0, .int p0, .int p1, .ref o9]) (n := 5) (Nat.le_of_ble_eq_true rfl)
  rw [lg_entry_eq]
  generalize (lg_sl ([.ref h0, .int p0, .int p1, .ref o9]) ++ List.replicate (5 - (lg_sl ([.ref h0, .int p0, .int p1, .ref o9])).length) Slot.unset).toArray = ls at hl ⊢
  have hl : lv_has ls 5 [(0, .ref h0), (1, .int p0), (2, .int p1), (3, .ref o9)] := hl
  refine lv_aload_n hx hb dL_breach_0 rfl (lv_at hl 3 rfl) ?_
  refine lv_iconst (v := 0) hx hb dL_breach_1 (by decide) ?_
  refine lv_aload_n hx hb dL_breach_2 rfl (lv_at hl 0 rfl) ?_
  refine lv_iload_n hx hb dL_breach_3 rfl (lv_at hl 1 rfl) ?_
  refine lv_iload_n hx hb dL_breach_4 rfl (lv_at hl 2 rfl) ?_
  have hF := va_free (wc := [(h0, .inr (11, [.ref x_studio, .ref x_script, .ref x_teller, .ref x_planner, .ref x_plan, .ref x_drifts, .ref x_floor, .ref x_trial, .ref x_tape, .int 0, .int (-1)])), (x_studio, .inr (8, [.ref s_puppets, .int 0, .ref s_shots, .int 0, .ref s_sounds, .ref s_rates, .ref s_dresses])), (s_shots, .inl (cT 5, 12, .inr (.inr (.inr (.inr (fun _ => none))))))]) hD hS hA [0, 1, 2] rfl
  refine vx_calli (vx_runV (As := [.int p0, .int p1]) (rest := [.int 0, .ref o9]) ⟨hx, hb, hml, hown, hts⟩ (z_X11_breach l hst D cT h0 p0 p1 x_studio x_script x_teller x_planner x_plan x_drifts x_floor x_trial x_tape s_puppets s_shots s_sounds s_rates s_dresses _ ) (cwV 2 hts zgL_breach_X11_breach_56 rfl rfl rfl (by decide +kernel) ⟨Nat.le_of_ble_eq_true rfl, Nat.le_of_ble_eq_true rfl⟩) (pv_z hP hD hK hG hZ hS hF [0, 1, 2] rfl rfl rfl 0 rfl rfl) rfl rfl hl.1 rfl (lv_room (Nat.le_of_ble_eq_true rfl)) dL_breach_5 ⟨Nat.le_of_ble_eq_true rfl, Nat.le_of_ble_eq_true rfl⟩) hS (fun q _ h => hF q h) hF (fun q _ h => hF q h) (fun E ce q9 uu9 tt9 H locs ht hvm hw hB hz1 hk1 hS hq9 hv9 hc9 => ?_) (fun r_1 uu9 tt9 H locs ht hvm wr_1 hB hz1 hk1 hS => wr_1.elim)
  obtain ⟨rfl, hpx⟩ := hB
  refine vx_widen (k := 1) (n := 6) (Nat.le_of_ble_eq_true rfl) (Nat.le_of_ble_eq_true rfl) ?_
  refine vx_catch (E := "java/util/NoSuchElementException") (name := "java/util/NoSuchElementException") hown [] ⟨0, 10, 13, 37⟩ [⟨0, 10, 17, 15⟩] htb (fun z hz => nomatch hz) (by decide) (by decide) (hts (.classLink RL 37 "java/util/NoSuchElementException") (List.mem_of_getElem? (i := 6) (by decide +kernel))) (gwB_any hG (Cond.castable "java/util/NoSuchElementException" "java/util/NoSuchElementException") (by decide +kernel)) hq9 hv9 hc9 ?_
  obtain ⟨hP, hD⟩ := va_join (wr := []) (w1 := []) hP hD [0, 1, 2] [] rfl rfl (by decide) (by decide) hk1 hF vp_nil vd_nil
  have hP : va_P D vwCl [] _ := hP
  have hD : va_D A [] := hD
  refine W.eq (g2 := F0 m 13 ls [.ref q9]) rfl ?_
  refine lv_astore (lv' := [(4, .ref q9), (0, .ref h0), (1, .int p0), (2, .int p1), (3, .ref o9)]) hx hb dL_breach_13 hl (by decide) rfl (fun ls hl => ?_)
  refine lv_iconst (v := 1) hx hb dL_breach_15 (by decide) ?_
  exact W.iret (v := 1) hx hb hr (fun t ht hW => ⟨⟨1, (), rfl, rfl, trivial⟩, hS.F ht⟩) hS.2.2 dL_breach_16
theorem dL_fall_0 : decode cL_fall 0 = .ok (.aload_n 3, 1) := by decide +kernel
theorem dL_fall_1 : decode cL_fall 1 = .ok (.iconst 0, 1) := by decide +kernel
theorem dL_fall_13 : decode cL_fall 13 = .ok (.astore 4, 2) := by decide +kernel
theorem dL_fall_15 : decode cL_fall 15 = .ok (.iconst 1, 1) := by decide +kernel
theorem dL_fall_16 : decode cL_fall 16 = .ok (.ireturn, 1) := by decide +kernel
theorem dL_fall_2 : decode cL_fall 2 = .ok (.aload_n 0, 1) := by decide +kernel
theorem dL_fall_3 : decode cL_fall 3 = .ok (.iload_n 1, 1) := by decide +kernel
theorem dL_fall_4 : decode cL_fall 4 = .ok (.iload_n 2, 1) := by decide +kernel
theorem dL_fall_5 : decode cL_fall 5 = .ok (.invokevirtual 59, 3) := by decide +kernel
set_option maxRecDepth 100000 in
theorem zgL_fall_X11_fall_59_w : GoodIn zsL_fall zsX11_fall := goodIn_app (goodIn_sub (ws := [.code yX11_fall cX11_fall 6 (some .int)]) (fun _ h9 => List.mem_singleton.mp h9 ▸ List.mem_of_getElem? (i := 5) rfl) (by decide +kernel)) (goodIn_app (goodIn_app (goodIn_app (goodIn_sub (ws := [.methodLink RX11 166 yX11_needShot, .instanceMethod yX11_needShot, .selects RX11 yX11_needShot yX11_needShot, .initialized RX11, .code yX11_needShot cX11_needShot 3 (some (.object "PuppetFilm$Shot")), .classLink RX11 408 "java/util/NoSuchElementException", .initialized "java/util/NoSuchElementException", .fieldLink RX11 10 "PuppetFilm" "studio" "LPuppetFilm$Studio;", .methodLink RX11 271 yX8_shotAt, .instanceMethod yX8_shotAt, .selects RX8 yX8_shotAt yX8_shotAt, .initialized RX8, .code yX8_shotAt cX8_shotAt 2 (some (.object "PuppetFilm$Shot")), .fieldLink RX8 19 "PuppetFilm$Studio" "shots" "[LPuppetFilm$Shot;"]) (mem_ps [8, 9, 10, 4, 11, 12, 13, 14, 15, 16, 17, 18, 19, 20] (by decide +kernel)) (by decide +kernel)) (goodIn_sub (fun _ h => List.mem_cons_of_mem _ (List.mem_append_left _ (List.mem_append_left _ (List.mem_append_right _ h)))) (by decide +kernel))) (goodIn_sub (fun _ h => List.mem_cons_of_mem _ (List.mem_append_left _ (List.mem_append_right _ h))) (by decide +kernel))) (goodIn_sub (fun _ h => List.mem_cons_of_mem _ (List.mem_append_right _ h)) (by decide +kernel)))
set_option maxRecDepth 100000 in
theorem zgL_fall_X11_fall_59 : GoodIn zsL_fall (wsV RL 59 RX11 yX11_fall zsX11_fall) := goodIn_app (goodIn_sub (mem_ps [1, 2, 3, 4] (by decide +kernel)) (by decide +kernel)) zgL_fall_X11_fall_59_w
set_option maxHeartbeats 4000000 in
set_option maxRecDepth 100000 in
theorem c_L_fall (l : Launch) (hst : l.stackTraces = false) (D : va_G) (cT : Nat → ClassId) (h0 : Nat) (p0 : Int32) (p1 : Int32) (o9 : Nat) (x_studio : Nat) (x_script : Nat) (x_teller : Nat) (x_planner : Nat) (x_plan : Nat) (x_drifts : Nat) (x_floor : Nat) (x_trial : Nat) (x_tape : Nat) (s_puppets : Nat) (s_shots : Nat) (s_sounds : Nat) (s_rates : Nat) (s_dresses : Nat) (sz : Nat)  : Met l yL_fall zsL_fall ({ frames := 11, cells := 1, slots := 6, locals := 340 }) (va_Pc [.ref h0, .int p0, .int p1, .ref o9] (PZ D cT [(h0, .inr (11, [.ref x_studio, .ref x_script, .ref x_teller, .ref x_planner, .ref x_plan, .ref x_drifts, .ref x_floor, .ref x_trial, .ref x_tape, .int 0, .int (-1)])), (x_studio, .inr (8, [.ref s_puppets, .int 0, .ref s_shots, .int 0, .ref s_sounds, .ref s_rates, .ref s_dresses])), (s_shots, .inl (cT 5, 12, .inr (.inr (.inr (.inr (fun _ => none))))))] sz)) (va_Qi (fun (r : Int32) (_ : Unit) => r = 1) (fun (_ : Unit) (_ : State) => True) (va_A [(h0, .inr (11, [.ref x_studio, .ref x_script, .ref x_teller, .ref x_planner, .ref x_plan, .ref x_drifts, .ref x_floor, .ref x_trial, .ref x_tape, .int 0, .int (-1)])), (x_studio, .inr (8, [.ref s_puppets, .int 0, .ref s_shots, .int 0, .ref s_sounds, .ref s_rates, .ref s_dresses])), (s_shots, .inl (cT 5, 12, .inr (.inr (.inr (.inr (fun _ => none))))))] sz)) 1 6 (va_A [(h0, .inr (11, [.ref x_studio, .ref x_script, .ref x_teller, .ref x_planner, .ref x_plan, .ref x_drifts, .ref x_floor, .ref x_trial, .ref x_tape, .int 0, .int (-1)])), (x_studio, .inr (8, [.ref s_puppets, .int 0, .ref s_shots, .int 0, .ref s_sounds, .ref s_rates, .ref s_dresses])), (s_shots, .inl (cT 5, 12, .inr (.inr (.inr (.inr (fun _ => none))))))] sz) := by
  refine va_MetW (cc := cL_fall) (maxL := 5) (ret := (some .int)) (by decide) rfl ?_
  intro p e s m args below meth c s₁ B hml hv
  obtain ⟨rfl, ⟨hsz, hP, hK, hD0, hG⟩, hZ⟩ := hv
  have hx := B.exec
  have hb := B.bytes
  have hr := B.returns
  have hts := atoms_spec (ws := zsL_fall) B.pre
  have hown : s.vm.findClass RL = some m.cls := findClass_of_methodNamed B.named
  have hlocks := B.notSynchronized
  have htb := vx_table (x := yL_fall) B (hts _ List.mem_cons_self)
  subst hsz
  have hD := hD0.self (sz := s.heap.size)
  generalize hAe : va_A [(h0, .inr (11, [.ref x_studio, .ref x_script, .ref x_teller, .ref x_planner, .ref x_plan, .ref x_drifts, .ref x_floor, .ref x_trial, .ref x_tape, .int 0, .int (-1)])), (x_studio, .inr (8, [.ref s_puppets, .int 0, .ref s_shots, .int 0, .ref s_sounds, .ref s_rates, .ref s_dresses])), (s_shots, .inl (cT 5, 12, .inr (.inr (.inr (.inr (fun _ => none))))))] s.heap.size = A at hD hZ ⊢
  have hA : ∀ q : Nat, s.heap.size ≤ q → A q := fun q h => by rw [← hAe]; exact Or.inr h
  have hS : va_S A s.heap s.heap [] := va_S.rf
  have hP : va_P D vwCl [(h0, .inr (11, [.ref x_studio, .ref x_script, .ref x_teller, .ref x_planner, .ref x_plan, .ref x_drifts, .ref x_floor, .ref x_trial, .ref x_tape, .int 0, .int (-1)])), (x_studio, .inr (8, [.ref s_puppets, .int 0, .ref s_shots, .int 0, .ref s_sounds, .ref s_rates, .ref s_dresses])), (s_shots, .inl (cT 5, 12, .inr (.inr (.inr (.inr (fun _ => none))))))] s.heap := hP
  have hl := lv_entry ([.ref h0, .int p0, .int p1, .ref o9]) (n := 5) (Nat.le_of_ble_eq_true rfl)
  rw [lg_entry_eq]
  generalize (lg_sl ([.ref h0, .int p0, .int p1, .ref o9]) ++ List.replicate (5 - (lg_sl ([.ref h0, .int p0, .int p1, .ref o9])).length) Slot.unset).toArray = ls at hl ⊢
  have hl : lv_has ls 5 [(0, .ref h0), (1, .int p0), (2, .int p1), (3, .ref o9)] := hl
  refine lv_aload_n hx hb dL_fall_0 rfl (lv_at hl 3 rfl) ?_
  refine lv_iconst (v := 0) hx hb dL_fall_1 (by decide) ?_
  refine lv_aload_n hx hb dL_fall_2 rfl (lv_at hl 0 rfl) ?_
  refine lv_iload_n hx hb dL_fall_3 rfl (lv_at hl 1 rfl) ?_
  refine lv_iload_n hx hb dL_fall_4 rfl (lv_at hl 2 rfl) ?_
  have hF := va_free (wc := [(h0, .inr (11, [.ref x_studio, .ref x_script, .ref x_teller, .ref x_planner, .ref x_plan, .ref x_drifts, .ref x_floor, .ref x_trial, .ref x_tape, .int 0, .int (-1)])), (x_studio, .inr (8, [.ref s_puppets, .int 0, .ref s_shots, .int 0, .ref s_sounds, .ref s_rates, .ref s_dresses])), (s_shots, .inl (cT 5, 12, .inr (.inr (.inr (.inr (fun _ => none))))))]) hD hS hA [0, 1, 2] rfl
  refine vx_calli (vx_runV (As := [.int p0, .int p1]) (rest := [.int 0, .ref o9]) ⟨hx, hb, hml, hown, hts⟩ (z_X11_fall l hst D cT h0 p0 p1 x_studio x_script x_teller x_planner x_plan x_drifts x_floor x_trial x_tape s_puppets s_shots s_sounds s_rates s_dresses _ ) (cwV 2 hts zgL_fall_X11_fall_59 rfl rfl rfl (by decide +kernel) ⟨Nat.le_of_ble_eq_true rfl, Nat.le_of_ble_eq_true rfl⟩) (pv_z hP hD hK hG hZ hS hF [0, 1, 2] rfl rfl rfl 0 rfl rfl) rfl rfl hl.1 rfl (lv_room (Nat.le_of_ble_eq_true rfl)) dL_fall_5 ⟨Nat.le_of_ble_eq_true rfl, Nat.le_of_ble_eq_true rfl⟩) hS (fun q _ h => hF q h) hF (fun q _ h => hF q h) (fun E ce q9 uu9 tt9 H locs ht hvm hw hB hz1 hk1 hS hq9 hv9 hc9 => ?_) (fun r_1 uu9 tt9 H locs ht hvm wr_1 hB hz1 hk1 hS => wr_1.elim)
  obtain ⟨rfl, hpx⟩ := hB
  refine vx_widen (k := 1) (n := 6) (Nat.le_of_ble_eq_true rfl) (Nat.le_of_ble_eq_true rfl) ?_
  refine vx_catch (E := "java/util/NoSuchElementException") (name := "java/util/NoSuchElementException") hown [] ⟨0, 10, 13, 37⟩ [⟨0, 10, 17, 15⟩] htb (fun z hz => nomatch hz) (by decide) (by decide) (hts (.classLink RL 37 "java/util/NoSuchElementException") (List.mem_of_getElem? (i := 6) (by decide +kernel))) (gwB_any hG (Cond.castable "java/util/NoSuchElementException" "java/util/NoSuchElementException") (by decide +kernel)) hq9 hv9 hc9 ?_
  obtain ⟨hP, hD⟩ := va_join (wr := []) (w1 := []) hP hD [0, 1, 2] [] rfl rfl (by decide) (by decide) hk1 hF vp_nil vd_nil
  have hP : va_P D vwCl [] _ := hP
  have hD : va_D A [] := hD
  refine W.eq (g2 := F0 m 13 ls [.ref q9]) rfl ?_
  refine lv_astore (lv' := [(4, .ref q9), (0, .ref h0), (1, .int p0), (2, .int p1), (3, .ref o9)]) hx hb dL_fall_13 hl (by decide) rfl (fun ls hl => ?_)
  refine lv_iconst (v := 1) hx hb dL_fall_15 (by decide) ?_
  exact W.iret (v := 1) hx hb hr (fun t ht hW => ⟨⟨1, (), rfl, rfl, trivial⟩, hS.F ht⟩) hS.2.2 dL_fall_16
theorem dL_alike_0 : decode cL_alike 0 = .ok (.aload 4, 2) := by decide +kernel
theorem dL_alike_2 : decode cL_alike 2 = .ok (.iconst 0, 1) := by decide +kernel
theorem dL_alike_22 : decode cL_alike 22 = .ok (.astore 5, 2) := by decide +kernel
theorem dL_alike_24 : decode cL_alike 24 = .ok (.iconst 1, 1) := by decide +kernel
theorem dL_alike_25 : decode cL_alike 25 = .ok (.ireturn, 1) := by decide +kernel
theorem dL_alike_3 : decode cL_alike 3 = .ok (.aload_n 0, 1) := by decide +kernel
theorem dL_alike_4 : decode cL_alike 4 = .ok (.iload_n 1, 1) := by decide +kernel
theorem dL_alike_5 : decode cL_alike 5 = .ok (.iload_n 2, 1) := by decide +kernel
theorem dL_alike_6 : decode cL_alike 6 = .ok (.iload_n 3, 1) := by decide +kernel
theorem dL_alike_7 : decode cL_alike 7 = .ok (.invokevirtual 62, 3) := by decide +kernel
set_option maxRecDepth 100000 in
theorem zgL_alike_X11_alike_62_w : GoodIn zsL_alike zsX11_alike := goodIn_app (goodIn_sub (ws := [.code yX11_alike cX11_alike 5 (some .boolean)]) (fun _ h9 => List.mem_singleton.mp h9 ▸ List.mem_of_getElem? (i := 5) rfl) (by decide +kernel)) (goodIn_app (goodIn_app (goodIn_app (goodIn_sub (ws := [.methodLink RX11 166 yX11_needShot, .instanceMethod yX11_needShot, .selects RX11 yX11_needShot yX11_needShot, .initialized RX11, .code yX11_needShot cX11_needShot 3 (some (.object "PuppetFilm$Shot")), .classLink RX11 408 "java/util/NoSuchElementException", .initialized "java/util/NoSuchElementException", .fieldLink RX11 10 "PuppetFilm" "studio" "LPuppetFilm$Studio;", .methodLink RX11 271 yX8_shotAt, .instanceMethod yX8_shotAt, .selects RX8 yX8_shotAt yX8_shotAt, .initialized RX8, .code yX8_shotAt cX8_shotAt 2 (some (.object "PuppetFilm$Shot")), .fieldLink RX8 19 "PuppetFilm$Studio" "shots" "[LPuppetFilm$Shot;"]) (mem_ps [8, 9, 10, 4, 11, 12, 13, 14, 15, 16, 17, 18, 19, 20] (by decide +kernel)) (by decide +kernel)) (goodIn_sub (fun _ h => List.mem_cons_of_mem _ (List.mem_append_left _ (List.mem_append_left _ (List.mem_append_right _ h)))) (by decide +kernel))) (goodIn_sub (fun _ h => List.mem_cons_of_mem _ (List.mem_append_left _ (List.mem_append_right _ h))) (by decide +kernel))) (goodIn_sub (fun _ h => List.mem_cons_of_mem _ (List.mem_append_right _ h)) (by decide +kernel)))
set_option maxRecDepth 100000 in
theorem zgL_alike_X11_alike_62 : GoodIn zsL_alike (wsV RL 62 RX11 yX11_alike zsX11_alike) := goodIn_app (goodIn_sub (mem_ps [1, 2, 3, 4] (by decide +kernel)) (by decide +kernel)) zgL_alike_X11_alike_62_w
set_option maxHeartbeats 4000000 in
set_option maxRecDepth 100000 in
theorem c_L_alike (l : Launch) (hst : l.stackTraces = false) (D : va_G) (cT : Nat → ClassId) (h0 : Nat) (p0 : Int32) (p1 : Int32) (p2 : Int32) (o9 : Nat) (x_studio : Nat) (x_script : Nat) (x_teller : Nat) (x_planner : Nat) (x_plan : Nat) (x_drifts : Nat) (x_floor : Nat) (x_trial : Nat) (x_tape : Nat) (s_puppets : Nat) (s_shots : Nat) (s_sounds : Nat) (s_rates : Nat) (s_dresses : Nat) (sz : Nat)  : Met l yL_alike zsL_alike ({ frames := 11, cells := 1, slots := 6, locals := 340 }) (va_Pc [.ref h0, .int p0, .int p1, .int p2, .ref o9] (PZ D cT [(h0, .inr (11, [.ref x_studio, .ref x_script, .ref x_teller, .ref x_planner, .ref x_plan, .ref x_drifts, .ref x_floor, .ref x_trial, .ref x_tape, .int 0, .int (-1)])), (x_studio, .inr (8, [.ref s_puppets, .int 0, .ref s_shots, .int 0, .ref s_sounds, .ref s_rates, .ref s_dresses])), (s_shots, .inl (cT 5, 12, .inr (.inr (.inr (.inr (fun _ => none))))))] sz)) (va_Qi (fun (r : Int32) (_ : Unit) => r = 1) (fun (_ : Unit) (_ : State) => True) (va_A [(h0, .inr (11, [.ref x_studio, .ref x_script, .ref x_teller, .ref x_planner, .ref x_plan, .ref x_drifts, .ref x_floor, .ref x_trial, .ref x_tape, .int 0, .int (-1)])), (x_studio, .inr (8, [.ref s_puppets, .int 0, .ref s_shots, .int 0, .ref s_sounds, .ref s_rates, .ref s_dresses])), (s_shots, .inl (cT 5, 12, .inr (.inr (.inr (.inr (fun _ => none))))))] sz)) 1 6 (va_A [(h0, .inr (11, [.ref x_studio, .ref x_script, .ref x_teller, .ref x_planner, .ref x_plan, .ref x_drifts, .ref x_floor, .ref x_trial, .ref x_tape, .int 0, .int (-1)])), (x_studio, .inr (8, [.ref s_puppets, .int 0, .ref s_shots, .int 0, .ref s_sounds, .ref s_rates, .ref s_dresses])), (s_shots, .inl (cT 5, 12, .inr (.inr (.inr (.inr (fun _ => none))))))] sz) := by
  refine va_MetW (cc := cL_alike) (maxL := 6) (ret := (some .int)) (by decide) rfl ?_
  intro p e s m args below meth c s₁ B hml hv
  obtain ⟨rfl, ⟨hsz, hP, hK, hD0, hG⟩, hZ⟩ := hv
  have hx := B.exec
  have hb := B.bytes
  have hr := B.returns
  have hts := atoms_spec (ws := zsL_alike) B.pre
  have hown : s.vm.findClass RL = some m.cls := findClass_of_methodNamed B.named
  have hlocks := B.notSynchronized
  have htb := vx_table (x := yL_alike) B (hts _ List.mem_cons_self)
  subst hsz
  have hD := hD0.self (sz := s.heap.size)
  generalize hAe : va_A [(h0, .inr (11, [.ref x_studio, .ref x_script, .ref x_teller, .ref x_planner, .ref x_plan, .ref x_drifts, .ref x_floor, .ref x_trial, .ref x_tape, .int 0, .int (-1)])), (x_studio, .inr (8, [.ref s_puppets, .int 0, .ref s_shots, .int 0, .ref s_sounds, .ref s_rates, .ref s_dresses])), (s_shots, .inl (cT 5, 12, .inr (.inr (.inr (.inr (fun _ => none))))))] s.heap.size = A at hD hZ ⊢
  have hA : ∀ q : Nat, s.heap.size ≤ q → A q := fun q h => by rw [← hAe]; exact Or.inr h
  have hS : va_S A s.heap s.heap [] := va_S.rf
  have hP : va_P D vwCl [(h0, .inr (11, [.ref x_studio, .ref x_script, .ref x_teller, .ref x_planner, .ref x_plan, .ref x_drifts, .ref x_floor, .ref x_trial, .ref x_tape, .int 0, .int (-1)])), (x_studio, .inr (8, [.ref s_puppets, .int 0, .ref s_shots, .int 0, .ref s_sounds, .ref s_rates, .ref s_dresses])), (s_shots, .inl (cT 5, 12, .inr (.inr (.inr (.inr (fun _ => none))))))] s.heap := hP
  have hl := lv_entry ([.ref h0, .int p0, .int p1, .int p2, .ref o9]) (n := 6) (Nat.le_of_ble_eq_true rfl)
  rw [lg_entry_eq]
  generalize (lg_sl ([.ref h0, .int p0, .int p1, .int p2, .ref o9]) ++ List.replicate (6 - (lg_sl ([.ref h0, .int p0, .int p1, .int p2, .ref o9])).length) Slot.unset).toArray = ls at hl ⊢
  have hl : lv_has ls 6 [(0, .ref h0), (1, .int p0), (2, .int p1), (3, .int p2), (4, .ref o9)] := hl
  refine lv_aload hx hb dL_alike_0 (lv_at hl 4 rfl) ?_
  refine lv_iconst (v := 0) hx hb dL_alike_2 (by decide) ?_
  refine lv_aload_n hx hb dL_alike_3 rfl (lv_at hl 0 rfl) ?_
  refine lv_iload_n hx hb dL_alike_4 rfl (lv_at hl 1 rfl) ?_
  refine lv_iload_n hx hb dL_alike_5 rfl (lv_at hl 2 rfl) ?_
  refine lv_iload_n hx hb dL_alike_6 rfl (lv_at hl 3 rfl) ?_
  have hF := va_free (wc := [(h0, .inr (11, [.ref x_studio, .ref x_script, .ref x_teller, .ref x_planner, .ref x_plan, .ref x_drifts, .ref x_floor, .ref x_trial, .ref x_tape, .int 0, .int (-1)])), (x_studio, .inr (8, [.ref s_puppets, .int 0, .ref s_shots, .int 0, .ref s_sounds, .ref s_rates, .ref s_dresses])), (s_shots, .inl (cT 5, 12, .inr (.inr (.inr (.inr (fun _ => none))))))]) hD hS hA [0, 1, 2] rfl
  refine vx_calli (vx_runV (As := [.int p0, .int p1, .int p2]) (rest := [.int 0, .ref o9]) ⟨hx, hb, hml, hown, hts⟩ (z_X11_alike l hst D cT h0 p0 p1 p2 x_studio x_script x_teller x_planner x_plan x_drifts x_floor x_trial x_tape s_puppets s_shots s_sounds s_rates s_dresses _ ) (cwV 3 hts zgL_alike_X11_alike_62 rfl rfl rfl (by decide +kernel) ⟨Nat.le_of_ble_eq_true rfl, Nat.le_of_ble_eq_true rfl⟩) (pv_z hP hD hK hG hZ hS hF [0, 1, 2] rfl rfl rfl 0 rfl rfl) rfl rfl hl.1 rfl (lv_room (Nat.le_of_ble_eq_true rfl)) dL_alike_7 ⟨Nat.le_of_ble_eq_true rfl, Nat.le_of_ble_eq_true rfl⟩) hS (fun q _ h => hF q h) hF (fun q _ h => hF q h) (fun E ce q9 uu9 tt9 H locs ht hvm hw hB hz1 hk1 hS hq9 hv9 hc9 => ?_) (fun r_1 uu9 tt9 H locs ht hvm wr_1 hB hz1 hk1 hS => wr_1.elim)
  obtain ⟨rfl, hpx⟩ := hB
  refine vx_widen (k := 1) (n := 6) (Nat.le_of_ble_eq_true rfl) (Nat.le_of_ble_eq_true rfl) ?_
  refine vx_catch (E := "java/util/NoSuchElementException") (name := "java/util/NoSuchElementException") hown [] ⟨0, 19, 22, 37⟩ [⟨0, 19, 26, 13⟩] htb (fun z hz => nomatch hz) (by decide) (by decide) (hts (.classLink RL 37 "java/util/NoSuchElementException") (List.mem_of_getElem? (i := 6) (by decide +kernel))) (gwB_any hG (Cond.castable "java/util/NoSuchElementException" "java/util/NoSuchElementException") (by decide +kernel)) hq9 hv9 hc9 ?_
  obtain ⟨hP, hD⟩ := va_join (wr := []) (w1 := []) hP hD [0, 1, 2] [] rfl rfl (by decide) (by decide) hk1 hF vp_nil vd_nil
  have hP : va_P D vwCl [] _ := hP
  have hD : va_D A [] := hD
  refine W.eq (g2 := F0 m 22 ls [.ref q9]) rfl ?_
  refine lv_astore (lv' := [(5, .ref q9), (0, .ref h0), (1, .int p0), (2, .int p1), (3, .int p2), (4, .ref o9)]) hx hb dL_alike_22 hl (by decide) rfl (fun ls hl => ?_)
  refine lv_iconst (v := 1) hx hb dL_alike_24 (by decide) ?_
  exact W.iret (v := 1) hx hb hr (fun t ht hW => ⟨⟨1, (), rfl, rfl, trivial⟩, hS.F ht⟩) hS.2.2 dL_alike_25
theorem dL_swap_0 : decode cL_swap 0 = .ok (.aload 4, 2) := by decide +kernel
theorem dL_swap_15 : decode cL_swap 15 = .ok (.astore 5, 2) := by decide +kernel
theorem dL_swap_17 : decode cL_swap 17 = .ok (.iconst 1, 1) := by decide +kernel
theorem dL_swap_18 : decode cL_swap 18 = .ok (.ireturn, 1) := by decide +kernel
theorem dL_swap_2 : decode cL_swap 2 = .ok (.iconst 0, 1) := by decide +kernel
theorem dL_swap_3 : decode cL_swap 3 = .ok (.aload_n 0, 1) := by decide +kernel
theorem dL_swap_4 : decode cL_swap 4 = .ok (.iload_n 1, 1) := by decide +kernel
theorem dL_swap_5 : decode cL_swap 5 = .ok (.iload_n 2, 1) := by decide +kernel
theorem dL_swap_6 : decode cL_swap 6 = .ok (.iload_n 3, 1) := by decide +kernel
theorem dL_swap_7 : decode cL_swap 7 = .ok (.invokevirtual 66, 3) := by decide +kernel
set_option maxRecDepth 100000 in
theorem zgL_swap_X11_swap_66_w : GoodIn zsL_swap zsX11_swap := goodIn_app (goodIn_sub (ws := [.code yX11_swap cX11_swap 7 (some .int)]) (fun _ h9 => List.mem_singleton.mp h9 ▸ List.mem_of_getElem? (i := 5) rfl) (by decide +kernel)) (goodIn_app (goodIn_app (goodIn_app (goodIn_sub (ws := [.methodLink RX11 166 yX11_needShot, .instanceMethod yX11_needShot, .selects RX11 yX11_needShot yX11_needShot, .initialized RX11, .code yX11_needShot cX11_needShot 3 (some (.object "PuppetFilm$Shot")), .classLink RX11 408 "java/util/NoSuchElementException", .initialized "java/util/NoSuchElementException", .fieldLink RX11 10 "PuppetFilm" "studio" "LPuppetFilm$Studio;", .methodLink RX11 271 yX8_shotAt, .instanceMethod yX8_shotAt, .selects RX8 yX8_shotAt yX8_shotAt, .initialized RX8, .code yX8_shotAt cX8_shotAt 2 (some (.object "PuppetFilm$Shot")), .fieldLink RX8 19 "PuppetFilm$Studio" "shots" "[LPuppetFilm$Shot;"]) (mem_ps [8, 9, 10, 4, 11, 12, 13, 14, 15, 16, 17, 18, 19, 20] (by decide +kernel)) (by decide +kernel)) (goodIn_sub (fun _ h => List.mem_cons_of_mem _ (List.mem_append_left _ (List.mem_append_left _ (List.mem_append_right _ h)))) (by decide +kernel))) (goodIn_sub (fun _ h => List.mem_cons_of_mem _ (List.mem_append_left _ (List.mem_append_right _ h))) (by decide +kernel))) (goodIn_sub (fun _ h => List.mem_cons_of_mem _ (List.mem_append_right _ h)) (by decide +kernel)))
set_option maxRecDepth 100000 in
theorem zgL_swap_X11_swap_66 : GoodIn zsL_swap (wsV RL 66 RX11 yX11_swap zsX11_swap) := goodIn_app (goodIn_sub (mem_ps [1, 2, 3, 4] (by decide +kernel)) (by decide +kernel)) zgL_swap_X11_swap_66_w
set_option maxHeartbeats 4000000 in
set_option maxRecDepth 100000 in
theorem c_L_swap (l : Launch) (hst : l.stackTraces = false) (D : va_G) (cT : Nat → ClassId) (h0 : Nat) (p0 : Int32) (p1 : Int32) (p2 : Int32) (o9 : Nat) (x_studio : Nat) (x_script : Nat) (x_teller : Nat) (x_planner : Nat) (x_plan : Nat) (x_drifts : Nat) (x_floor : Nat) (x_trial : Nat) (x_tape : Nat) (s_puppets : Nat) (s_shots : Nat) (s_sounds : Nat) (s_rates : Nat) (s_dresses : Nat) (sz : Nat)  : Met l yL_swap zsL_swap ({ frames := 11, cells := 1, slots := 6, locals := 340 }) (va_Pc [.ref h0, .int p0, .int p1, .int p2, .ref o9] (PZ D cT [(h0, .inr (11, [.ref x_studio, .ref x_script, .ref x_teller, .ref x_planner, .ref x_plan, .ref x_drifts, .ref x_floor, .ref x_trial, .ref x_tape, .int 0, .int (-1)])), (x_studio, .inr (8, [.ref s_puppets, .int 0, .ref s_shots, .int 0, .ref s_sounds, .ref s_rates, .ref s_dresses])), (s_shots, .inl (cT 5, 12, .inr (.inr (.inr (.inr (fun _ => none))))))] sz)) (va_Qi (fun (r : Int32) (_ : Unit) => r = 1) (fun (_ : Unit) (_ : State) => True) (va_A [(h0, .inr (11, [.ref x_studio, .ref x_script, .ref x_teller, .ref x_planner, .ref x_plan, .ref x_drifts, .ref x_floor, .ref x_trial, .ref x_tape, .int 0, .int (-1)])), (x_studio, .inr (8, [.ref s_puppets, .int 0, .ref s_shots, .int 0, .ref s_sounds, .ref s_rates, .ref s_dresses])), (s_shots, .inl (cT 5, 12, .inr (.inr (.inr (.inr (fun _ => none))))))] sz)) 1 6 (va_A [(h0, .inr (11, [.ref x_studio, .ref x_script, .ref x_teller, .ref x_planner, .ref x_plan, .ref x_drifts, .ref x_floor, .ref x_trial, .ref x_tape, .int 0, .int (-1)])), (x_studio, .inr (8, [.ref s_puppets, .int 0, .ref s_shots, .int 0, .ref s_sounds, .ref s_rates, .ref s_dresses])), (s_shots, .inl (cT 5, 12, .inr (.inr (.inr (.inr (fun _ => none))))))] sz) := by
  refine va_MetW (cc := cL_swap) (maxL := 6) (ret := (some .int)) (by decide) rfl ?_
  intro p e s m args below meth c s₁ B hml hv
  obtain ⟨rfl, ⟨hsz, hP, hK, hD0, hG⟩, hZ⟩ := hv
  have hx := B.exec
  have hb := B.bytes
  have hr := B.returns
  have hts := atoms_spec (ws := zsL_swap) B.pre
  have hown : s.vm.findClass RL = some m.cls := findClass_of_methodNamed B.named
  have hlocks := B.notSynchronized
  have htb := vx_table (x := yL_swap) B (hts _ List.mem_cons_self)
  subst hsz
  have hD := hD0.self (sz := s.heap.size)
  generalize hAe : va_A [(h0, .inr (11, [.ref x_studio, .ref x_script, .ref x_teller, .ref x_planner, .ref x_plan, .ref x_drifts, .ref x_floor, .ref x_trial, .ref x_tape, .int 0, .int (-1)])), (x_studio, .inr (8, [.ref s_puppets, .int 0, .ref s_shots, .int 0, .ref s_sounds, .ref s_rates, .ref s_dresses])), (s_shots, .inl (cT 5, 12, .inr (.inr (.inr (.inr (fun _ => none))))))] s.heap.size = A at hD hZ ⊢
  have hA : ∀ q : Nat, s.heap.size ≤ q → A q := fun q h => by rw [← hAe]; exact Or.inr h
  have hS : va_S A s.heap s.heap [] := va_S.rf
  have hP : va_P D vwCl [(h0, .inr (11, [.ref x_studio, .ref x_script, .ref x_teller, .ref x_planner, .ref x_plan, .ref x_drifts, .ref x_floor, .ref x_trial, .ref x_tape, .int 0, .int (-1)])), (x_studio, .inr (8, [.ref s_puppets, .int 0, .ref s_shots, .int 0, .ref s_sounds, .ref s_rates, .ref s_dresses])), (s_shots, .inl (cT 5, 12, .inr (.inr (.inr (.inr (fun _ => none))))))] s.heap := hP
  have hl := lv_entry ([.ref h0, .int p0, .int p1, .int p2, .ref o9]) (n := 6) (Nat.le_of_ble_eq_true rfl)
  rw [lg_entry_eq]
  generalize (lg_sl ([.ref h0, .int p0, .int p1, .int p2, .ref o9]) ++ List.replicate (6 - (lg_sl ([.ref h0, .int p0, .int p1, .int p2, .ref o9])).length) Slot.unset).toArray = ls at hl ⊢
  have hl : lv_has ls 6 [(0, .ref h0), (1, .int p0), (2, .int p1), (3, .int p2), (4, .ref o9)] := hl
  refine lv_aload hx hb dL_swap_0 (lv_at hl 4 rfl) ?_
  refine lv_iconst (v := 0) hx hb dL_swap_2 (by decide) ?_
  refine lv_aload_n hx hb dL_swap_3 rfl (lv_at hl 0 rfl) ?_
  refine lv_iload_n hx hb dL_swap_4 rfl (lv_at hl 1 rfl) ?_
  refine lv_iload_n hx hb dL_swap_5 rfl (lv_at hl 2 rfl) ?_
  refine lv_iload_n hx hb dL_swap_6 rfl (lv_at hl 3 rfl) ?_
  have hF := va_free (wc := [(h0, .inr (11, [.ref x_studio, .ref x_script, .ref x_teller, .ref x_planner, .ref x_plan, .ref x_drifts, .ref x_floor, .ref x_trial, .ref x_tape, .int 0, .int (-1)])), (x_studio, .inr (8, [.ref s_puppets, .int 0, .ref s_shots, .int 0, .ref s_sounds, .ref s_rates, .ref s_dresses])), (s_shots, .inl (cT 5, 12, .inr (.inr (.inr (.inr (fun _ => none))))))]) hD hS hA [0, 1, 2] rfl
  refine vx_calli (vx_runV (As := [.int p0, .int p1, .int p2]) (rest := [.int 0, .ref o9]) ⟨hx, hb, hml, hown, hts⟩ (z_X11_swap l hst D cT h0 p0 p1 p2 x_studio x_script x_teller x_planner x_plan x_drifts x_floor x_trial x_tape s_puppets s_shots s_sounds s_rates s_dresses _ ) (cwV 3 hts zgL_swap_X11_swap_66 rfl rfl rfl (by decide +kernel) ⟨Nat.le_of_ble_eq_true rfl, Nat.le_of_ble_eq_true rfl⟩) (pv_z hP hD hK hG hZ hS hF [0, 1, 2] rfl rfl rfl 0 rfl rfl) rfl rfl hl.1 rfl (lv_room (Nat.le_of_ble_eq_true rfl)) dL_swap_7 ⟨Nat.le_of_ble_eq_true rfl, Nat.le_of_ble_eq_true rfl⟩) hS (fun q _ h => hF q h) hF (fun q _ h => hF q h) (fun E ce q9 uu9 tt9 H locs ht hvm hw hB hz1 hk1 hS hq9 hv9 hc9 => ?_) (fun r_1 uu9 tt9 H locs ht hvm wr_1 hB hz1 hk1 hS => wr_1.elim)
  obtain ⟨rfl, hpx⟩ := hB
  refine vx_widen (k := 1) (n := 6) (Nat.le_of_ble_eq_true rfl) (Nat.le_of_ble_eq_true rfl) ?_
  refine vx_catch (E := "java/util/NoSuchElementException") (name := "java/util/NoSuchElementException") hown [] ⟨0, 12, 15, 37⟩ [⟨0, 12, 19, 13⟩] htb (fun z hz => nomatch hz) (by decide) (by decide) (hts (.classLink RL 37 "java/util/NoSuchElementException") (List.mem_of_getElem? (i := 6) (by decide +kernel))) (gwB_any hG (Cond.castable "java/util/NoSuchElementException" "java/util/NoSuchElementException") (by decide +kernel)) hq9 hv9 hc9 ?_
  obtain ⟨hP, hD⟩ := va_join (wr := []) (w1 := []) hP hD [0, 1, 2] [] rfl rfl (by decide) (by decide) hk1 hF vp_nil vd_nil
  have hP : va_P D vwCl [] _ := hP
  have hD : va_D A [] := hD
  refine W.eq (g2 := F0 m 15 ls [.ref q9]) rfl ?_
  refine lv_astore (lv' := [(5, .ref q9), (0, .ref h0), (1, .int p0), (2, .int p1), (3, .int p2), (4, .ref o9)]) hx hb dL_swap_15 hl (by decide) rfl (fun ls hl => ?_)
  refine lv_iconst (v := 1) hx hb dL_swap_17 (by decide) ?_
  exact W.iret (v := 1) hx hb hr (fun t ht hW => ⟨⟨1, (), rfl, rfl, trivial⟩, hS.F ht⟩) hS.2.2 dL_swap_18
theorem dL_lasts_0 : decode cL_lasts 0 = .ok (.aload_n 3, 1) := by decide +kernel
theorem dL_lasts_1 : decode cL_lasts 1 = .ok (.iconst 0, 1) := by decide +kernel
theorem dL_lasts_13 : decode cL_lasts 13 = .ok (.astore 4, 2) := by decide +kernel
theorem dL_lasts_15 : decode cL_lasts 15 = .ok (.iconst 1, 1) := by decide +kernel
theorem dL_lasts_16 : decode cL_lasts 16 = .ok (.ireturn, 1) := by decide +kernel
theorem dL_lasts_2 : decode cL_lasts 2 = .ok (.aload_n 0, 1) := by decide +kernel
theorem dL_lasts_3 : decode cL_lasts 3 = .ok (.iload_n 1, 1) := by decide +kernel
theorem dL_lasts_4 : decode cL_lasts 4 = .ok (.iload_n 2, 1) := by decide +kernel
theorem dL_lasts_5 : decode cL_lasts 5 = .ok (.invokevirtual 72, 3) := by decide +kernel
set_option maxRecDepth 100000 in
theorem zgL_lasts_X11_lasts_72_w : GoodIn zsL_lasts zsX11_lasts := goodIn_app (goodIn_sub (ws := [.code yX11_lasts cX11_lasts 4 (some .int)]) (fun _ h9 => List.mem_singleton.mp h9 ▸ List.mem_of_getElem? (i := 5) rfl) (by decide +kernel)) (goodIn_app (goodIn_app (goodIn_app (goodIn_sub (ws := [.methodLink RX11 166 yX11_needShot, .instanceMethod yX11_needShot, .selects RX11 yX11_needShot yX11_needShot, .initialized RX11, .code yX11_needShot cX11_needShot 3 (some (.object "PuppetFilm$Shot")), .classLink RX11 408 "java/util/NoSuchElementException", .initialized "java/util/NoSuchElementException", .fieldLink RX11 10 "PuppetFilm" "studio" "LPuppetFilm$Studio;", .methodLink RX11 271 yX8_shotAt, .instanceMethod yX8_shotAt, .selects RX8 yX8_shotAt yX8_shotAt, .initialized RX8, .code yX8_shotAt cX8_shotAt 2 (some (.object "PuppetFilm$Shot")), .fieldLink RX8 19 "PuppetFilm$Studio" "shots" "[LPuppetFilm$Shot;"]) (mem_ps [8, 9, 10, 4, 11, 12, 13, 14, 15, 16, 17, 18, 19, 20] (by decide +kernel)) (by decide +kernel)) (goodIn_sub (fun _ h => List.mem_cons_of_mem _ (List.mem_append_left _ (List.mem_append_left _ (List.mem_append_right _ h)))) (by decide +kernel))) (goodIn_sub (fun _ h => List.mem_cons_of_mem _ (List.mem_append_left _ (List.mem_append_right _ h))) (by decide +kernel))) (goodIn_sub (fun _ h => List.mem_cons_of_mem _ (List.mem_append_right _ h)) (by decide +kernel)))
set_option maxRecDepth 100000 in
theorem zgL_lasts_X11_lasts_72 : GoodIn zsL_lasts (wsV RL 72 RX11 yX11_lasts zsX11_lasts) := goodIn_app (goodIn_sub (mem_ps [1, 2, 3, 4] (by decide +kernel)) (by decide +kernel)) zgL_lasts_X11_lasts_72_w
set_option maxHeartbeats 4000000 in
set_option maxRecDepth 100000 in
theorem c_L_lasts (l : Launch) (hst : l.stackTraces = false) (D : va_G) (cT : Nat → ClassId) (h0 : Nat) (p0 : Int32) (p1 : Int32) (o9 : Nat) (x_studio : Nat) (x_script : Nat) (x_teller : Nat) (x_planner : Nat) (x_plan : Nat) (x_drifts : Nat) (x_floor : Nat) (x_trial : Nat) (x_tape : Nat) (s_puppets : Nat) (s_shots : Nat) (s_sounds : Nat) (s_rates : Nat) (s_dresses : Nat) (sz : Nat)  : Met l yL_lasts zsL_lasts ({ frames := 11, cells := 1, slots := 6, locals := 340 }) (va_Pc [.ref h0, .int p0, .int p1, .ref o9] (PZ D cT [(h0, .inr (11, [.ref x_studio, .ref x_script, .ref x_teller, .ref x_planner, .ref x_plan, .ref x_drifts, .ref x_floor, .ref x_trial, .ref x_tape, .int 0, .int (-1)])), (x_studio, .inr (8, [.ref s_puppets, .int 0, .ref s_shots, .int 0, .ref s_sounds, .ref s_rates, .ref s_dresses])), (s_shots, .inl (cT 5, 12, .inr (.inr (.inr (.inr (fun _ => none))))))] sz)) (va_Qi (fun (r : Int32) (_ : Unit) => r = 1) (fun (_ : Unit) (_ : State) => True) (va_A [(h0, .inr (11, [.ref x_studio, .ref x_script, .ref x_teller, .ref x_planner, .ref x_plan, .ref x_drifts, .ref x_floor, .ref x_trial, .ref x_tape, .int 0, .int (-1)])), (x_studio, .inr (8, [.ref s_puppets, .int 0, .ref s_shots, .int 0, .ref s_sounds, .ref s_rates, .ref s_dresses])), (s_shots, .inl (cT 5, 12, .inr (.inr (.inr (.inr (fun _ => none))))))] sz)) 1 6 (va_A [(h0, .inr (11, [.ref x_studio, .ref x_script, .ref x_teller, .ref x_planner, .ref x_plan, .ref x_drifts, .ref x_floor, .ref x_trial, .ref x_tape, .int 0, .int (-1)])), (x_studio, .inr (8, [.ref s_puppets, .int 0, .ref s_shots, .int 0, .ref s_sounds, .ref s_rates, .ref s_dresses])), (s_shots, .inl (cT 5, 12, .inr (.inr (.inr (.inr (fun _ => none))))))] sz) := by
  refine va_MetW (cc := cL_lasts) (maxL := 5) (ret := (some .int)) (by decide) rfl ?_
  intro p e s m args below meth c s₁ B hml hv
  obtain ⟨rfl, ⟨hsz, hP, hK, hD0, hG⟩, hZ⟩ := hv
  have hx := B.exec
  have hb := B.bytes
  have hr := B.returns
  have hts := atoms_spec (ws := zsL_lasts) B.pre
  have hown : s.vm.findClass RL = some m.cls := findClass_of_methodNamed B.named
  have hlocks := B.notSynchronized
  have htb := vx_table (x := yL_lasts) B (hts _ List.mem_cons_self)
  subst hsz
  have hD := hD0.self (sz := s.heap.size)
  generalize hAe : va_A [(h0, .inr (11, [.ref x_studio, .ref x_script, .ref x_teller, .ref x_planner, .ref x_plan, .ref x_drifts, .ref x_floor, .ref x_trial, .ref x_tape, .int 0, .int (-1)])), (x_studio, .inr (8, [.ref s_puppets, .int 0, .ref s_shots, .int 0, .ref s_sounds, .ref s_rates, .ref s_dresses])), (s_shots, .inl (cT 5, 12, .inr (.inr (.inr (.inr (fun _ => none))))))] s.heap.size = A at hD hZ ⊢
  have hA : ∀ q : Nat, s.heap.size ≤ q → A q := fun q h => by rw [← hAe]; exact Or.inr h
  have hS : va_S A s.heap s.heap [] := va_S.rf
  have hP : va_P D vwCl [(h0, .inr (11, [.ref x_studio, .ref x_script, .ref x_teller, .ref x_planner, .ref x_plan, .ref x_drifts, .ref x_floor, .ref x_trial, .ref x_tape, .int 0, .int (-1)])), (x_studio, .inr (8, [.ref s_puppets, .int 0, .ref s_shots, .int 0, .ref s_sounds, .ref s_rates, .ref s_dresses])), (s_shots, .inl (cT 5, 12, .inr (.inr (.inr (.inr (fun _ => none))))))] s.heap := hP
  have hl := lv_entry ([.ref h0, .int p0, .int p1, .ref o9]) (n := 5) (Nat.le_of_ble_eq_true rfl)
  rw [lg_entry_eq]
  generalize (lg_sl ([.ref h0, .int p0, .int p1, .ref o9]) ++ List.replicate (5 - (lg_sl ([.ref h0, .int p0, .int p1, .ref o9])).length) Slot.unset).toArray = ls at hl ⊢
  have hl : lv_has ls 5 [(0, .ref h0), (1, .int p0), (2, .int p1), (3, .ref o9)] := hl
  refine lv_aload_n hx hb dL_lasts_0 rfl (lv_at hl 3 rfl) ?_
  refine lv_iconst (v := 0) hx hb dL_lasts_1 (by decide) ?_
  refine lv_aload_n hx hb dL_lasts_2 rfl (lv_at hl 0 rfl) ?_
  refine lv_iload_n hx hb dL_lasts_3 rfl (lv_at hl 1 rfl) ?_
  refine lv_iload_n hx hb dL_lasts_4 rfl (lv_at hl 2 rfl) ?_
  have hF := va_free (wc := [(h0, .inr (11, [.ref x_studio, .ref x_script, .ref x_teller, .ref x_planner, .ref x_plan, .ref x_drifts, .ref x_floor, .ref x_trial, .ref x_tape, .int 0, .int (-1)])), (x_studio, .inr (8, [.ref s_puppets, .int 0, .ref s_shots, .int 0, .ref s_sounds, .ref s_rates, .ref s_dresses])), (s_shots, .inl (cT 5, 12, .inr (.inr (.inr (.inr (fun _ => none))))))]) hD hS hA [0, 1, 2] rfl
  refine vx_calli (vx_runV (As := [.int p0, .int p1]) (rest := [.int 0, .ref o9]) ⟨hx, hb, hml, hown, hts⟩ (z_X11_lasts l hst D cT h0 p0 p1 x_studio x_script x_teller x_planner x_plan x_drifts x_floor x_trial x_tape s_puppets s_shots s_sounds s_rates s_dresses _ ) (cwV 2 hts zgL_lasts_X11_lasts_72 rfl rfl rfl (by decide +kernel) ⟨Nat.le_of_ble_eq_true rfl, Nat.le_of_ble_eq_true rfl⟩) (pv_z hP hD hK hG hZ hS hF [0, 1, 2] rfl rfl rfl 0 rfl rfl) rfl rfl hl.1 rfl (lv_room (Nat.le_of_ble_eq_true rfl)) dL_lasts_5 ⟨Nat.le_of_ble_eq_true rfl, Nat.le_of_ble_eq_true rfl⟩) hS (fun q _ h => hF q h) hF (fun q _ h => hF q h) (fun E ce q9 uu9 tt9 H locs ht hvm hw hB hz1 hk1 hS hq9 hv9 hc9 => ?_) (fun r_1 uu9 tt9 H locs ht hvm wr_1 hB hz1 hk1 hS => wr_1.elim)
  obtain ⟨rfl, hpx⟩ := hB
  refine vx_widen (k := 1) (n := 6) (Nat.le_of_ble_eq_true rfl) (Nat.le_of_ble_eq_true rfl) ?_
  refine vx_catch (E := "java/util/NoSuchElementException") (name := "java/util/NoSuchElementException") hown [] ⟨0, 10, 13, 37⟩ [⟨0, 10, 17, 15⟩] htb (fun z hz => nomatch hz) (by decide) (by decide) (hts (.classLink RL 37 "java/util/NoSuchElementException") (List.mem_of_getElem? (i := 6) (by decide +kernel))) (gwB_any hG (Cond.castable "java/util/NoSuchElementException" "java/util/NoSuchElementException") (by decide +kernel)) hq9 hv9 hc9 ?_
  obtain ⟨hP, hD⟩ := va_join (wr := []) (w1 := []) hP hD [0, 1, 2] [] rfl rfl (by decide) (by decide) hk1 hF vp_nil vd_nil
  have hP : va_P D vwCl [] _ := hP
  have hD : va_D A [] := hD
  refine W.eq (g2 := F0 m 13 ls [.ref q9]) rfl ?_
  refine lv_astore (lv' := [(4, .ref q9), (0, .ref h0), (1, .int p0), (2, .int p1), (3, .ref o9)]) hx hb dL_lasts_13 hl (by decide) rfl (fun ls hl => ?_)
  refine lv_iconst (v := 1) hx hb dL_lasts_15 (by decide) ?_
  exact W.iret (v := 1) hx hb hr (fun t ht hW => ⟨⟨1, (), rfl, rfl, trivial⟩, hS.F ht⟩) hS.2.2 dL_lasts_16
theorem dL_clash_0 : decode cL_clash 0 = .ok (.aload_n 3, 1) := by decide +kernel
theorem dL_clash_1 : decode cL_clash 1 = .ok (.iconst 0, 1) := by decide +kernel
theorem dL_clash_2 : decode cL_clash 2 = .ok (.aload_n 0, 1) := by decide +kernel
theorem dL_clash_20 : decode cL_clash 20 = .ok (.astore 4, 2) := by decide +kernel
theorem dL_clash_22 : decode cL_clash 22 = .ok (.iconst 1, 1) := by decide +kernel
theorem dL_clash_23 : decode cL_clash 23 = .ok (.ireturn, 1) := by decide +kernel
theorem dL_clash_3 : decode cL_clash 3 = .ok (.iload_n 1, 1) := by decide +kernel
theorem dL_clash_4 : decode cL_clash 4 = .ok (.iload_n 2, 1) := by decide +kernel
theorem dL_clash_5 : decode cL_clash 5 = .ok (.invokevirtual 75, 3) := by decide +kernel
set_option maxRecDepth 100000 in
theorem zgL_clash_X11_clash_75_w : GoodIn zsL_clash zsX11_clash := goodIn_app (goodIn_sub (ws := [.code yX11_clash cX11_clash 4 (some .boolean)]) (fun _ h9 => List.mem_singleton.mp h9 ▸ List.mem_of_getElem? (i := 5) rfl) (by decide +kernel)) (goodIn_app (goodIn_app (goodIn_app (goodIn_sub (ws := [.methodLink RX11 166 yX11_needShot, .instanceMethod yX11_needShot, .selects RX11 yX11_needShot yX11_needShot, .initialized RX11, .code yX11_needShot cX11_needShot 3 (some (.object "PuppetFilm$Shot")), .classLink RX11 408 "java/util/NoSuchElementException", .initialized "java/util/NoSuchElementException", .fieldLink RX11 10 "PuppetFilm" "studio" "LPuppetFilm$Studio;", .methodLink RX11 271 yX8_shotAt, .instanceMethod yX8_shotAt, .selects RX8 yX8_shotAt yX8_shotAt, .initialized RX8, .code yX8_shotAt cX8_shotAt 2 (some (.object "PuppetFilm$Shot")), .fieldLink RX8 19 "PuppetFilm$Studio" "shots" "[LPuppetFilm$Shot;"]) (mem_ps [7, 8, 9, 4, 10, 11, 12, 13, 14, 15, 16, 17, 18, 19] (by decide +kernel)) (by decide +kernel)) (goodIn_sub (fun _ h => List.mem_cons_of_mem _ (List.mem_append_left _ (List.mem_append_left _ (List.mem_append_right _ h)))) (by decide +kernel))) (goodIn_sub (fun _ h => List.mem_cons_of_mem _ (List.mem_append_left _ (List.mem_append_right _ h))) (by decide +kernel))) (goodIn_sub (fun _ h => List.mem_cons_of_mem _ (List.mem_append_right _ h)) (by decide +kernel)))
set_option maxRecDepth 100000 in
theorem zgL_clash_X11_clash_75 : GoodIn zsL_clash (wsV RL 75 RX11 yX11_clash zsX11_clash) := goodIn_app (goodIn_sub (mem_ps [1, 2, 3, 4] (by decide +kernel)) (by decide +kernel)) zgL_clash_X11_clash_75_w
set_option maxHeartbeats 4000000 in
set_option maxRecDepth 100000 in
theorem c_L_clash (l : Launch) (hst : l.stackTraces = false) (D : va_G) (cT : Nat → ClassId) (h0 : Nat) (p0 : Int32) (p1 : Int32) (o9 : Nat) (x_studio : Nat) (x_script : Nat) (x_teller : Nat) (x_planner : Nat) (x_plan : Nat) (x_drifts : Nat) (x_floor : Nat) (x_trial : Nat) (x_tape : Nat) (s_puppets : Nat) (s_shots : Nat) (s_sounds : Nat) (s_rates : Nat) (s_dresses : Nat) (sz : Nat)  : Met l yL_clash zsL_clash ({ frames := 11, cells := 1, slots := 6, locals := 340 }) (va_Pc [.ref h0, .int p0, .int p1, .ref o9] (PZ D cT [(h0, .inr (11, [.ref x_studio, .ref x_script, .ref x_teller, .ref x_planner, .ref x_plan, .ref x_drifts, .ref x_floor, .ref x_trial, .ref x_tape, .int 0, .int (-1)])), (x_studio, .inr (8, [.ref s_puppets, .int 0, .ref s_shots, .int 0, .ref s_sounds, .ref s_rates, .ref s_dresses])), (s_shots, .inl (cT 5, 12, .inr (.inr (.inr (.inr (fun _ => none))))))] sz)) (va_Qi (fun (r : Int32) (_ : Unit) => r = 1) (fun (_ : Unit) (_ : State) => True) (va_A [(h0, .inr (11, [.ref x_studio, .ref x_script, .ref x_teller, .ref x_planner, .ref x_plan, .ref x_drifts, .ref x_floor, .ref x_trial, .ref x_tape, .int 0, .int (-1)])), (x_studio, .inr (8, [.ref s_puppets, .int 0, .ref s_shots, .int 0, .ref s_sounds, .ref s_rates, .ref s_dresses])), (s_shots, .inl (cT 5, 12, .inr (.inr (.inr (.inr (fun _ => none))))))] sz)) 1 6 (va_A [(h0, .inr (11, [.ref x_studio, .ref x_script, .ref x_teller, .ref x_planner, .ref x_plan, .ref x_drifts, .ref x_floor, .ref x_trial, .ref x_tape, .int 0, .int (-1)])), (x_studio, .inr (8, [.ref s_puppets, .int 0, .ref s_shots, .int 0, .ref s_sounds, .ref s_rates, .ref s_dresses])), (s_shots, .inl (cT 5, 12, .inr (.inr (.inr (.inr (fun _ => none))))))] sz) := by
  refine va_MetW (cc := cL_clash) (maxL := 5) (ret := (some .int)) (by decide) rfl ?_
  intro p e s m args below meth c s₁ B hml hv
  obtain ⟨rfl, ⟨hsz, hP, hK, hD0, hG⟩, hZ⟩ := hv
  have hx := B.exec
  have hb := B.bytes
  have hr := B.returns
  have hts := atoms_spec (ws := zsL_clash) B.pre
  have hown : s.vm.findClass RL = some m.cls := findClass_of_methodNamed B.named
  have hlocks := B.notSynchronized
  have htb := vx_table (x := yL_clash) B (hts _ List.mem_cons_self)
  subst hsz
  have hD := hD0.self (sz := s.heap.size)
  generalize hAe : va_A [(h0, .inr (11, [.ref x_studio, .ref x_script, .ref x_teller, .ref x_planner, .ref x_plan, .ref x_drifts, .ref x_floor, .ref x_trial, .ref x_tape, .int 0, .int (-1)])), (x_studio, .inr (8, [.ref s_puppets, .int 0, .ref s_shots, .int 0, .ref s_sounds, .ref s_rates, .ref s_dresses])), (s_shots, .inl (cT 5, 12, .inr (.inr (.inr (.inr (fun _ => none))))))] s.heap.size = A at hD hZ ⊢
  have hA : ∀ q : Nat, s.heap.size ≤ q → A q := fun q h => by rw [← hAe]; exact Or.inr h
  have hS : va_S A s.heap s.heap [] := va_S.rf
  have hP : va_P D vwCl [(h0, .inr (11, [.ref x_studio, .ref x_script, .ref x_teller, .ref x_planner, .ref x_plan, .ref x_drifts, .ref x_floor, .ref x_trial, .ref x_tape, .int 0, .int (-1)])), (x_studio, .inr (8, [.ref s_puppets, .int 0, .ref s_shots, .int 0, .ref s_sounds, .ref s_rates, .ref s_dresses])), (s_shots, .inl (cT 5, 12, .inr (.inr (.inr (.inr (fun _ => none))))))] s.heap := hP
  have hl := lv_entry ([.ref h0, .int p0, .int p1, .ref o9]) (n := 5) (Nat.le_of_ble_eq_true rfl)
  rw [lg_entry_eq]
  generalize (lg_sl ([.ref h0, .int p0, .int p1, .ref o9]) ++ List.replicate (5 - (lg_sl ([.ref h0, .int p0, .int p1, .ref o9])).length) Slot.unset).toArray = ls at hl ⊢
  have hl : lv_has ls 5 [(0, .ref h0), (1, .int p0), (2, .int p1), (3, .ref o9)] := hl
  refine lv_aload_n hx hb dL_clash_0 rfl (lv_at hl 3 rfl) ?_
  refine lv_iconst (v := 0) hx hb dL_clash_1 (by decide) ?_
  refine lv_aload_n hx hb dL_clash_2 rfl (lv_at hl 0 rfl) ?_
  refine lv_iload_n hx hb dL_clash_3 rfl (lv_at hl 1 rfl) ?_
  refine lv_iload_n hx hb dL_clash_4 rfl (lv_at hl 2 rfl) ?_
  have hF := va_free (wc := [(h0, .inr (11, [.ref x_studio, .ref x_script, .ref x_teller, .ref x_planner, .ref x_plan, .ref x_drifts, .ref x_floor, .ref x_trial, .ref x_tape, .int 0, .int (-1)])), (x_studio, .inr (8, [.ref s_puppets, .int 0, .ref s_shots, .int 0, .ref s_sounds, .ref s_rates, .ref s_dresses])), (s_shots, .inl (cT 5, 12, .inr (.inr (.inr (.inr (fun _ => none))))))]) hD hS hA [0, 1, 2] rfl
  refine vx_calli (vx_runV (As := [.int p0, .int p1]) (rest := [.int 0, .ref o9]) ⟨hx, hb, hml, hown, hts⟩ (z_X11_clash l hst D cT h0 p0 p1 x_studio x_script x_teller x_planner x_plan x_drifts x_floor x_trial x_tape s_puppets s_shots s_sounds s_rates s_dresses _ ) (cwV 2 hts zgL_clash_X11_clash_75 rfl rfl rfl (by decide +kernel) ⟨Nat.le_of_ble_eq_true rfl, Nat.le_of_ble_eq_true rfl⟩) (pv_z hP hD hK hG hZ hS hF [0, 1, 2] rfl rfl rfl 0 rfl rfl) rfl rfl hl.1 rfl (lv_room (Nat.le_of_ble_eq_true rfl)) dL_clash_5 ⟨Nat.le_of_ble_eq_true rfl, Nat.le_of_ble_eq_true rfl⟩) hS (fun q _ h => hF q h) hF (fun q _ h => hF q h) (fun E ce q9 uu9 tt9 H locs ht hvm hw hB hz1 hk1 hS hq9 hv9 hc9 => ?_) (fun r_1 uu9 tt9 H locs ht hvm wr_1 hB hz1 hk1 hS => wr_1.elim)
  obtain ⟨rfl, hpx⟩ := hB
  refine vx_widen (k := 1) (n := 6) (Nat.le_of_ble_eq_true rfl) (Nat.le_of_ble_eq_true rfl) ?_
  refine vx_catch (E := "java/util/NoSuchElementException") (name := "java/util/NoSuchElementException") hown [] ⟨0, 17, 20, 37⟩ [] htb (fun z hz => nomatch hz) (by decide) (by decide) (hts (.classLink RL 37 "java/util/NoSuchElementException") (List.mem_of_getElem? (i := 6) (by decide +kernel))) (gwB_any hG (Cond.castable "java/util/NoSuchElementException" "java/util/NoSuchElementException") (by decide +kernel)) hq9 hv9 hc9 ?_
  obtain ⟨hP, hD⟩ := va_join (wr := []) (w1 := []) hP hD [0, 1, 2] [] rfl rfl (by decide) (by decide) hk1 hF vp_nil vd_nil
  have hP : va_P D vwCl [] _ := hP
  have hD : va_D A [] := hD
  refine W.eq (g2 := F0 m 20 ls [.ref q9]) rfl ?_
  refine lv_astore (lv' := [(4, .ref q9), (0, .ref h0), (1, .int p0), (2, .int p1), (3, .ref o9)]) hx hb dL_clash_20 hl (by decide) rfl (fun ls hl => ?_)
  refine lv_iconst (v := 1) hx hb dL_clash_22 (by decide) ?_
  exact W.iret (v := 1) hx hb hr (fun t ht hW => ⟨⟨1, (), rfl, rfl, trivial⟩, hS.F ht⟩) hS.2.2 dL_clash_23
theorem dL_row_0 : decode cL_row 0 = .ok (.aload 4, 2) := by decide +kernel
theorem dL_row_15 : decode cL_row 15 = .ok (.astore 5, 2) := by decide +kernel
theorem dL_row_17 : decode cL_row 17 = .ok (.iconst 1, 1) := by decide +kernel
theorem dL_row_18 : decode cL_row 18 = .ok (.ireturn, 1) := by decide +kernel
theorem dL_row_2 : decode cL_row 2 = .ok (.iconst 0, 1) := by decide +kernel
theorem dL_row_3 : decode cL_row 3 = .ok (.aload_n 0, 1) := by decide +kernel
theorem dL_row_4 : decode cL_row 4 = .ok (.iload_n 1, 1) := by decide +kernel
theorem dL_row_5 : decode cL_row 5 = .ok (.iload_n 2, 1) := by decide +kernel
theorem dL_row_6 : decode cL_row 6 = .ok (.iload_n 3, 1) := by decide +kernel
theorem dL_row_7 : decode cL_row 7 = .ok (.invokevirtual 82, 3) := by decide +kernel
set_option maxRecDepth 100000 in
theorem zgL_row_X11_row_82_w : GoodIn zsL_row zsX11_row := goodIn_app (goodIn_sub (ws := [.code yX11_row cX11_row 4 (some .int)]) (fun _ h9 => List.mem_singleton.mp h9 ▸ List.mem_of_getElem? (i := 5) rfl) (by decide +kernel)) (goodIn_app (goodIn_app (goodIn_app (goodIn_sub (ws := [.methodLink RX11 166 yX11_needShot, .instanceMethod yX11_needShot, .selects RX11 yX11_needShot yX11_needShot, .initialized RX11, .code yX11_needShot cX11_needShot 3 (some (.object "PuppetFilm$Shot")), .classLink RX11 408 "java/util/NoSuchElementException", .initialized "java/util/NoSuchElementException", .fieldLink RX11 10 "PuppetFilm" "studio" "LPuppetFilm$Studio;", .methodLink RX11 271 yX8_shotAt, .instanceMethod yX8_shotAt, .selects RX8 yX8_shotAt yX8_shotAt, .initialized RX8, .code yX8_shotAt cX8_shotAt 2 (some (.object "PuppetFilm$Shot")), .fieldLink RX8 19 "PuppetFilm$Studio" "shots" "[LPuppetFilm$Shot;"]) (mem_ps [8, 9, 10, 4, 11, 12, 13, 14, 15, 16, 17, 18, 19, 20] (by decide +kernel)) (by decide +kernel)) (goodIn_sub (fun _ h => List.mem_cons_of_mem _ (List.mem_append_left _ (List.mem_append_left _ (List.mem_append_right _ h)))) (by decide +kernel))) (goodIn_sub (fun _ h => List.mem_cons_of_mem _ (List.mem_append_left _ (List.mem_append_right _ h))) (by decide +kernel))) (goodIn_sub (fun _ h => List.mem_cons_of_mem _ (List.mem_append_right _ h)) (by decide +kernel)))
set_option maxRecDepth 100000 in
theorem zgL_row_X11_row_82 : GoodIn zsL_row (wsV RL 82 RX11 yX11_row zsX11_row) := goodIn_app (goodIn_sub (mem_ps [1, 2, 3, 4] (by decide +kernel)) (by decide +kernel)) zgL_row_X11_row_82_w
set_option maxHeartbeats 4000000 in
set_option maxRecDepth 100000 in
theorem c_L_row (l : Launch) (hst : l.stackTraces = false) (D : va_G) (cT : Nat → ClassId) (h0 : Nat) (p0 : Int32) (p1 : Int32) (p2 : Int32) (o9 : Nat) (x_studio : Nat) (x_script : Nat) (x_teller : Nat) (x_planner : Nat) (x_plan : Nat) (x_drifts : Nat) (x_floor : Nat) (x_trial : Nat) (x_tape : Nat) (s_puppets : Nat) (s_shots : Nat) (s_sounds : Nat) (s_rates : Nat) (s_dresses : Nat) (sz : Nat)  : Met l yL_row zsL_row ({ frames := 11, cells := 1, slots := 6, locals := 340 }) (va_Pc [.ref h0, .int p0, .int p1, .int p2, .ref o9] (PZ D cT [(h0, .inr (11, [.ref x_studio, .ref x_script, .ref x_teller, .ref x_planner, .ref x_plan, .ref x_drifts, .ref x_floor, .ref x_trial, .ref x_tape, .int 0, .int (-1)])), (x_studio, .inr (8, [.ref s_puppets, .int 0, .ref s_shots, .int 0, .ref s_sounds, .ref s_rates, .ref s_dresses])), (s_shots, .inl (cT 5, 12, .inr (.inr (.inr (.inr (fun _ => none))))))] sz)) (va_Qi (fun (r : Int32) (_ : Unit) => r = 1) (fun (_ : Unit) (_ : State) => True) (va_A [(h0, .inr (11, [.ref x_studio, .ref x_script, .ref x_teller, .ref x_planner, .ref x_plan, .ref x_drifts, .ref x_floor, .ref x_trial, .ref x_tape, .int 0, .int (-1)])), (x_studio, .inr (8, [.ref s_puppets, .int 0, .ref s_shots, .int 0, .ref s_sounds, .ref s_rates, .ref s_dresses])), (s_shots, .inl (cT 5, 12, .inr (.inr (.inr (.inr (fun _ => none))))))] sz)) 1 6 (va_A [(h0, .inr (11, [.ref x_studio, .ref x_script, .ref x_teller, .ref x_planner, .ref x_plan, .ref x_drifts, .ref x_floor, .ref x_trial, .ref x_tape, .int 0, .int (-1)])), (x_studio, .inr (8, [.ref s_puppets, .int 0, .ref s_shots, .int 0, .ref s_sounds, .ref s_rates, .ref s_dresses])), (s_shots, .inl (cT 5, 12, .inr (.inr (.inr (.inr (fun _ => none))))))] sz) := by
  refine va_MetW (cc := cL_row) (maxL := 6) (ret := (some .int)) (by decide) rfl ?_
  intro p e s m args below meth c s₁ B hml hv
  obtain ⟨rfl, ⟨hsz, hP, hK, hD0, hG⟩, hZ⟩ := hv
  have hx := B.exec
  have hb := B.bytes
  have hr := B.returns
  have hts := atoms_spec (ws := zsL_row) B.pre
  have hown : s.vm.findClass RL = some m.cls := findClass_of_methodNamed B.named
  have hlocks := B.notSynchronized
  have htb := vx_table (x := yL_row) B (hts _ List.mem_cons_self)
  subst hsz
  have hD := hD0.self (sz := s.heap.size)
  generalize hAe : va_A [(h0, .inr (11, [.ref x_studio, .ref x_script, .ref x_teller, .ref x_planner, .ref x_plan, .ref x_drifts, .ref x_floor, .ref x_trial, .ref x_tape, .int 0, .int (-1)])), (x_studio, .inr (8, [.ref s_puppets, .int 0, .ref s_shots, .int 0, .ref s_sounds, .ref s_rates, .ref s_dresses])), (s_shots, .inl (cT 5, 12, .inr (.inr (.inr (.inr (fun _ => none))))))] s.heap.size = A at hD hZ ⊢
  have hA : ∀ q : Nat, s.heap.size ≤ q → A q := fun q h => by rw [← hAe]; exact Or.inr h
  have hS : va_S A s.heap s.heap [] := va_S.rf
  have hP : va_P D vwCl [(h0, .inr (11, [.ref x_studio, .ref x_script, .ref x_teller, .ref x_planner, .ref x_plan, .ref x_drifts, .ref x_floor, .ref x_trial, .ref x_tape, .int 0, .int (-1)])), (x_studio, .inr (8, [.ref s_puppets, .int 0, .ref s_shots, .int 0, .ref s_sounds, .ref s_rates, .ref s_dresses])), (s_shots, .inl (cT 5, 12, .inr (.inr (.inr (.inr (fun _ => none))))))] s.heap := hP
  have hl := lv_entry ([.ref h0, .int p0, .int p1, .int p2, .ref o9]) (n := 6) (Nat.le_of_ble_eq_true rfl)
  rw [lg_entry_eq]
  generalize (lg_sl ([.ref h0, .int p0, .int p1, .int p2, .ref o9]) ++ List.replicate (6 - (lg_sl ([.ref h0, .int p0, .int p1, .int p2, .ref o9])).length) Slot.unset).toArray = ls at hl ⊢
  have hl : lv_has ls 6 [(0, .ref h0), (1, .int p0), (2, .int p1), (3, .int p2), (4, .ref o9)] := hl
  refine lv_aload hx hb dL_row_0 (lv_at hl 4 rfl) ?_
  refine lv_iconst (v := 0) hx hb dL_row_2 (by decide) ?_
  refine lv_aload_n hx hb dL_row_3 rfl (lv_at hl 0 rfl) ?_
  refine lv_iload_n hx hb dL_row_4 rfl (lv_at hl 1 rfl) ?_
  refine lv_iload_n hx hb dL_row_5 rfl (lv_at hl 2 rfl) ?_
  refine lv_iload_n hx hb dL_row_6 rfl (lv_at hl 3 rfl) ?_
  have hF := va_free (wc := [(h0, .inr (11, [.ref x_studio, .ref x_script, .ref x_teller, .ref x_planner, .ref x_plan, .ref x_drifts, .ref x_floor, .ref x_trial, .ref x_tape, .int 0, .int (-1)])), (x_studio, .inr (8, [.ref s_puppets, .int 0, .ref s_shots, .int 0, .ref s_sounds, .ref s_rates, .ref s_dresses])), (s_shots, .inl (cT 5, 12, .inr (.inr (.inr (.inr (fun _ => none))))))]) hD hS hA [0, 1, 2] rfl
  refine vx_calli (vx_runV (As := [.int p0, .int p1, .int p2]) (rest := [.int 0, .ref o9]) ⟨hx, hb, hml, hown, hts⟩ (z_X11_row l hst D cT h0 p0 p1 p2 x_studio x_script x_teller x_planner x_plan x_drifts x_floor x_trial x_tape s_puppets s_shots s_sounds s_rates s_dresses _ ) (cwV 3 hts zgL_row_X11_row_82 rfl rfl rfl (by decide +kernel) ⟨Nat.le_of_ble_eq_true rfl, Nat.le_of_ble_eq_true rfl⟩) (pv_z hP hD hK hG hZ hS hF [0, 1, 2] rfl rfl rfl 0 rfl rfl) rfl rfl hl.1 rfl (lv_room (Nat.le_of_ble_eq_true rfl)) dL_row_7 ⟨Nat.le_of_ble_eq_true rfl, Nat.le_of_ble_eq_true rfl⟩) hS (fun q _ h => hF q h) hF (fun q _ h => hF q h) (fun E ce q9 uu9 tt9 H locs ht hvm hw hB hz1 hk1 hS hq9 hv9 hc9 => ?_) (fun r_1 uu9 tt9 H locs ht hvm wr_1 hB hz1 hk1 hS => wr_1.elim)
  obtain ⟨rfl, hpx⟩ := hB
  refine vx_widen (k := 1) (n := 6) (Nat.le_of_ble_eq_true rfl) (Nat.le_of_ble_eq_true rfl) ?_
  refine vx_catch (E := "java/util/NoSuchElementException") (name := "java/util/NoSuchElementException") hown [] ⟨0, 12, 15, 37⟩ [⟨0, 12, 19, 15⟩] htb (fun z hz => nomatch hz) (by decide) (by decide) (hts (.classLink RL 37 "java/util/NoSuchElementException") (List.mem_of_getElem? (i := 6) (by decide +kernel))) (gwB_any hG (Cond.castable "java/util/NoSuchElementException" "java/util/NoSuchElementException") (by decide +kernel)) hq9 hv9 hc9 ?_
  obtain ⟨hP, hD⟩ := va_join (wr := []) (w1 := []) hP hD [0, 1, 2] [] rfl rfl (by decide) (by decide) hk1 hF vp_nil vd_nil
  have hP : va_P D vwCl [] _ := hP
  have hD : va_D A [] := hD
  refine W.eq (g2 := F0 m 15 ls [.ref q9]) rfl ?_
  refine lv_astore (lv' := [(5, .ref q9), (0, .ref h0), (1, .int p0), (2, .int p1), (3, .int p2), (4, .ref o9)]) hx hb dL_row_15 hl (by decide) rfl (fun ls hl => ?_)
  refine lv_iconst (v := 1) hx hb dL_row_17 (by decide) ?_
  exact W.iret (v := 1) hx hb hr (fun t ht hW => ⟨⟨1, (), rfl, rfl, trivial⟩, hS.F ht⟩) hS.2.2 dL_row_18
theorem dL_bump_0 : decode cL_bump 0 = .ok (.aload 5, 2) := by decide +kernel
theorem dL_bump_17 : decode cL_bump 17 = .ok (.astore 6, 2) := by decide +kernel
theorem dL_bump_19 : decode cL_bump 19 = .ok (.iconst 1, 1) := by decide +kernel
theorem dL_bump_2 : decode cL_bump 2 = .ok (.iconst 0, 1) := by decide +kernel
theorem dL_bump_20 : decode cL_bump 20 = .ok (.ireturn, 1) := by decide +kernel
theorem dL_bump_3 : decode cL_bump 3 = .ok (.aload_n 0, 1) := by decide +kernel
theorem dL_bump_4 : decode cL_bump 4 = .ok (.iload_n 1, 1) := by decide +kernel
theorem dL_bump_5 : decode cL_bump 5 = .ok (.iload_n 2, 1) := by decide +kernel
theorem dL_bump_6 : decode cL_bump 6 = .ok (.iload_n 3, 1) := by decide +kernel
theorem dL_bump_7 : decode cL_bump 7 = .ok (.iload 4, 2) := by decide +kernel
theorem dL_bump_9 : decode cL_bump 9 = .ok (.invokevirtual 85, 3) := by decide +kernel
set_option maxRecDepth 100000 in
theorem zgL_bump_X11_bump_85_w : GoodIn zsL_bump zsX11_bump := goodIn_app (goodIn_sub (ws := [.code yX11_bump cX11_bump 12 (some .int)]) (fun _ h9 => List.mem_singleton.mp h9 ▸ List.mem_of_getElem? (i := 5) rfl) (by decide +kernel)) (goodIn_app (goodIn_app (goodIn_app (goodIn_sub (ws := [.methodLink RX11 166 yX11_needShot, .instanceMethod yX11_needShot, .selects RX11 yX11_needShot yX11_needShot, .initialized RX11, .code yX11_needShot cX11_needShot 3 (some (.object "PuppetFilm$Shot")), .classLink RX11 408 "java/util/NoSuchElementException", .initialized "java/util/NoSuchElementException", .fieldLink RX11 10 "PuppetFilm" "studio" "LPuppetFilm$Studio;", .methodLink RX11 271 yX8_shotAt, .instanceMethod yX8_shotAt, .selects RX8 yX8_shotAt yX8_shotAt, .initialized RX8, .code yX8_shotAt cX8_shotAt 2 (some (.object "PuppetFilm$Shot")), .fieldLink RX8 19 "PuppetFilm$Studio" "shots" "[LPuppetFilm$Shot;"]) (mem_ps [9, 10, 11, 4, 12, 13, 14, 15, 16, 17, 18, 19, 20, 21] (by decide +kernel)) (by decide +kernel)) (goodIn_sub (fun _ h => List.mem_cons_of_mem _ (List.mem_append_left _ (List.mem_append_left _ (List.mem_append_right _ h)))) (by decide +kernel))) (goodIn_sub (fun _ h => List.mem_cons_of_mem _ (List.mem_append_left _ (List.mem_append_right _ h))) (by decide +kernel))) (goodIn_sub (fun _ h => List.mem_cons_of_mem _ (List.mem_append_right _ h)) (by decide +kernel)))
set_option maxRecDepth 100000 in
theorem zgL_bump_X11_bump_85 : GoodIn zsL_bump (wsV RL 85 RX11 yX11_bump zsX11_bump) := goodIn_app (goodIn_sub (mem_ps [1, 2, 3, 4] (by decide +kernel)) (by decide +kernel)) zgL_bump_X11_bump_85_w
set_option maxHeartbeats 4000000 in
set_option maxRecDepth 100000 in
theorem c_L_bump (l : Launch) (hst : l.stackTraces = false) (D : va_G) (cT : Nat → ClassId) (h0 : Nat) (p0 : Int32) (p1 : Int32) (p2 : Int32) (p3 : Int32) (o9 : Nat) (x_studio : Nat) (x_script : Nat) (x_teller : Nat) (x_planner : Nat) (x_plan : Nat) (x_drifts : Nat) (x_floor : Nat) (x_trial : Nat) (x_tape : Nat) (s_puppets : Nat) (s_shots : Nat) (s_sounds : Nat) (s_rates : Nat) (s_dresses : Nat) (sz : Nat)  : Met l yL_bump zsL_bump ({ frames := 11, cells := 1, slots := 6, locals := 340 }) (va_Pc [.ref h0, .int p0, .int p1, .int p2, .int p3, .ref o9] (PZ D cT [(h0, .inr (11, [.ref x_studio, .ref x_script, .ref x_teller, .ref x_planner, .ref x_plan, .ref x_drifts, .ref x_floor, .ref x_trial, .ref x_tape, .int 0, .int (-1)])), (x_studio, .inr (8, [.ref s_puppets, .int 0, .ref s_shots, .int 0, .ref s_sounds, .ref s_rates, .ref s_dresses])), (s_shots, .inl (cT 5, 12, .inr (.inr (.inr (.inr (fun _ => none))))))] sz)) (va_Qi (fun (r : Int32) (_ : Unit) => r = 1) (fun (_ : Unit) (_ : State) => True) (va_A [(h0, .inr (11, [.ref x_studio, .ref x_script, .ref x_teller, .ref x_planner, .ref x_plan, .ref x_drifts, .ref x_floor, .ref x_trial, .ref x_tape, .int 0, .int (-1)])), (x_studio, .inr (8, [.ref s_puppets, .int 0, .ref s_shots, .int 0, .ref s_sounds, .ref s_rates, .ref s_dresses])), (s_shots, .inl (cT 5, 12, .inr (.inr (.inr (.inr (fun _ => none))))))] sz)) 1 6 (va_A [(h0, .inr (11, [.ref x_studio, .ref x_script, .ref x_teller, .ref x_planner, .ref x_plan, .ref x_drifts, .ref x_floor, .ref x_trial, .ref x_tape, .int 0, .int (-1)])), (x_studio, .inr (8, [.ref s_puppets, .int 0, .ref s_shots, .int 0, .ref s_sounds, .ref s_rates, .ref s_dresses])), (s_shots, .inl (cT 5, 12, .inr (.inr (.inr (.inr (fun _ => none))))))] sz) := by
  refine va_MetW (cc := cL_bump) (maxL := 7) (ret := (some .int)) (by decide) rfl ?_
  intro p e s m args below meth c s₁ B hml hv
  obtain ⟨rfl, ⟨hsz, hP, hK, hD0, hG⟩, hZ⟩ := hv
  have hx := B.exec
  have hb := B.bytes
  have hr := B.returns
  have hts := atoms_spec (ws := zsL_bump) B.pre
  have hown : s.vm.findClass RL = some m.cls := findClass_of_methodNamed B.named
  have hlocks := B.notSynchronized
  have htb := vx_table (x := yL_bump) B (hts _ List.mem_cons_self)
  subst hsz
  have hD := hD0.self (sz := s.heap.size)
  generalize hAe : va_A [(h0, .inr (11, [.ref x_studio, .ref x_script, .ref x_teller, .ref x_planner, .ref x_plan, .ref x_drifts, .ref x_floor, .ref x_trial, .ref x_tape, .int 0, .int (-1)])), (x_studio, .inr (8, [.ref s_puppets, .int 0, .ref s_shots, .int 0, .ref s_sounds, .ref s_rates, .ref s_dresses])), (s_shots, .inl (cT 5, 12, .inr (.inr (.inr (.inr (fun _ => none))))))] s.heap.size = A at hD hZ ⊢
  have hA : ∀ q : Nat, s.heap.size ≤ q → A q := fun q h => by rw [← hAe]; exact Or.inr h
  have hS : va_S A s.heap s.heap [] := va_S.rf
  have hP : va_P D vwCl [(h0, .inr (11, [.ref x_studio, .ref x_script, .ref x_teller, .ref x_planner, .ref x_plan, .ref x_drifts, .ref x_floor, .ref x_trial, .ref x_tape, .int 0, .int (-1)])), (x_studio, .inr (8, [.ref s_puppets, .int 0, .ref s_shots, .int 0, .ref s_sounds, .ref s_rates, .ref s_dresses])), (s_shots, .inl (cT 5, 12, .inr (.inr (.inr (.inr (fun _ => none))))))] s.heap := hP
  have hl := lv_entry ([.ref h0, .int p0, .int p1, .int p2, .int p3, .ref o9]) (n := 7) (Nat.le_of_ble_eq_true rfl)
  rw [lg_entry_eq]
  generalize (lg_sl ([.ref h0, .int p0, .int p1, .int p2, .int p3, .ref o9]) ++ List.replicate (7 - (lg_sl ([.ref h0, .int p0, .int p1, .int p2, .int p3, .ref o9])).length) Slot.unset).toArray = ls at hl ⊢
  have hl : lv_has ls 7 [(0, .ref h0), (1, .int p0), (2, .int p1), (3, .int p2), (4, .int p3), (5, .ref o9)] := hl
  refine lv_aload hx hb dL_bump_0 (lv_at hl 5 rfl) ?_
  refine lv_iconst (v := 0) hx hb dL_bump_2 (by decide) ?_
  refine lv_aload_n hx hb dL_bump_3 rfl (lv_at hl 0 rfl) ?_
  refine lv_iload_n hx hb dL_bump_4 rfl (lv_at hl 1 rfl) ?_
  refine lv_iload_n hx hb dL_bump_5 rfl (lv_at hl 2 rfl) ?_
  refine lv_iload_n hx hb dL_bump_6 rfl (lv_at hl 3 rfl) ?_
  refine lv_iload hx hb dL_bump_7 (lv_at hl 4 rfl) ?_
  have hF := va_free (wc := [(h0, .inr (11, [.ref x_studio, .ref x_script, .ref x_teller, .ref x_planner, .ref x_plan, .ref x_drifts, .ref x_floor, .ref x_trial, .ref x_tape, .int 0, .int (-1)])), (x_studio, .inr (8, [.ref s_puppets, .int 0, .ref s_shots, .int 0, .ref s_sounds, .ref s_rates, .ref s_dresses])), (s_shots, .inl (cT 5, 12, .inr (.inr (.inr (.inr (fun _ => none))))))]) hD hS hA [0, 1, 2] rfl
  refine vx_calli (vx_runV (As := [.int p0, .int p1, .int p2, .int p3]) (rest := [.int 0, .ref o9]) ⟨hx, hb, hml, hown, hts⟩ (z_X11_bump l hst D cT h0 p0 p1 p2 p3 x_studio x_script x_teller x_planner x_plan x_drifts x_floor x_trial x_tape s_puppets s_shots s_sounds s_rates s_dresses _ ) (cwV 4 hts zgL_bump_X11_bump_85 rfl rfl rfl (by decide +kernel) ⟨Nat.le_of_ble_eq_true rfl, Nat.le_of_ble_eq_true rfl⟩) (pv_z hP hD hK hG hZ hS hF [0, 1, 2] rfl rfl rfl 0 rfl rfl) rfl rfl hl.1 rfl (lv_room (Nat.le_of_ble_eq_true rfl)) dL_bump_9 ⟨Nat.le_of_ble_eq_true rfl, Nat.le_of_ble_eq_true rfl⟩) hS (fun q _ h => hF q h) hF (fun q _ h => hF q h) (fun E ce q9 uu9 tt9 H locs ht hvm hw hB hz1 hk1 hS hq9 hv9 hc9 => ?_) (fun r_1 uu9 tt9 H locs ht hvm wr_1 hB hz1 hk1 hS => wr_1.elim)
  obtain ⟨rfl, hpx⟩ := hB
  refine vx_widen (k := 1) (n := 6) (Nat.le_of_ble_eq_true rfl) (Nat.le_of_ble_eq_true rfl) ?_
  refine vx_catch (E := "java/util/NoSuchElementException") (name := "java/util/NoSuchElementException") hown [] ⟨0, 14, 17, 37⟩ [⟨0, 14, 21, 13⟩, ⟨0, 14, 25, 15⟩] htb (fun z hz => nomatch hz) (by decide) (by decide) (hts (.classLink RL 37 "java/util/NoSuchElementException") (List.mem_of_getElem? (i := 6) (by decide +kernel))) (gwB_any hG (Cond.castable "java/util/NoSuchElementException" "java/util/NoSuchElementException") (by decide +kernel)) hq9 hv9 hc9 ?_
  obtain ⟨hP, hD⟩ := va_join (wr := []) (w1 := []) hP hD [0, 1, 2] [] rfl rfl (by decide) (by decide) hk1 hF vp_nil vd_nil
  have hP : va_P D vwCl [] _ := hP
  have hD : va_D A [] := hD
  refine W.eq (g2 := F0 m 17 ls [.ref q9]) rfl ?_
  refine lv_astore (lv' := [(6, .ref q9), (0, .ref h0), (1, .int p0), (2, .int p1), (3, .int p2), (4, .int p3), (5, .ref o9)]) hx hb dL_bump_17 hl (by decide) rfl (fun ls hl => ?_)
  refine lv_iconst (v := 1) hx hb dL_bump_19 (by decide) ?_
  exact W.iret (v := 1) hx hb hr (fun t ht hW => ⟨⟨1, (), rfl, rfl, trivial⟩, hS.F ht⟩) hS.2.2 dL_bump_20
theorem dL_shoot_0 : decode cL_shoot 0 = .ok (.aload_n 3, 1) := by decide +kernel
theorem dL_shoot_1 : decode cL_shoot 1 = .ok (.iconst 0, 1) := by decide +kernel
theorem dL_shoot_13 : decode cL_shoot 13 = .ok (.astore 4, 2) := by decide +kernel
theorem dL_shoot_15 : decode cL_shoot 15 = .ok (.iconst 1, 1) := by decide +kernel
theorem dL_shoot_16 : decode cL_shoot 16 = .ok (.ireturn, 1) := by decide +kernel
theorem dL_shoot_2 : decode cL_shoot 2 = .ok (.aload_n 0, 1) := by decide +kernel
theorem dL_shoot_3 : decode cL_shoot 3 = .ok (.iload_n 1, 1) := by decide +kernel
theorem dL_shoot_4 : decode cL_shoot 4 = .ok (.iload_n 2, 1) := by decide +kernel
theorem dL_shoot_5 : decode cL_shoot 5 = .ok (.invokevirtual 91, 3) := by decide +kernel
set_option maxRecDepth 100000 in
theorem zgL_shoot_X11_shoot_91_w : GoodIn zsL_shoot zsX11_shoot := goodIn_app (goodIn_sub (ws := [.code yX11_shoot cX11_shoot 4 (some .int)]) (fun _ h9 => List.mem_singleton.mp h9 ▸ List.mem_of_getElem? (i := 5) rfl) (by decide +kernel)) (goodIn_app (goodIn_app (goodIn_app (goodIn_sub (ws := [.methodLink RX11 166 yX11_needShot, .instanceMethod yX11_needShot, .selects RX11 yX11_needShot yX11_needShot, .initialized RX11, .code yX11_needShot cX11_needShot 3 (some (.object "PuppetFilm$Shot")), .classLink RX11 408 "java/util/NoSuchElementException", .initialized "java/util/NoSuchElementException", .fieldLink RX11 10 "PuppetFilm" "studio" "LPuppetFilm$Studio;", .methodLink RX11 271 yX8_shotAt, .instanceMethod yX8_shotAt, .selects RX8 yX8_shotAt yX8_shotAt, .initialized RX8, .code yX8_shotAt cX8_shotAt 2 (some (.object "PuppetFilm$Shot")), .fieldLink RX8 19 "PuppetFilm$Studio" "shots" "[LPuppetFilm$Shot;"]) (mem_ps [8, 9, 10, 4, 11, 12, 13, 14, 15, 16, 17, 18, 19, 20] (by decide +kernel)) (by decide +kernel)) (goodIn_sub (fun _ h => List.mem_cons_of_mem _ (List.mem_append_left _ (List.mem_append_left _ (List.mem_append_right _ h)))) (by decide +kernel))) (goodIn_sub (fun _ h => List.mem_cons_of_mem _ (List.mem_append_left _ (List.mem_append_right _ h))) (by decide +kernel))) (goodIn_sub (fun _ h => List.mem_cons_of_mem _ (List.mem_append_right _ h)) (by decide +kernel)))
set_option maxRecDepth 100000 in
theorem zgL_shoot_X11_shoot_91 : GoodIn zsL_shoot (wsV RL 91 RX11 yX11_shoot zsX11_shoot) := goodIn_app (goodIn_sub (mem_ps [1, 2, 3, 4] (by decide +kernel)) (by decide +kernel)) zgL_shoot_X11_shoot_91_w
set_option maxHeartbeats 4000000 in
set_option maxRecDepth 100000 in
theorem c_L_shoot (l : Launch) (hst : l.stackTraces = false) (D : va_G) (cT : Nat → ClassId) (h0 : Nat) (p0 : Int32) (p1 : Int32) (o9 : Nat) (x_studio : Nat) (x_script : Nat) (x_teller : Nat) (x_planner : Nat) (x_plan : Nat) (x_drifts : Nat) (x_floor : Nat) (x_trial : Nat) (x_tape : Nat) (s_puppets : Nat) (s_shots : Nat) (s_sounds : Nat) (s_rates : Nat) (s_dresses : Nat) (sz : Nat)  : Met l yL_shoot zsL_shoot ({ frames := 11, cells := 1, slots := 6, locals := 340 }) (va_Pc [.ref h0, .int p0, .int p1, .ref o9] (PZ D cT [(h0, .inr (11, [.ref x_studio, .ref x_script, .ref x_teller, .ref x_planner, .ref x_plan, .ref x_drifts, .ref x_floor, .ref x_trial, .ref x_tape, .int 0, .int (-1)])), (x_studio, .inr (8, [.ref s_puppets, .int 0, .ref s_shots, .int 0, .ref s_sounds, .ref s_rates, .ref s_dresses])), (s_shots, .inl (cT 5, 12, .inr (.inr (.inr (.inr (fun _ => none))))))] sz)) (va_Qi (fun (r : Int32) (_ : Unit) => r = 1) (fun (_ : Unit) (_ : State) => True) (va_A [(h0, .inr (11, [.ref x_studio, .ref x_script, .ref x_teller, .ref x_planner, .ref x_plan, .ref x_drifts, .ref x_floor, .ref x_trial, .ref x_tape, .int 0, .int (-1)])), (x_studio, .inr (8, [.ref s_puppets, .int 0, .ref s_shots, .int 0, .ref s_sounds, .ref s_rates, .ref s_dresses])), (s_shots, .inl (cT 5, 12, .inr (.inr (.inr (.inr (fun _ => none))))))] sz)) 1 6 (va_A [(h0, .inr (11, [.ref x_studio, .ref x_script, .ref x_teller, .ref x_planner, .ref x_plan, .ref x_drifts, .ref x_floor, .ref x_trial, .ref x_tape, .int 0, .int (-1)])), (x_studio, .inr (8, [.ref s_puppets, .int 0, .ref s_shots, .int 0, .ref s_sounds, .ref s_rates, .ref s_dresses])), (s_shots, .inl (cT 5, 12, .inr (.inr (.inr (.inr (fun _ => none))))))] sz) := by
  refine va_MetW (cc := cL_shoot) (maxL := 5) (ret := (some .int)) (by decide) rfl ?_
  intro p e s m args below meth c s₁ B hml hv
  obtain ⟨rfl, ⟨hsz, hP, hK, hD0, hG⟩, hZ⟩ := hv
  have hx := B.exec
  have hb := B.bytes
  have hr := B.returns
  have hts := atoms_spec (ws := zsL_shoot) B.pre
  have hown : s.vm.findClass RL = some m.cls := findClass_of_methodNamed B.named
  have hlocks := B.notSynchronized
  have htb := vx_table (x := yL_shoot) B (hts _ List.mem_cons_self)
  subst hsz
  have hD := hD0.self (sz := s.heap.size)
  generalize hAe : va_A [(h0, .inr (11, [.ref x_studio, .ref x_script, .ref x_teller, .ref x_planner, .ref x_plan, .ref x_drifts, .ref x_floor, .ref x_trial, .ref x_tape, .int 0, .int (-1)])), (x_studio, .inr (8, [.ref s_puppets, .int 0, .ref s_shots, .int 0, .ref s_sounds, .ref s_rates, .ref s_dresses])), (s_shots, .inl (cT 5, 12, .inr (.inr (.inr (.inr (fun _ => none))))))] s.heap.size = A at hD hZ ⊢
  have hA : ∀ q : Nat, s.heap.size ≤ q → A q := fun q h => by rw [← hAe]; exact Or.inr h
  have hS : va_S A s.heap s.heap [] := va_S.rf
  have hP : va_P D vwCl [(h0, .inr (11, [.ref x_studio, .ref x_script, .ref x_teller, .ref x_planner, .ref x_plan, .ref x_drifts, .ref x_floor, .ref x_trial, .ref x_tape, .int 0, .int (-1)])), (x_studio, .inr (8, [.ref s_puppets, .int 0, .ref s_shots, .int 0, .ref s_sounds, .ref s_rates, .ref s_dresses])), (s_shots, .inl (cT 5, 12, .inr (.inr (.inr (.inr (fun _ => none))))))] s.heap := hP
  have hl := lv_entry ([.ref h0, .int p0, .int p1, .ref o9]) (n := 5) (Nat.le_of_ble_eq_true rfl)
  rw [lg_entry_eq]
  generalize (lg_sl ([.ref h0, .int p0, .int p1, .ref o9]) ++ List.replicate (5 - (lg_sl ([.ref h0, .int p0, .int p1, .ref o9])).length) Slot.unset).toArray = ls at hl ⊢
  have hl : lv_has ls 5 [(0, .ref h0), (1, .int p0), (2, .int p1), (3, .ref o9)] := hl
  refine lv_aload_n hx hb dL_shoot_0 rfl (lv_at hl 3 rfl) ?_
  refine lv_iconst (v := 0) hx hb dL_shoot_1 (by decide) ?_
  refine lv_aload_n hx hb dL_shoot_2 rfl (lv_at hl 0 rfl) ?_
  refine lv_iload_n hx hb dL_shoot_3 rfl (lv_at hl 1 rfl) ?_
  refine lv_iload_n hx hb dL_shoot_4 rfl (lv_at hl 2 rfl) ?_
  have hF := va_free (wc := [(h0, .inr (11, [.ref x_studio, .ref x_script, .ref x_teller, .ref x_planner, .ref x_plan, .ref x_drifts, .ref x_floor, .ref x_trial, .ref x_tape, .int 0, .int (-1)])), (x_studio, .inr (8, [.ref s_puppets, .int 0, .ref s_shots, .int 0, .ref s_sounds, .ref s_rates, .ref s_dresses])), (s_shots, .inl (cT 5, 12, .inr (.inr (.inr (.inr (fun _ => none))))))]) hD hS hA [0, 1, 2] rfl
  refine vx_calli (vx_runV (As := [.int p0, .int p1]) (rest := [.int 0, .ref o9]) ⟨hx, hb, hml, hown, hts⟩ (z_X11_shoot l hst D cT h0 p0 p1 x_studio x_script x_teller x_planner x_plan x_drifts x_floor x_trial x_tape s_puppets s_shots s_sounds s_rates s_dresses _ ) (cwV 2 hts zgL_shoot_X11_shoot_91 rfl rfl rfl (by decide +kernel) ⟨Nat.le_of_ble_eq_true rfl, Nat.le_of_ble_eq_true rfl⟩) (pv_z hP hD hK hG hZ hS hF [0, 1, 2] rfl rfl rfl 0 rfl rfl) rfl rfl hl.1 rfl (lv_room (Nat.le_of_ble_eq_true rfl)) dL_shoot_5 ⟨Nat.le_of_ble_eq_true rfl, Nat.le_of_ble_eq_true rfl⟩) hS (fun q _ h => hF q h) hF (fun q _ h => hF q h) (fun E ce q9 uu9 tt9 H locs ht hvm hw hB hz1 hk1 hS hq9 hv9 hc9 => ?_) (fun r_1 uu9 tt9 H locs ht hvm wr_1 hB hz1 hk1 hS => wr_1.elim)
  obtain ⟨rfl, hpx⟩ := hB
  refine vx_widen (k := 1) (n := 6) (Nat.le_of_ble_eq_true rfl) (Nat.le_of_ble_eq_true rfl) ?_
  refine vx_catch (E := "java/util/NoSuchElementException") (name := "java/util/NoSuchElementException") hown [] ⟨0, 10, 13, 37⟩ [⟨0, 10, 17, 15⟩] htb (fun z hz => nomatch hz) (by decide) (by decide) (hts (.classLink RL 37 "java/util/NoSuchElementException") (List.mem_of_getElem? (i := 6) (by decide +kernel))) (gwB_any hG (Cond.castable "java/util/NoSuchElementException" "java/util/NoSuchElementException") (by decide +kernel)) hq9 hv9 hc9 ?_
  obtain ⟨hP, hD⟩ := va_join (wr := []) (w1 := []) hP hD [0, 1, 2] [] rfl rfl (by decide) (by decide) hk1 hF vp_nil vd_nil
  have hP : va_P D vwCl [] _ := hP
  have hD : va_D A [] := hD
  refine W.eq (g2 := F0 m 13 ls [.ref q9]) rfl ?_
  refine lv_astore (lv' := [(4, .ref q9), (0, .ref h0), (1, .int p0), (2, .int p1), (3, .ref o9)]) hx hb dL_shoot_13 hl (by decide) rfl (fun ls hl => ?_)
  refine lv_iconst (v := 1) hx hb dL_shoot_15 (by decide) ?_
  exact W.iret (v := 1) hx hb hr (fun t ht hW => ⟨⟨1, (), rfl, rfl, trivial⟩, hS.F ht⟩) hS.2.2 dL_shoot_16
theorem dL_when_0 : decode cL_when 0 = .ok (.aload_n 3, 1) := by decide +kernel
theorem dL_when_1 : decode cL_when 1 = .ok (.iconst 0, 1) := by decide +kernel
theorem dL_when_13 : decode cL_when 13 = .ok (.astore 4, 2) := by decide +kernel
theorem dL_when_15 : decode cL_when 15 = .ok (.iconst 1, 1) := by decide +kernel
theorem dL_when_16 : decode cL_when 16 = .ok (.ireturn, 1) := by decide +kernel
theorem dL_when_2 : decode cL_when 2 = .ok (.aload_n 0, 1) := by decide +kernel
theorem dL_when_3 : decode cL_when 3 = .ok (.iload_n 1, 1) := by decide +kernel
theorem dL_when_4 : decode cL_when 4 = .ok (.iload_n 2, 1) := by decide +kernel
theorem dL_when_5 : decode cL_when 5 = .ok (.invokevirtual 94, 3) := by decide +kernel
set_option maxRecDepth 100000 in
theorem zgL_when_X11_when_94_w : GoodIn zsL_when zsX11_when := goodIn_app (goodIn_sub (ws := [.code yX11_when cX11_when 4 (some .int)]) (fun _ h9 => List.mem_singleton.mp h9 ▸ List.mem_of_getElem? (i := 5) rfl) (by decide +kernel)) (goodIn_app (goodIn_app (goodIn_app (goodIn_sub (ws := [.methodLink RX11 166 yX11_needShot, .instanceMethod yX11_needShot, .selects RX11 yX11_needShot yX11_needShot, .initialized RX11, .code yX11_needShot cX11_needShot 3 (some (.object "PuppetFilm$Shot")), .classLink RX11 408 "java/util/NoSuchElementException", .initialized "java/util/NoSuchElementException", .fieldLink RX11 10 "PuppetFilm" "studio" "LPuppetFilm$Studio;", .methodLink RX11 271 yX8_shotAt, .instanceMethod yX8_shotAt, .selects RX8 yX8_shotAt yX8_shotAt, .initialized RX8, .code yX8_shotAt cX8_shotAt 2 (some (.object "PuppetFilm$Shot")), .fieldLink RX8 19 "PuppetFilm$Studio" "shots" "[LPuppetFilm$Shot;"]) (mem_ps [8, 9, 10, 4, 11, 12, 13, 14, 15, 16, 17, 18, 19, 20] (by decide +kernel)) (by decide +kernel)) (goodIn_sub (fun _ h => List.mem_cons_of_mem _ (List.mem_append_left _ (List.mem_append_left _ (List.mem_append_right _ h)))) (by decide +kernel))) (goodIn_sub (fun _ h => List.mem_cons_of_mem _ (List.mem_append_left _ (List.mem_append_right _ h))) (by decide +kernel))) (goodIn_sub (fun _ h => List.mem_cons_of_mem _ (List.mem_append_right _ h)) (by decide +kernel)))
set_option maxRecDepth 100000 in
theorem zgL_when_X11_when_94 : GoodIn zsL_when (wsV RL 94 RX11 yX11_when zsX11_when) := goodIn_app (goodIn_sub (mem_ps [1, 2, 3, 4] (by decide +kernel)) (by decide +kernel)) zgL_when_X11_when_94_w
set_option maxHeartbeats 4000000 in
set_option maxRecDepth 100000 in
theorem c_L_when (l : Launch) (hst : l.stackTraces = false) (D : va_G) (cT : Nat → ClassId) (h0 : Nat) (p0 : Int32) (p1 : Int32) (o9 : Nat) (x_studio : Nat) (x_script : Nat) (x_teller : Nat) (x_planner : Nat) (x_plan : Nat) (x_drifts : Nat) (x_floor : Nat) (x_trial : Nat) (x_tape : Nat) (s_puppets : Nat) (s_shots : Nat) (s_sounds : Nat) (s_rates : Nat) (s_dresses : Nat) (sz : Nat)  : Met l yL_when zsL_when ({ frames := 11, cells := 1, slots := 6, locals := 340 }) (va_Pc [.ref h0, .int p0, .int p1, .ref o9] (PZ D cT [(h0, .inr (11, [.ref x_studio, .ref x_script, .ref x_teller, .ref x_planner, .ref x_plan, .ref x_drifts, .ref x_floor, .ref x_trial, .ref x_tape, .int 0, .int (-1)])), (x_studio, .inr (8, [.ref s_puppets, .int 0, .ref s_shots, .int 0, .ref s_sounds, .ref s_rates, .ref s_dresses])), (s_shots, .inl (cT 5, 12, .inr (.inr (.inr (.inr (fun _ => none))))))] sz)) (va_Qi (fun (r : Int32) (_ : Unit) => r = 1) (fun (_ : Unit) (_ : State) => True) (va_A [(h0, .inr (11, [.ref x_studio, .ref x_script, .ref x_teller, .ref x_planner, .ref x_plan, .ref x_drifts, .ref x_floor, .ref x_trial, .ref x_tape, .int 0, .int (-1)])), (x_studio, .inr (8, [.ref s_puppets, .int 0, .ref s_shots, .int 0, .ref s_sounds, .ref s_rates, .ref s_dresses])), (s_shots, .inl (cT 5, 12, .inr (.inr (.inr (.inr (fun _ => none))))))] sz)) 1 6 (va_A [(h0, .inr (11, [.ref x_studio, .ref x_script, .ref x_teller, .ref x_planner, .ref x_plan, .ref x_drifts, .ref x_floor, .ref x_trial, .ref x_tape, .int 0, .int (-1)])), (x_studio, .inr (8, [.ref s_puppets, .int 0, .ref s_shots, .int 0, .ref s_sounds, .ref s_rates, .ref s_dresses])), (s_shots, .inl (cT 5, 12, .inr (.inr (.inr (.inr (fun _ => none))))))] sz) := by
  refine va_MetW (cc := cL_when) (maxL := 5) (ret := (some .int)) (by decide) rfl ?_
  intro p e s m args below meth c s₁ B hml hv
  obtain ⟨rfl, ⟨hsz, hP, hK, hD0, hG⟩, hZ⟩ := hv
  have hx := B.exec
  have hb := B.bytes
  have hr := B.returns
  have hts := atoms_spec (ws := zsL_when) B.pre
  have hown : s.vm.findClass RL = some m.cls := findClass_of_methodNamed B.named
  have hlocks := B.notSynchronized
  have htb := vx_table (x := yL_when) B (hts _ List.mem_cons_self)
  subst hsz
  have hD := hD0.self (sz := s.heap.size)
  generalize hAe : va_A [(h0, .inr (11, [.ref x_studio, .ref x_script, .ref x_teller, .ref x_planner, .ref x_plan, .ref x_drifts, .ref x_floor, .ref x_trial, .ref x_tape, .int 0, .int (-1)])), (x_studio, .inr (8, [.ref s_puppets, .int 0, .ref s_shots, .int 0, .ref s_sounds, .ref s_rates, .ref s_dresses])), (s_shots, .inl (cT 5, 12, .inr (.inr (.inr (.inr (fun _ => none))))))] s.heap.size = A at hD hZ ⊢
  have hA : ∀ q : Nat, s.heap.size ≤ q → A q := fun q h => by rw [← hAe]; exact Or.inr h
  have hS : va_S A s.heap s.heap [] := va_S.rf
  have hP : va_P D vwCl [(h0, .inr (11, [.ref x_studio, .ref x_script, .ref x_teller, .ref x_planner, .ref x_plan, .ref x_drifts, .ref x_floor, .ref x_trial, .ref x_tape, .int 0, .int (-1)])), (x_studio, .inr (8, [.ref s_puppets, .int 0, .ref s_shots, .int 0, .ref s_sounds, .ref s_rates, .ref s_dresses])), (s_shots, .inl (cT 5, 12, .inr (.inr (.inr (.inr (fun _ => none))))))] s.heap := hP
  have hl := lv_entry ([.ref h0, .int p0, .int p1, .ref o9]) (n := 5) (Nat.le_of_ble_eq_true rfl)
  rw [lg_entry_eq]
  generalize (lg_sl ([.ref h0, .int p0, .int p1, .ref o9]) ++ List.replicate (5 - (lg_sl ([.ref h0, .int p0, .int p1, .ref o9])).length) Slot.unset).toArray = ls at hl ⊢
  have hl : lv_has ls 5 [(0, .ref h0), (1, .int p0), (2, .int p1), (3, .ref o9)] := hl
  refine lv_aload_n hx hb dL_when_0 rfl (lv_at hl 3 rfl) ?_
  refine lv_iconst (v := 0) hx hb dL_when_1 (by decide) ?_
  refine lv_aload_n hx hb dL_when_2 rfl (lv_at hl 0 rfl) ?_
  refine lv_iload_n hx hb dL_when_3 rfl (lv_at hl 1 rfl) ?_
  refine lv_iload_n hx hb dL_when_4 rfl (lv_at hl 2 rfl) ?_
  have hF := va_free (wc := [(h0, .inr (11, [.ref x_studio, .ref x_script, .ref x_teller, .ref x_planner, .ref x_plan, .ref x_drifts, .ref x_floor, .ref x_trial, .ref x_tape, .int 0, .int (-1)])), (x_studio, .inr (8, [.ref s_puppets, .int 0, .ref s_shots, .int 0, .ref s_sounds, .ref s_rates, .ref s_dresses])), (s_shots, .inl (cT 5, 12, .inr (.inr (.inr (.inr (fun _ => none))))))]) hD hS hA [0, 1, 2] rfl
  refine vx_calli (vx_runV (As := [.int p0, .int p1]) (rest := [.int 0, .ref o9]) ⟨hx, hb, hml, hown, hts⟩ (z_X11_when l hst D cT h0 p0 p1 x_studio x_script x_teller x_planner x_plan x_drifts x_floor x_trial x_tape s_puppets s_shots s_sounds s_rates s_dresses _ ) (cwV 2 hts zgL_when_X11_when_94 rfl rfl rfl (by decide +kernel) ⟨Nat.le_of_ble_eq_true rfl, Nat.le_of_ble_eq_true rfl⟩) (pv_z hP hD hK hG hZ hS hF [0, 1, 2] rfl rfl rfl 0 rfl rfl) rfl rfl hl.1 rfl (lv_room (Nat.le_of_ble_eq_true rfl)) dL_when_5 ⟨Nat.le_of_ble_eq_true rfl, Nat.le_of_ble_eq_true rfl⟩) hS (fun q _ h => hF q h) hF (fun q _ h => hF q h) (fun E ce q9 uu9 tt9 H locs ht hvm hw hB hz1 hk1 hS hq9 hv9 hc9 => ?_) (fun r_1 uu9 tt9 H locs ht hvm wr_1 hB hz1 hk1 hS => wr_1.elim)
  obtain ⟨rfl, hpx⟩ := hB
  refine vx_widen (k := 1) (n := 6) (Nat.le_of_ble_eq_true rfl) (Nat.le_of_ble_eq_true rfl) ?_
  refine vx_catch (E := "java/util/NoSuchElementException") (name := "java/util/NoSuchElementException") hown [] ⟨0, 10, 13, 37⟩ [⟨0, 10, 17, 13⟩] htb (fun z hz => nomatch hz) (by decide) (by decide) (hts (.classLink RL 37 "java/util/NoSuchElementException") (List.mem_of_getElem? (i := 6) (by decide +kernel))) (gwB_any hG (Cond.castable "java/util/NoSuchElementException" "java/util/NoSuchElementException") (by decide +kernel)) hq9 hv9 hc9 ?_
  obtain ⟨hP, hD⟩ := va_join (wr := []) (w1 := []) hP hD [0, 1, 2] [] rfl rfl (by decide) (by decide) hk1 hF vp_nil vd_nil
  have hP : va_P D vwCl [] _ := hP
  have hD : va_D A [] := hD
  refine W.eq (g2 := F0 m 13 ls [.ref q9]) rfl ?_
  refine lv_astore (lv' := [(4, .ref q9), (0, .ref h0), (1, .int p0), (2, .int p1), (3, .ref o9)]) hx hb dL_when_13 hl (by decide) rfl (fun ls hl => ?_)
  refine lv_iconst (v := 1) hx hb dL_when_15 (by decide) ?_
  exact W.iret (v := 1) hx hb hr (fun t ht hW => ⟨⟨1, (), rfl, rfl, trivial⟩, hS.F ht⟩) hS.2.2 dL_when_16
theorem dL_measure_0 : decode cL_measure 0 = .ok (.aload 4, 2) := by decide +kernel
theorem dL_measure_15 : decode cL_measure 15 = .ok (.astore 5, 2) := by decide +kernel
theorem dL_measure_17 : decode cL_measure 17 = .ok (.iconst 1, 1) := by decide +kernel
theorem dL_measure_18 : decode cL_measure 18 = .ok (.ireturn, 1) := by decide +kernel
theorem dL_measure_2 : decode cL_measure 2 = .ok (.iconst 0, 1) := by decide +kernel
theorem dL_measure_3 : decode cL_measure 3 = .ok (.aload_n 0, 1) := by decide +kernel
theorem dL_measure_4 : decode cL_measure 4 = .ok (.iload_n 1, 1) := by decide +kernel
theorem dL_measure_5 : decode cL_measure 5 = .ok (.iload_n 2, 1) := by decide +kernel
theorem dL_measure_6 : decode cL_measure 6 = .ok (.iload_n 3, 1) := by decide +kernel
theorem dL_measure_7 : decode cL_measure 7 = .ok (.invokevirtual 97, 3) := by decide +kernel
set_option maxRecDepth 100000 in
theorem zgL_measure_X11_measure_97_w : GoodIn zsL_measure zsX11_measure := goodIn_app (goodIn_sub (ws := [.code yX11_measure cX11_measure 5 (some .int)]) (fun _ h9 => List.mem_singleton.mp h9 ▸ List.mem_of_getElem? (i := 5) rfl) (by decide +kernel)) (goodIn_app (goodIn_app (goodIn_app (goodIn_sub (ws := [.methodLink RX11 166 yX11_needShot, .instanceMethod yX11_needShot, .selects RX11 yX11_needShot yX11_needShot, .initialized RX11, .code yX11_needShot cX11_needShot 3 (some (.object "PuppetFilm$Shot")), .classLink RX11 408 "java/util/NoSuchElementException", .initialized "java/util/NoSuchElementException", .fieldLink RX11 10 "PuppetFilm" "studio" "LPuppetFilm$Studio;", .methodLink RX11 271 yX8_shotAt, .instanceMethod yX8_shotAt, .selects RX8 yX8_shotAt yX8_shotAt, .initialized RX8, .code yX8_shotAt cX8_shotAt 2 (some (.object "PuppetFilm$Shot")), .fieldLink RX8 19 "PuppetFilm$Studio" "shots" "[LPuppetFilm$Shot;"]) (mem_ps [9, 10, 11, 4, 12, 13, 14, 15, 16, 17, 18, 19, 20, 21] (by decide +kernel)) (by decide +kernel)) (goodIn_sub (fun _ h => List.mem_cons_of_mem _ (List.mem_append_left _ (List.mem_append_left _ (List.mem_append_right _ h)))) (by decide +kernel))) (goodIn_sub (fun _ h => List.mem_cons_of_mem _ (List.mem_append_left _ (List.mem_append_right _ h))) (by decide +kernel))) (goodIn_sub (fun _ h => List.mem_cons_of_mem _ (List.mem_append_right _ h)) (by decide +kernel)))
set_option maxRecDepth 100000 in
theorem zgL_measure_X11_measure_97 : GoodIn zsL_measure (wsV RL 97 RX11 yX11_measure zsX11_measure) := goodIn_app (goodIn_sub (mem_ps [1, 2, 3, 4] (by decide +kernel)) (by decide +kernel)) zgL_measure_X11_measure_97_w
set_option maxHeartbeats 4000000 in
set_option maxRecDepth 100000 in
theorem c_L_measure (l : Launch) (hst : l.stackTraces = false) (D : va_G) (cT : Nat → ClassId) (h0 : Nat) (p0 : Int32) (p1 : Int32) (p2 : Int32) (o9 : Nat) (x_studio : Nat) (x_script : Nat) (x_teller : Nat) (x_planner : Nat) (x_plan : Nat) (x_drifts : Nat) (x_floor : Nat) (x_trial : Nat) (x_tape : Nat) (s_puppets : Nat) (s_shots : Nat) (s_sounds : Nat) (s_rates : Nat) (s_dresses : Nat) (sz : Nat)  : Met l yL_measure zsL_measure ({ frames := 11, cells := 1, slots := 6, locals := 340 }) (va_Pc [.ref h0, .int p0, .int p1, .int p2, .ref o9] (PZ D cT [(h0, .inr (11, [.ref x_studio, .ref x_script, .ref x_teller, .ref x_planner, .ref x_plan, .ref x_drifts, .ref x_floor, .ref x_trial, .ref x_tape, .int 0, .int (-1)])), (x_studio, .inr (8, [.ref s_puppets, .int 0, .ref s_shots, .int 0, .ref s_sounds, .ref s_rates, .ref s_dresses])), (s_shots, .inl (cT 5, 12, .inr (.inr (.inr (.inr (fun _ => none))))))] sz)) (va_Qi (fun (r : Int32) (_ : Unit) => r = 1) (fun (_ : Unit) (_ : State) => True) (va_A [(h0, .inr (11, [.ref x_studio, .ref x_script, .ref x_teller, .ref x_planner, .ref x_plan, .ref x_drifts, .ref x_floor, .ref x_trial, .ref x_tape, .int 0, .int (-1)])), (x_studio, .inr (8, [.ref s_puppets, .int 0, .ref s_shots, .int 0, .ref s_sounds, .ref s_rates, .ref s_dresses])), (s_shots, .inl (cT 5, 12, .inr (.inr (.inr (.inr (fun _ => none))))))] sz)) 1 6 (va_A [(h0, .inr (11, [.ref x_studio, .ref x_script, .ref x_teller, .ref x_planner, .ref x_plan, .ref x_drifts, .ref x_floor, .ref x_trial, .ref x_tape, .int 0, .int (-1)])), (x_studio, .inr (8, [.ref s_puppets, .int 0, .ref s_shots, .int 0, .ref s_sounds, .ref s_rates, .ref s_dresses])), (s_shots, .inl (cT 5, 12, .inr (.inr (.inr (.inr (fun _ => none))))))] sz) := by
  refine va_MetW (cc := cL_measure) (maxL := 6) (ret := (some .int)) (by decide) rfl ?_
  intro p e s m args below meth c s₁ B hml hv
  obtain ⟨rfl, ⟨hsz, hP, hK, hD0, hG⟩, hZ⟩ := hv
  have hx := B.exec
  have hb := B.bytes
  have hr := B.returns
  have hts := atoms_spec (ws := zsL_measure) B.pre
  have hown : s.vm.findClass RL = some m.cls := findClass_of_methodNamed B.named
  have hlocks := B.notSynchronized
  have htb := vx_table (x := yL_measure) B (hts _ List.mem_cons_self)
  subst hsz
  have hD := hD0.self (sz := s.heap.size)
  generalize hAe : va_A [(h0, .inr (11, [.ref x_studio, .ref x_script, .ref x_teller, .ref x_planner, .ref x_plan, .ref x_drifts, .ref x_floor, .ref x_trial, .ref x_tape, .int 0, .int (-1)])), (x_studio, .inr (8, [.ref s_puppets, .int 0, .ref s_shots, .int 0, .ref s_sounds, .ref s_rates, .ref s_dresses])), (s_shots, .inl (cT 5, 12, .inr (.inr (.inr (.inr (fun _ => none))))))] s.heap.size = A at hD hZ ⊢
  have hA : ∀ q : Nat, s.heap.size ≤ q → A q := fun q h => by rw [← hAe]; exact Or.inr h
  have hS : va_S A s.heap s.heap [] := va_S.rf
  have hP : va_P D vwCl [(h0, .inr (11, [.ref x_studio, .ref x_script, .ref x_teller, .ref x_planner, .ref x_plan, .ref x_drifts, .ref x_floor, .ref x_trial, .ref x_tape, .int 0, .int (-1)])), (x_studio, .inr (8, [.ref s_puppets, .int 0, .ref s_shots, .int 0, .ref s_sounds, .ref s_rates, .ref s_dresses])), (s_shots, .inl (cT 5, 12, .inr (.inr (.inr (.inr (fun _ => none))))))] s.heap := hP
  have hl := lv_entry ([.ref h0, .int p0, .int p1, .int p2, .ref o9]) (n := 6) (Nat.le_of_ble_eq_true rfl)
  rw [lg_entry_eq]
  generalize (lg_sl ([.ref h0, .int p0, .int p1, .int p2, .ref o9]) ++ List.replicate (6 - (lg_sl ([.ref h0, .int p0, .int p1, .int p2, .ref o9])).length) Slot.unset).toArray = ls at hl ⊢
  have hl : lv_has ls 6 [(0, .ref h0), (1, .int p0), (2, .int p1), (3, .int p2), (4, .ref o9)] := hl
  refine lv_aload hx hb dL_measure_0 (lv_at hl 4 rfl) ?_
  refine lv_iconst (v := 0) hx hb dL_measure_2 (by decide) ?_
  refine lv_aload_n hx hb dL_measure_3 rfl (lv_at hl 0 rfl) ?_
  refine lv_iload_n hx hb dL_measure_4 rfl (lv_at hl 1 rfl) ?_
  refine lv_iload_n hx hb dL_measure_5 rfl (lv_at hl 2 rfl) ?_
  refine lv_iload_n hx hb dL_measure_6 rfl (lv_at hl 3 rfl) ?_
  have hF := va_free (wc := [(h0, .inr (11, [.ref x_studio, .ref x_script, .ref x_teller, .ref x_planner, .ref x_plan, .ref x_drifts, .ref x_floor, .ref x_trial, .ref x_tape, .int 0, .int (-1)])), (x_studio, .inr (8, [.ref s_puppets, .int 0, .ref s_shots, .int 0, .ref s_sounds, .ref s_rates, .ref s_dresses])), (s_shots, .inl (cT 5, 12, .inr (.inr (.inr (.inr (fun _ => none))))))]) hD hS hA [0, 1, 2] rfl
  refine vx_calli (vx_runV (As := [.int p0, .int p1, .int p2]) (rest := [.int 0, .ref o9]) ⟨hx, hb, hml, hown, hts⟩ (z_X11_measure l hst D cT h0 p0 p1 p2 x_studio x_script x_teller x_planner x_plan x_drifts x_floor x_trial x_tape s_puppets s_shots s_sounds s_rates s_dresses _ ) (cwV 3 hts zgL_measure_X11_measure_97 rfl rfl rfl (by decide +kernel) ⟨Nat.le_of_ble_eq_true rfl, Nat.le_of_ble_eq_true rfl⟩) (pv_z hP hD hK hG hZ hS hF [0, 1, 2] rfl rfl rfl 0 rfl rfl) rfl rfl hl.1 rfl (lv_room (Nat.le_of_ble_eq_true rfl)) dL_measure_7 ⟨Nat.le_of_ble_eq_true rfl, Nat.le_of_ble_eq_true rfl⟩) hS (fun q _ h => hF q h) hF (fun q _ h => hF q h) (fun E ce q9 uu9 tt9 H locs ht hvm hw hB hz1 hk1 hS hq9 hv9 hc9 => ?_) (fun r_1 uu9 tt9 H locs ht hvm wr_1 hB hz1 hk1 hS => wr_1.elim)
  obtain ⟨rfl, hpx⟩ := hB
  refine vx_widen (k := 1) (n := 6) (Nat.le_of_ble_eq_true rfl) (Nat.le_of_ble_eq_true rfl) ?_
  refine vx_catch (E := "java/util/NoSuchElementException") (name := "java/util/NoSuchElementException") hown [] ⟨0, 12, 15, 37⟩ [⟨0, 12, 19, 13⟩, ⟨0, 12, 23, 15⟩] htb (fun z hz => nomatch hz) (by decide) (by decide) (hts (.classLink RL 37 "java/util/NoSuchElementException") (List.mem_of_getElem? (i := 6) (by decide +kernel))) (gwB_any hG (Cond.castable "java/util/NoSuchElementException" "java/util/NoSuchElementException") (by decide +kernel)) hq9 hv9 hc9 ?_
  obtain ⟨hP, hD⟩ := va_join (wr := []) (w1 := []) hP hD [0, 1, 2] [] rfl rfl (by decide) (by decide) hk1 hF vp_nil vd_nil
  have hP : va_P D vwCl [] _ := hP
  have hD : va_D A [] := hD
  refine W.eq (g2 := F0 m 15 ls [.ref q9]) rfl ?_
  refine lv_astore (lv' := [(5, .ref q9), (0, .ref h0), (1, .int p0), (2, .int p1), (3, .int p2), (4, .ref o9)]) hx hb dL_measure_15 hl (by decide) rfl (fun ls hl => ?_)
  refine lv_iconst (v := 1) hx hb dL_measure_17 (by decide) ?_
  exact W.iret (v := 1) hx hb hr (fun t ht hW => ⟨⟨1, (), rfl, rfl, trivial⟩, hS.F ht⟩) hS.2.2 dL_measure_18
theorem dL_mended_0 : decode cL_mended 0 = .ok (.aload 4, 2) := by decide +kernel
theorem dL_mended_15 : decode cL_mended 15 = .ok (.astore 5, 2) := by decide +kernel
theorem dL_mended_17 : decode cL_mended 17 = .ok (.iconst 1, 1) := by decide +kernel
theorem dL_mended_18 : decode cL_mended 18 = .ok (.ireturn, 1) := by decide +kernel
theorem dL_mended_2 : decode cL_mended 2 = .ok (.iconst 0, 1) := by decide +kernel
theorem dL_mended_3 : decode cL_mended 3 = .ok (.aload_n 0, 1) := by decide +kernel
theorem dL_mended_4 : decode cL_mended 4 = .ok (.iload_n 1, 1) := by decide +kernel
theorem dL_mended_5 : decode cL_mended 5 = .ok (.iload_n 2, 1) := by decide +kernel
theorem dL_mended_6 : decode cL_mended 6 = .ok (.iload_n 3, 1) := by decide +kernel
theorem dL_mended_7 : decode cL_mended 7 = .ok (.invokevirtual 100, 3) := by decide +kernel
set_option maxRecDepth 100000 in
theorem zgL_mended_X11_mended_100_w : GoodIn zsL_mended zsX11_mended := goodIn_app (goodIn_sub (ws := [.code yX11_mended cX11_mended 5 (some .int)]) (fun _ h9 => List.mem_singleton.mp h9 ▸ List.mem_of_getElem? (i := 5) rfl) (by decide +kernel)) (goodIn_app (goodIn_app (goodIn_app (goodIn_sub (ws := [.methodLink RX11 166 yX11_needShot, .instanceMethod yX11_needShot, .selects RX11 yX11_needShot yX11_needShot, .initialized RX11, .code yX11_needShot cX11_needShot 3 (some (.object "PuppetFilm$Shot")), .classLink RX11 408 "java/util/NoSuchElementException", .initialized "java/util/NoSuchElementException", .fieldLink RX11 10 "PuppetFilm" "studio" "LPuppetFilm$Studio;", .methodLink RX11 271 yX8_shotAt, .instanceMethod yX8_shotAt, .selects RX8 yX8_shotAt yX8_shotAt, .initialized RX8, .code yX8_shotAt cX8_shotAt 2 (some (.object "PuppetFilm$Shot")), .fieldLink RX8 19 "PuppetFilm$Studio" "shots" "[LPuppetFilm$Shot;"]) (mem_ps [8, 9, 10, 4, 11, 12, 13, 14, 15, 16, 17, 18, 19, 20] (by decide +kernel)) (by decide +kernel)) (goodIn_sub (fun _ h => List.mem_cons_of_mem _ (List.mem_append_left _ (List.mem_append_left _ (List.mem_append_right _ h)))) (by decide +kernel))) (goodIn_sub (fun _ h => List.mem_cons_of_mem _ (List.mem_append_left _ (List.mem_append_right _ h))) (by decide +kernel))) (goodIn_sub (fun _ h => List.mem_cons_of_mem _ (List.mem_append_right _ h)) (by decide +kernel)))
set_option maxRecDepth 100000 in
theorem zgL_mended_X11_mended_100 : GoodIn zsL_mended (wsV RL 100 RX11 yX11_mended zsX11_mended) := goodIn_app (goodIn_sub (mem_ps [1, 2, 3, 4] (by decide +kernel)) (by decide +kernel)) zgL_mended_X11_mended_100_w
set_option maxHeartbeats 4000000 in
set_option maxRecDepth 100000 in
theorem c_L_mended (l : Launch) (hst : l.stackTraces = false) (D : va_G) (cT : Nat → ClassId) (h0 : Nat) (p0 : Int32) (p1 : Int32) (p2 : Int32) (o9 : Nat) (x_studio : Nat) (x_script : Nat) (x_teller : Nat) (x_planner : Nat) (x_plan : Nat) (x_drifts : Nat) (x_floor : Nat) (x_trial : Nat) (x_tape : Nat) (s_puppets : Nat) (s_shots : Nat) (s_sounds : Nat) (s_rates : Nat) (s_dresses : Nat) (sz : Nat)  : Met l yL_mended zsL_mended ({ frames := 11, cells := 1, slots := 6, locals := 340 }) (va_Pc [.ref h0, .int p0, .int p1, .int p2, .ref o9] (PZ D cT [(h0, .inr (11, [.ref x_studio, .ref x_script, .ref x_teller, .ref x_planner, .ref x_plan, .ref x_drifts, .ref x_floor, .ref x_trial, .ref x_tape, .int 0, .int (-1)])), (x_studio, .inr (8, [.ref s_puppets, .int 0, .ref s_shots, .int 0, .ref s_sounds, .ref s_rates, .ref s_dresses])), (s_shots, .inl (cT 5, 12, .inr (.inr (.inr (.inr (fun _ => none))))))] sz)) (va_Qi (fun (r : Int32) (_ : Unit) => r = 1) (fun (_ : Unit) (_ : State) => True) (va_A [(h0, .inr (11, [.ref x_studio, .ref x_script, .ref x_teller, .ref x_planner, .ref x_plan, .ref x_drifts, .ref x_floor, .ref x_trial, .ref x_tape, .int 0, .int (-1)])), (x_studio, .inr (8, [.ref s_puppets, .int 0, .ref s_shots, .int 0, .ref s_sounds, .ref s_rates, .ref s_dresses])), (s_shots, .inl (cT 5, 12, .inr (.inr (.inr (.inr (fun _ => none))))))] sz)) 1 6 (va_A [(h0, .inr (11, [.ref x_studio, .ref x_script, .ref x_teller, .ref x_planner, .ref x_plan, .ref x_drifts, .ref x_floor, .ref x_trial, .ref x_tape, .int 0, .int (-1)])), (x_studio, .inr (8, [.ref s_puppets, .int 0, .ref s_shots, .int 0, .ref s_sounds, .ref s_rates, .ref s_dresses])), (s_shots, .inl (cT 5, 12, .inr (.inr (.inr (.inr (fun _ => none))))))] sz) := by
  refine va_MetW (cc := cL_mended) (maxL := 6) (ret := (some .int)) (by decide) rfl ?_
  intro p e s m args below meth c s₁ B hml hv
  obtain ⟨rfl, ⟨hsz, hP, hK, hD0, hG⟩, hZ⟩ := hv
  have hx := B.exec
  have hb := B.bytes
  have hr := B.returns
  have hts := atoms_spec (ws := zsL_mended) B.pre
  have hown : s.vm.findClass RL = some m.cls := findClass_of_methodNamed B.named
  have hlocks := B.notSynchronized
  have htb := vx_table (x := yL_mended) B (hts _ List.mem_cons_self)
  subst hsz
  have hD := hD0.self (sz := s.heap.size)
  generalize hAe : va_A [(h0, .inr (11, [.ref x_studio, .ref x_script, .ref x_teller, .ref x_planner, .ref x_plan, .ref x_drifts, .ref x_floor, .ref x_trial, .ref x_tape, .int 0, .int (-1)])), (x_studio, .inr (8, [.ref s_puppets, .int 0, .ref s_shots, .int 0, .ref s_sounds, .ref s_rates, .ref s_dresses])), (s_shots, .inl (cT 5, 12, .inr (.inr (.inr (.inr (fun _ => none))))))] s.heap.size = A at hD hZ ⊢
  have hA : ∀ q : Nat, s.heap.size ≤ q → A q := fun q h => by rw [← hAe]; exact Or.inr h
  have hS : va_S A s.heap s.heap [] := va_S.rf
  have hP : va_P D vwCl [(h0, .inr (11, [.ref x_studio, .ref x_script, .ref x_teller, .ref x_planner, .ref x_plan, .ref x_drifts, .ref x_floor, .ref x_trial, .ref x_tape, .int 0, .int (-1)])), (x_studio, .inr (8, [.ref s_puppets, .int 0, .ref s_shots, .int 0, .ref s_sounds, .ref s_rates, .ref s_dresses])), (s_shots, .inl (cT 5, 12, .inr (.inr (.inr (.inr (fun _ => none))))))] s.heap := hP
  have hl := lv_entry ([.ref h0, .int p0, .int p1, .int p2, .ref o9]) (n := 6) (Nat.le_of_ble_eq_true rfl)
  rw [lg_entry_eq]
  generalize (lg_sl ([.ref h0, .int p0, .int p1, .int p2, .ref o9]) ++ List.replicate (6 - (lg_sl ([.ref h0, .int p0, .int p1, .int p2, .ref o9])).length) Slot.unset).toArray = ls at hl ⊢
  have hl : lv_has ls 6 [(0, .ref h0), (1, .int p0), (2, .int p1), (3, .int p2), (4, .ref o9)] := hl
  refine lv_aload hx hb dL_mended_0 (lv_at hl 4 rfl) ?_
  refine lv_iconst (v := 0) hx hb dL_mended_2 (by decide) ?_
  refine lv_aload_n hx hb dL_mended_3 rfl (lv_at hl 0 rfl) ?_
  refine lv_iload_n hx hb dL_mended_4 rfl (lv_at hl 1 rfl) ?_
  refine lv_iload_n hx hb dL_mended_5 rfl (lv_at hl 2 rfl) ?_
  refine lv_iload_n hx hb dL_mended_6 rfl (lv_at hl 3 rfl) ?_
  have hF := va_free (wc := [(h0, .inr (11, [.ref x_studio, .ref x_script, .ref x_teller, .ref x_planner, .ref x_plan, .ref x_drifts, .ref x_floor, .ref x_trial, .ref x_tape, .int 0, .int (-1)])), (x_studio, .inr (8, [.ref s_puppets, .int 0, .ref s_shots, .int 0, .ref s_sounds, .ref s_rates, .ref s_dresses])), (s_shots, .inl (cT 5, 12, .inr (.inr (.inr (.inr (fun _ => none))))))]) hD hS hA [0, 1, 2] rfl
  refine vx_calli (vx_runV (As := [.int p0, .int p1, .int p2]) (rest := [.int 0, .ref o9]) ⟨hx, hb, hml, hown, hts⟩ (z_X11_mended l hst D cT h0 p0 p1 p2 x_studio x_script x_teller x_planner x_plan x_drifts x_floor x_trial x_tape s_puppets s_shots s_sounds s_rates s_dresses _ ) (cwV 3 hts zgL_mended_X11_mended_100 rfl rfl rfl (by decide +kernel) ⟨Nat.le_of_ble_eq_true rfl, Nat.le_of_ble_eq_true rfl⟩) (pv_z hP hD hK hG hZ hS hF [0, 1, 2] rfl rfl rfl 0 rfl rfl) rfl rfl hl.1 rfl (lv_room (Nat.le_of_ble_eq_true rfl)) dL_mended_7 ⟨Nat.le_of_ble_eq_true rfl, Nat.le_of_ble_eq_true rfl⟩) hS (fun q _ h => hF q h) hF (fun q _ h => hF q h) (fun E ce q9 uu9 tt9 H locs ht hvm hw hB hz1 hk1 hS hq9 hv9 hc9 => ?_) (fun r_1 uu9 tt9 H locs ht hvm wr_1 hB hz1 hk1 hS => wr_1.elim)
  obtain ⟨rfl, hpx⟩ := hB
  refine vx_widen (k := 1) (n := 6) (Nat.le_of_ble_eq_true rfl) (Nat.le_of_ble_eq_true rfl) ?_
  refine vx_catch (E := "java/util/NoSuchElementException") (name := "java/util/NoSuchElementException") hown [] ⟨0, 12, 15, 37⟩ [⟨0, 12, 19, 13⟩] htb (fun z hz => nomatch hz) (by decide) (by decide) (hts (.classLink RL 37 "java/util/NoSuchElementException") (List.mem_of_getElem? (i := 6) (by decide +kernel))) (gwB_any hG (Cond.castable "java/util/NoSuchElementException" "java/util/NoSuchElementException") (by decide +kernel)) hq9 hv9 hc9 ?_
  obtain ⟨hP, hD⟩ := va_join (wr := []) (w1 := []) hP hD [0, 1, 2] [] rfl rfl (by decide) (by decide) hk1 hF vp_nil vd_nil
  have hP : va_P D vwCl [] _ := hP
  have hD : va_D A [] := hD
  refine W.eq (g2 := F0 m 15 ls [.ref q9]) rfl ?_
  refine lv_astore (lv' := [(5, .ref q9), (0, .ref h0), (1, .int p0), (2, .int p1), (3, .int p2), (4, .ref o9)]) hx hb dL_mended_15 hl (by decide) rfl (fun ls hl => ?_)
  refine lv_iconst (v := 1) hx hb dL_mended_17 (by decide) ?_
  exact W.iret (v := 1) hx hb hr (fun t ht hW => ⟨⟨1, (), rfl, rfl, trivial⟩, hS.F ht⟩) hS.2.2 dL_mended_18
theorem dL_leap_0 : decode cL_leap 0 = .ok (.aload_n 3, 1) := by decide +kernel
theorem dL_leap_1 : decode cL_leap 1 = .ok (.iconst 0, 1) := by decide +kernel
theorem dL_leap_13 : decode cL_leap 13 = .ok (.astore 4, 2) := by decide +kernel
theorem dL_leap_15 : decode cL_leap 15 = .ok (.iconst 1, 1) := by decide +kernel
theorem dL_leap_16 : decode cL_leap 16 = .ok (.ireturn, 1) := by decide +kernel
theorem dL_leap_2 : decode cL_leap 2 = .ok (.aload_n 0, 1) := by decide +kernel
theorem dL_leap_3 : decode cL_leap 3 = .ok (.iload_n 1, 1) := by decide +kernel
theorem dL_leap_4 : decode cL_leap 4 = .ok (.iload_n 2, 1) := by decide +kernel
theorem dL_leap_5 : decode cL_leap 5 = .ok (.invokevirtual 103, 3) := by decide +kernel
set_option maxRecDepth 100000 in
theorem zgL_leap_X11_leap_103_w : GoodIn zsL_leap zsX11_leap := goodIn_app (goodIn_sub (ws := [.code yX11_leap cX11_leap 8 (some .int)]) (fun _ h9 => List.mem_singleton.mp h9 ▸ List.mem_of_getElem? (i := 5) rfl) (by decide +kernel)) (goodIn_app (goodIn_app (goodIn_app (goodIn_sub (ws := [.methodLink RX11 166 yX11_needShot, .instanceMethod yX11_needShot, .selects RX11 yX11_needShot yX11_needShot, .initialized RX11, .code yX11_needShot cX11_needShot 3 (some (.object "PuppetFilm$Shot")), .classLink RX11 408 "java/util/NoSuchElementException", .initialized "java/util/NoSuchElementException", .fieldLink RX11 10 "PuppetFilm" "studio" "LPuppetFilm$Studio;", .methodLink RX11 271 yX8_shotAt, .instanceMethod yX8_shotAt, .selects RX8 yX8_shotAt yX8_shotAt, .initialized RX8, .code yX8_shotAt cX8_shotAt 2 (some (.object "PuppetFilm$Shot")), .fieldLink RX8 19 "PuppetFilm$Studio" "shots" "[LPuppetFilm$Shot;"]) (mem_ps [7, 8, 9, 4, 10, 11, 12, 13, 14, 15, 16, 17, 18, 19] (by decide +kernel)) (by decide +kernel)) (goodIn_sub (fun _ h => List.mem_cons_of_mem _ (List.mem_append_left _ (List.mem_append_left _ (List.mem_append_right _ h)))) (by decide +kernel))) (goodIn_sub (fun _ h => List.mem_cons_of_mem _ (List.mem_append_left _ (List.mem_append_right _ h))) (by decide +kernel))) (goodIn_sub (fun _ h => List.mem_cons_of_mem _ (List.mem_append_right _ h)) (by decide +kernel)))
set_option maxRecDepth 100000 in
theorem zgL_leap_X11_leap_103 : GoodIn zsL_leap (wsV RL 103 RX11 yX11_leap zsX11_leap) := goodIn_app (goodIn_sub (mem_ps [1, 2, 3, 4] (by decide +kernel)) (by decide +kernel)) zgL_leap_X11_leap_103_w
set_option maxHeartbeats 4000000 in
set_option maxRecDepth 100000 in
theorem c_L_leap (l : Launch) (hst : l.stackTraces = false) (D : va_G) (cT : Nat → ClassId) (h0 : Nat) (p0 : Int32) (p1 : Int32) (o9 : Nat) (x_studio : Nat) (x_script : Nat) (x_teller : Nat) (x_planner : Nat) (x_plan : Nat) (x_drifts : Nat) (x_floor : Nat) (x_trial : Nat) (x_tape : Nat) (s_puppets : Nat) (s_shots : Nat) (s_sounds : Nat) (s_rates : Nat) (s_dresses : Nat) (sz : Nat)  : Met l yL_leap zsL_leap ({ frames := 11, cells := 1, slots := 6, locals := 340 }) (va_Pc [.ref h0, .int p0, .int p1, .ref o9] (PZ D cT [(h0, .inr (11, [.ref x_studio, .ref x_script, .ref x_teller, .ref x_planner, .ref x_plan, .ref x_drifts, .ref x_floor, .ref x_trial, .ref x_tape, .int 0, .int (-1)])), (x_studio, .inr (8, [.ref s_puppets, .int 0, .ref s_shots, .int 0, .ref s_sounds, .ref s_rates, .ref s_dresses])), (s_shots, .inl (cT 5, 12, .inr (.inr (.inr (.inr (fun _ => none))))))] sz)) (va_Qi (fun (r : Int32) (_ : Unit) => r = 1) (fun (_ : Unit) (_ : State) => True) (va_A [(h0, .inr (11, [.ref x_studio, .ref x_script, .ref x_teller, .ref x_planner, .ref x_plan, .ref x_drifts, .ref x_floor, .ref x_trial, .ref x_tape, .int 0, .int (-1)])), (x_studio, .inr (8, [.ref s_puppets, .int 0, .ref s_shots, .int 0, .ref s_sounds, .ref s_rates, .ref s_dresses])), (s_shots, .inl (cT 5, 12, .inr (.inr (.inr (.inr (fun _ => none))))))] sz)) 1 6 (va_A [(h0, .inr (11, [.ref x_studio, .ref x_script, .ref x_teller, .ref x_planner, .ref x_plan, .ref x_drifts, .ref x_floor, .ref x_trial, .ref x_tape, .int 0, .int (-1)])), (x_studio, .inr (8, [.ref s_puppets, .int 0, .ref s_shots, .int 0, .ref s_sounds, .ref s_rates, .ref s_dresses])), (s_shots, .inl (cT 5, 12, .inr (.inr (.inr (.inr (fun _ => none))))))] sz) := by
  refine va_MetW (cc := cL_leap) (maxL := 5) (ret := (some .int)) (by decide) rfl ?_
  intro p e s m args below meth c s₁ B hml hv
  obtain ⟨rfl, ⟨hsz, hP, hK, hD0, hG⟩, hZ⟩ := hv
  have hx := B.exec
  have hb := B.bytes
  have hr := B.returns
  have hts := atoms_spec (ws := zsL_leap) B.pre
  have hown : s.vm.findClass RL = some m.cls := findClass_of_methodNamed B.named
  have hlocks := B.notSynchronized
  have htb := vx_table (x := yL_leap) B (hts _ List.mem_cons_self)
  subst hsz
  have hD := hD0.self (sz := s.heap.size)
  generalize hAe : va_A [(h0, .inr (11, [.ref x_studio, .ref x_script, .ref x_teller, .ref x_planner, .ref x_plan, .ref x_drifts, .ref x_floor, .ref x_trial, .ref x_tape, .int 0, .int (-1)])), (x_studio, .inr (8, [.ref s_puppets, .int 0, .ref s_shots, .int 0, .ref s_sounds, .ref s_rates, .ref s_dresses])), (s_shots, .inl (cT 5, 12, .inr (.inr (.inr (.inr (fun _ => none))))))] s.heap.size = A at hD hZ ⊢
  have hA : ∀ q : Nat, s.heap.size ≤ q → A q := fun q h => by rw [← hAe]; exact Or.inr h
  have hS : va_S A s.heap s.heap [] := va_S.rf
  have hP : va_P D vwCl [(h0, .inr (11, [.ref x_studio, .ref x_script, .ref x_teller, .ref x_planner, .ref x_plan, .ref x_drifts, .ref x_floor, .ref x_trial, .ref x_tape, .int 0, .int (-1)])), (x_studio, .inr (8, [.ref s_puppets, .int 0, .ref s_shots, .int 0, .ref s_sounds, .ref s_rates, .ref s_dresses])), (s_shots, .inl (cT 5, 12, .inr (.inr (.inr (.inr (fun _ => none))))))] s.heap := hP
  have hl := lv_entry ([.ref h0, .int p0, .int p1, .ref o9]) (n := 5) (Nat.le_of_ble_eq_true rfl)
  rw [lg_entry_eq]
  generalize (lg_sl ([.ref h0, .int p0, .int p1, .ref o9]) ++ List.replicate (5 - (lg_sl ([.ref h0, .int p0, .int p1, .ref o9])).length) Slot.unset).toArray = ls at hl ⊢
  have hl : lv_has ls 5 [(0, .ref h0), (1, .int p0), (2, .int p1), (3, .ref o9)] := hl
  refine lv_aload_n hx hb dL_leap_0 rfl (lv_at hl 3 rfl) ?_
  refine lv_iconst (v := 0) hx hb dL_leap_1 (by decide) ?_
  refine lv_aload_n hx hb dL_leap_2 rfl (lv_at hl 0 rfl) ?_
  refine lv_iload_n hx hb dL_leap_3 rfl (lv_at hl 1 rfl) ?_
  refine lv_iload_n hx hb dL_leap_4 rfl (lv_at hl 2 rfl) ?_
  have hF := va_free (wc := [(h0, .inr (11, [.ref x_studio, .ref x_script, .ref x_teller, .ref x_planner, .ref x_plan, .ref x_drifts, .ref x_floor, .ref x_trial, .ref x_tape, .int 0, .int (-1)])), (x_studio, .inr (8, [.ref s_puppets, .int 0, .ref s_shots, .int 0, .ref s_sounds, .ref s_rates, .ref s_dresses])), (s_shots, .inl (cT 5, 12, .inr (.inr (.inr (.inr (fun _ => none))))))]) hD hS hA [0, 1, 2] rfl
  refine vx_calli (vx_runV (As := [.int p0, .int p1]) (rest := [.int 0, .ref o9]) ⟨hx, hb, hml, hown, hts⟩ (z_X11_leap l hst D cT h0 p0 p1 x_studio x_script x_teller x_planner x_plan x_drifts x_floor x_trial x_tape s_puppets s_shots s_sounds s_rates s_dresses _ ) (cwV 2 hts zgL_leap_X11_leap_103 rfl rfl rfl (by decide +kernel) ⟨Nat.le_of_ble_eq_true rfl, Nat.le_of_ble_eq_true rfl⟩) (pv_z hP hD hK hG hZ hS hF [0, 1, 2] rfl rfl rfl 0 rfl rfl) rfl rfl hl.1 rfl (lv_room (Nat.le_of_ble_eq_true rfl)) dL_leap_5 ⟨Nat.le_of_ble_eq_true rfl, Nat.le_of_ble_eq_true rfl⟩) hS (fun q _ h => hF q h) hF (fun q _ h => hF q h) (fun E ce q9 uu9 tt9 H locs ht hvm hw hB hz1 hk1 hS hq9 hv9 hc9 => ?_) (fun r_1 uu9 tt9 H locs ht hvm wr_1 hB hz1 hk1 hS => wr_1.elim)
  obtain ⟨rfl, hpx⟩ := hB
  refine vx_widen (k := 1) (n := 6) (Nat.le_of_ble_eq_true rfl) (Nat.le_of_ble_eq_true rfl) ?_
  refine vx_catch (E := "java/util/NoSuchElementException") (name := "java/util/NoSuchElementException") hown [] ⟨0, 10, 13, 37⟩ [] htb (fun z hz => nomatch hz) (by decide) (by decide) (hts (.classLink RL 37 "java/util/NoSuchElementException") (List.mem_of_getElem? (i := 6) (by decide +kernel))) (gwB_any hG (Cond.castable "java/util/NoSuchElementException" "java/util/NoSuchElementException") (by decide +kernel)) hq9 hv9 hc9 ?_
  obtain ⟨hP, hD⟩ := va_join (wr := []) (w1 := []) hP hD [0, 1, 2] [] rfl rfl (by decide) (by decide) hk1 hF vp_nil vd_nil
  have hP : va_P D vwCl [] _ := hP
  have hD : va_D A [] := hD
  refine W.eq (g2 := F0 m 13 ls [.ref q9]) rfl ?_
  refine lv_astore (lv' := [(4, .ref q9), (0, .ref h0), (1, .int p0), (2, .int p1), (3, .ref o9)]) hx hb dL_leap_13 hl (by decide) rfl (fun ls hl => ?_)
  refine lv_iconst (v := 1) hx hb dL_leap_15 (by decide) ?_
  exact W.iret (v := 1) hx hb hr (fun t ht hW => ⟨⟨1, (), rfl, rfl, trivial⟩, hS.F ht⟩) hS.2.2 dL_leap_16
theorem dL_paint_0 : decode cL_paint 0 = .ok (.aload 5, 2) := by decide +kernel
theorem dL_paint_17 : decode cL_paint 17 = .ok (.astore 6, 2) := by decide +kernel
theorem dL_paint_19 : decode cL_paint 19 = .ok (.iconst 1, 1) := by decide +kernel
theorem dL_paint_2 : decode cL_paint 2 = .ok (.iconst 0, 1) := by decide +kernel
theorem dL_paint_20 : decode cL_paint 20 = .ok (.ireturn, 1) := by decide +kernel
theorem dL_paint_3 : decode cL_paint 3 = .ok (.aload_n 0, 1) := by decide +kernel
theorem dL_paint_4 : decode cL_paint 4 = .ok (.iload_n 1, 1) := by decide +kernel
theorem dL_paint_5 : decode cL_paint 5 = .ok (.iload_n 2, 1) := by decide +kernel
theorem dL_paint_6 : decode cL_paint 6 = .ok (.iload_n 3, 1) := by decide +kernel
theorem dL_paint_7 : decode cL_paint 7 = .ok (.iload 4, 2) := by decide +kernel
theorem dL_paint_9 : decode cL_paint 9 = .ok (.invokevirtual 106, 3) := by decide +kernel
set_option maxRecDepth 100000 in
theorem zgL_paint_X11_paint_106_w : GoodIn zsL_paint zsX11_paint := goodIn_app (goodIn_sub (ws := [.code yX11_paint cX11_paint 8 (some .int)]) (fun _ h9 => List.mem_singleton.mp h9 ▸ List.mem_of_getElem? (i := 5) rfl) (by decide +kernel)) (goodIn_app (goodIn_app (goodIn_app (goodIn_sub (ws := [.methodLink RX11 166 yX11_needShot, .instanceMethod yX11_needShot, .selects RX11 yX11_needShot yX11_needShot, .initialized RX11, .code yX11_needShot cX11_needShot 3 (some (.object "PuppetFilm$Shot")), .classLink RX11 408 "java/util/NoSuchElementException", .initialized "java/util/NoSuchElementException", .fieldLink RX11 10 "PuppetFilm" "studio" "LPuppetFilm$Studio;", .methodLink RX11 271 yX8_shotAt, .instanceMethod yX8_shotAt, .selects RX8 yX8_shotAt yX8_shotAt, .initialized RX8, .code yX8_shotAt cX8_shotAt 2 (some (.object "PuppetFilm$Shot")), .fieldLink RX8 19 "PuppetFilm$Studio" "shots" "[LPuppetFilm$Shot;"]) (mem_ps [8, 9, 10, 4, 11, 12, 13, 14, 15, 16, 17, 18, 19, 20] (by decide +kernel)) (by decide +kernel)) (goodIn_sub (fun _ h => List.mem_cons_of_mem _ (List.mem_append_left _ (List.mem_append_left _ (List.mem_append_right _ h)))) (by decide +kernel))) (goodIn_sub (fun _ h => List.mem_cons_of_mem _ (List.mem_append_left _ (List.mem_append_right _ h))) (by decide +kernel))) (goodIn_sub (fun _ h => List.mem_cons_of_mem _ (List.mem_append_right _ h)) (by decide +kernel)))
set_option maxRecDepth 100000 in
theorem zgL_paint_X11_paint_106 : GoodIn zsL_paint (wsV RL 106 RX11 yX11_paint zsX11_paint) := goodIn_app (goodIn_sub (mem_ps [1, 2, 3, 4] (by decide +kernel)) (by decide +kernel)) zgL_paint_X11_paint_106_w
set_option maxHeartbeats 4000000 in
set_option maxRecDepth 100000 in
theorem c_L_paint (l : Launch) (hst : l.stackTraces = false) (D : va_G) (cT : Nat → ClassId) (h0 : Nat) (p0 : Int32) (p1 : Int32) (p2 : Int32) (p3 : Int32) (o9 : Nat) (x_studio : Nat) (x_script : Nat) (x_teller : Nat) (x_planner : Nat) (x_plan : Nat) (x_drifts : Nat) (x_floor : Nat) (x_trial : Nat) (x_tape : Nat) (s_puppets : Nat) (s_shots : Nat) (s_sounds : Nat) (s_rates : Nat) (s_dresses : Nat) (sz : Nat)  : Met l yL_paint zsL_paint ({ frames := 11, cells := 1, slots := 6, locals := 340 }) (va_Pc [.ref h0, .int p0, .int p1, .int p2, .int p3, .ref o9] (PZ D cT [(h0, .inr (11, [.ref x_studio, .ref x_script, .ref x_teller, .ref x_planner, .ref x_plan, .ref x_drifts, .ref x_floor, .ref x_trial, .ref x_tape, .int 0, .int (-1)])), (x_studio, .inr (8, [.ref s_puppets, .int 0, .ref s_shots, .int 0, .ref s_sounds, .ref s_rates, .ref s_dresses])), (s_shots, .inl (cT 5, 12, .inr (.inr (.inr (.inr (fun _ => none))))))] sz)) (va_Qi (fun (r : Int32) (_ : Unit) => r = 1) (fun (_ : Unit) (_ : State) => True) (va_A [(h0, .inr (11, [.ref x_studio, .ref x_script, .ref x_teller, .ref x_planner, .ref x_plan, .ref x_drifts, .ref x_floor, .ref x_trial, .ref x_tape, .int 0, .int (-1)])), (x_studio, .inr (8, [.ref s_puppets, .int 0, .ref s_shots, .int 0, .ref s_sounds, .ref s_rates, .ref s_dresses])), (s_shots, .inl (cT 5, 12, .inr (.inr (.inr (.inr (fun _ => none))))))] sz)) 1 6 (va_A [(h0, .inr (11, [.ref x_studio, .ref x_script, .ref x_teller, .ref x_planner, .ref x_plan, .ref x_drifts, .ref x_floor, .ref x_trial, .ref x_tape, .int 0, .int (-1)])), (x_studio, .inr (8, [.ref s_puppets, .int 0, .ref s_shots, .int 0, .ref s_sounds, .ref s_rates, .ref s_dresses])), (s_shots, .inl (cT 5, 12, .inr (.inr (.inr (.inr (fun _ => none))))))] sz) := by
  refine va_MetW (cc := cL_paint) (maxL := 7) (ret := (some .int)) (by decide) rfl ?_
  intro p e s m args below meth c s₁ B hml hv
  obtain ⟨rfl, ⟨hsz, hP, hK, hD0, hG⟩, hZ⟩ := hv
  have hx := B.exec
  have hb := B.bytes
  have hr := B.returns
  have hts := atoms_spec (ws := zsL_paint) B.pre
  have hown : s.vm.findClass RL = some m.cls := findClass_of_methodNamed B.named
  have hlocks := B.notSynchronized
  have htb := vx_table (x := yL_paint) B (hts _ List.mem_cons_self)
  subst hsz
  have hD := hD0.self (sz := s.heap.size)
  generalize hAe : va_A [(h0, .inr (11, [.ref x_studio, .ref x_script, .ref x_teller, .ref x_planner, .ref x_plan, .ref x_drifts, .ref x_floor, .ref x_trial, .ref x_tape, .int 0, .int (-1)])), (x_studio, .inr (8, [.ref s_puppets, .int 0, .ref s_shots, .int 0, .ref s_sounds, .ref s_rates, .ref s_dresses])), (s_shots, .inl (cT 5, 12, .inr (.inr (.inr (.inr (fun _ => none))))))] s.heap.size = A at hD hZ ⊢
  have hA : ∀ q : Nat, s.heap.size ≤ q → A q := fun q h => by rw [← hAe]; exact Or.inr h
  have hS : va_S A s.heap s.heap [] := va_S.rf
  have hP : va_P D vwCl [(h0, .inr (11, [.ref x_studio, .ref x_script, .ref x_teller, .ref x_planner, .ref x_plan, .ref x_drifts, .ref x_floor, .ref x_trial, .ref x_tape, .int 0, .int (-1)])), (x_studio, .inr (8, [.ref s_puppets, .int 0, .ref s_shots, .int 0, .ref s_sounds, .ref s_rates, .ref s_dresses])), (s_shots, .inl (cT 5, 12, .inr (.inr (.inr (.inr (fun _ => none))))))] s.heap := hP
  have hl := lv_entry ([.ref h0, .int p0, .int p1, .int p2, .int p3, .ref o9]) (n := 7) (Nat.le_of_ble_eq_true rfl)
  rw [lg_entry_eq]
  generalize (lg_sl ([.ref h0, .int p0, .int p1, .int p2, .int p3, .ref o9]) ++ List.replicate (7 - (lg_sl ([.ref h0, .int p0, .int p1, .int p2, .int p3, .ref o9])).length) Slot.unset).toArray = ls at hl ⊢
  have hl : lv_has ls 7 [(0, .ref h0), (1, .int p0), (2, .int p1), (3, .int p2), (4, .int p3), (5, .ref o9)] := hl
  refine lv_aload hx hb dL_paint_0 (lv_at hl 5 rfl) ?_
  refine lv_iconst (v := 0) hx hb dL_paint_2 (by decide) ?_
  refine lv_aload_n hx hb dL_paint_3 rfl (lv_at hl 0 rfl) ?_
  refine lv_iload_n hx hb dL_paint_4 rfl (lv_at hl 1 rfl) ?_
  refine lv_iload_n hx hb dL_paint_5 rfl (lv_at hl 2 rfl) ?_
  refine lv_iload_n hx hb dL_paint_6 rfl (lv_at hl 3 rfl) ?_
  refine lv_iload hx hb dL_paint_7 (lv_at hl 4 rfl) ?_
  have hF := va_free (wc := [(h0, .inr (11, [.ref x_studio, .ref x_script, .ref x_teller, .ref x_planner, .ref x_plan, .ref x_drifts, .ref x_floor, .ref x_trial, .ref x_tape, .int 0, .int (-1)])), (x_studio, .inr (8, [.ref s_puppets, .int 0, .ref s_shots, .int 0, .ref s_sounds, .ref s_rates, .ref s_dresses])), (s_shots, .inl (cT 5, 12, .inr (.inr (.inr (.inr (fun _ => none))))))]) hD hS hA [0, 1, 2] rfl
  refine vx_calli (vx_runV (As := [.int p0, .int p1, .int p2, .int p3]) (rest := [.int 0, .ref o9]) ⟨hx, hb, hml, hown, hts⟩ (z_X11_paint l hst D cT h0 p0 p1 p2 p3 x_studio x_script x_teller x_planner x_plan x_drifts x_floor x_trial x_tape s_puppets s_shots s_sounds s_rates s_dresses _ ) (cwV 4 hts zgL_paint_X11_paint_106 rfl rfl rfl (by decide +kernel) ⟨Nat.le_of_ble_eq_true rfl, Nat.le_of_ble_eq_true rfl⟩) (pv_z hP hD hK hG hZ hS hF [0, 1, 2] rfl rfl rfl 0 rfl rfl) rfl rfl hl.1 rfl (lv_room (Nat.le_of_ble_eq_true rfl)) dL_paint_9 ⟨Nat.le_of_ble_eq_true rfl, Nat.le_of_ble_eq_true rfl⟩) hS (fun q _ h => hF q h) hF (fun q _ h => hF q h) (fun E ce q9 uu9 tt9 H locs ht hvm hw hB hz1 hk1 hS hq9 hv9 hc9 => ?_) (fun r_1 uu9 tt9 H locs ht hvm wr_1 hB hz1 hk1 hS => wr_1.elim)
  obtain ⟨rfl, hpx⟩ := hB
  refine vx_widen (k := 1) (n := 6) (Nat.le_of_ble_eq_true rfl) (Nat.le_of_ble_eq_true rfl) ?_
  refine vx_catch (E := "java/util/NoSuchElementException") (name := "java/util/NoSuchElementException") hown [] ⟨0, 14, 17, 37⟩ [⟨0, 14, 21, 13⟩] htb (fun z hz => nomatch hz) (by decide) (by decide) (hts (.classLink RL 37 "java/util/NoSuchElementException") (List.mem_of_getElem? (i := 6) (by decide +kernel))) (gwB_any hG (Cond.castable "java/util/NoSuchElementException" "java/util/NoSuchElementException") (by decide +kernel)) hq9 hv9 hc9 ?_
  obtain ⟨hP, hD⟩ := va_join (wr := []) (w1 := []) hP hD [0, 1, 2] [] rfl rfl (by decide) (by decide) hk1 hF vp_nil vd_nil
  have hP : va_P D vwCl [] _ := hP
  have hD : va_D A [] := hD
  refine W.eq (g2 := F0 m 17 ls [.ref q9]) rfl ?_
  refine lv_astore (lv' := [(6, .ref q9), (0, .ref h0), (1, .int p0), (2, .int p1), (3, .int p2), (4, .int p3), (5, .ref o9)]) hx hb dL_paint_17 hl (by decide) rfl (fun ls hl => ?_)
  refine lv_iconst (v := 1) hx hb dL_paint_19 (by decide) ?_
  exact W.iret (v := 1) hx hb hr (fun t ht hW => ⟨⟨1, (), rfl, rfl, trivial⟩, hS.F ht⟩) hS.2.2 dL_paint_20
theorem dL_dirty_0 : decode cL_dirty 0 = .ok (.aload_n 3, 1) := by decide +kernel
theorem dL_dirty_1 : decode cL_dirty 1 = .ok (.iconst 0, 1) := by decide +kernel
theorem dL_dirty_13 : decode cL_dirty 13 = .ok (.astore 4, 2) := by decide +kernel
theorem dL_dirty_15 : decode cL_dirty 15 = .ok (.iconst 1, 1) := by decide +kernel
theorem dL_dirty_16 : decode cL_dirty 16 = .ok (.ireturn, 1) := by decide +kernel
theorem dL_dirty_2 : decode cL_dirty 2 = .ok (.aload_n 0, 1) := by decide +kernel
theorem dL_dirty_3 : decode cL_dirty 3 = .ok (.iload_n 1, 1) := by decide +kernel
theorem dL_dirty_4 : decode cL_dirty 4 = .ok (.iload_n 2, 1) := by decide +kernel
theorem dL_dirty_5 : decode cL_dirty 5 = .ok (.invokevirtual 110, 3) := by decide +kernel
set_option maxRecDepth 100000 in
theorem zgL_dirty_X11_dirty_110_w : GoodIn zsL_dirty zsX11_dirty := goodIn_app (goodIn_sub (ws := [.code yX11_dirty cX11_dirty 5 (some .int)]) (fun _ h9 => List.mem_singleton.mp h9 ▸ List.mem_of_getElem? (i := 5) rfl) (by decide +kernel)) (goodIn_app (goodIn_app (goodIn_app (goodIn_sub (ws := [.methodLink RX11 166 yX11_needShot, .instanceMethod yX11_needShot, .selects RX11 yX11_needShot yX11_needShot, .initialized RX11, .code yX11_needShot cX11_needShot 3 (some (.object "PuppetFilm$Shot")), .classLink RX11 408 "java/util/NoSuchElementException", .initialized "java/util/NoSuchElementException", .fieldLink RX11 10 "PuppetFilm" "studio" "LPuppetFilm$Studio;", .methodLink RX11 271 yX8_shotAt, .instanceMethod yX8_shotAt, .selects RX8 yX8_shotAt yX8_shotAt, .initialized RX8, .code yX8_shotAt cX8_shotAt 2 (some (.object "PuppetFilm$Shot")), .fieldLink RX8 19 "PuppetFilm$Studio" "shots" "[LPuppetFilm$Shot;"]) (mem_ps [7, 8, 9, 4, 10, 11, 12, 13, 14, 15, 16, 17, 18, 19] (by decide +kernel)) (by decide +kernel)) (goodIn_sub (fun _ h => List.mem_cons_of_mem _ (List.mem_append_left _ (List.mem_append_left _ (List.mem_append_right _ h)))) (by decide +kernel))) (goodIn_sub (fun _ h => List.mem_cons_of_mem _ (List.mem_append_left _ (List.mem_append_right _ h))) (by decide +kernel))) (goodIn_sub (fun _ h => List.mem_cons_of_mem _ (List.mem_append_right _ h)) (by decide +kernel)))
set_option maxRecDepth 100000 in
theorem zgL_dirty_X11_dirty_110 : GoodIn zsL_dirty (wsV RL 110 RX11 yX11_dirty zsX11_dirty) := goodIn_app (goodIn_sub (mem_ps [1, 2, 3, 4] (by decide +kernel)) (by decide +kernel)) zgL_dirty_X11_dirty_110_w
set_option maxHeartbeats 4000000 in
set_option maxRecDepth 100000 in
theorem c_L_dirty (l : Launch) (hst : l.stackTraces = false) (D : va_G) (cT : Nat → ClassId) (h0 : Nat) (p0 : Int32) (p1 : Int32) (o9 : Nat) (x_studio : Nat) (x_script : Nat) (x_teller : Nat) (x_planner : Nat) (x_plan : Nat) (x_drifts : Nat) (x_floor : Nat) (x_trial : Nat) (x_tape : Nat) (s_puppets : Nat) (s_shots : Nat) (s_sounds : Nat) (s_rates : Nat) (s_dresses : Nat) (sz : Nat)  : Met l yL_dirty zsL_dirty ({ frames := 11, cells := 1, slots := 6, locals := 340 }) (va_Pc [.ref h0, .int p0, .int p1, .ref o9] (PZ D cT [(h0, .inr (11, [.ref x_studio, .ref x_script, .ref x_teller, .ref x_planner, .ref x_plan, .ref x_drifts, .ref x_floor, .ref x_trial, .ref x_tape, .int 0, .int (-1)])), (x_studio, .inr (8, [.ref s_puppets, .int 0, .ref s_shots, .int 0, .ref s_sounds, .ref s_rates, .ref s_dresses])), (s_shots, .inl (cT 5, 12, .inr (.inr (.inr (.inr (fun _ => none))))))] sz)) (va_Qi (fun (r : Int32) (_ : Unit) => r = 1) (fun (_ : Unit) (_ : State) => True) (va_A [(h0, .inr (11, [.ref x_studio, .ref x_script, .ref x_teller, .ref x_planner, .ref x_plan, .ref x_drifts, .ref x_floor, .ref x_trial, .ref x_tape, .int 0, .int (-1)])), (x_studio, .inr (8, [.ref s_puppets, .int 0, .ref s_shots, .int 0, .ref s_sounds, .ref s_rates, .ref s_dresses])), (s_shots, .inl (cT 5, 12, .inr (.inr (.inr (.inr (fun _ => none))))))] sz)) 1 6 (va_A [(h0, .inr (11, [.ref x_studio, .ref x_script, .ref x_teller, .ref x_planner, .ref x_plan, .ref x_drifts, .ref x_floor, .ref x_trial, .ref x_tape, .int 0, .int (-1)])), (x_studio, .inr (8, [.ref s_puppets, .int 0, .ref s_shots, .int 0, .ref s_sounds, .ref s_rates, .ref s_dresses])), (s_shots, .inl (cT 5, 12, .inr (.inr (.inr (.inr (fun _ => none))))))] sz) := by
  refine va_MetW (cc := cL_dirty) (maxL := 5) (ret := (some .int)) (by decide) rfl ?_
  intro p e s m args below meth c s₁ B hml hv
  obtain ⟨rfl, ⟨hsz, hP, hK, hD0, hG⟩, hZ⟩ := hv
  have hx := B.exec
  have hb := B.bytes
  have hr := B.returns
  have hts := atoms_spec (ws := zsL_dirty) B.pre
  have hown : s.vm.findClass RL = some m.cls := findClass_of_methodNamed B.named
  have hlocks := B.notSynchronized
  have htb := vx_table (x := yL_dirty) B (hts _ List.mem_cons_self)
  subst hsz
  have hD := hD0.self (sz := s.heap.size)
  generalize hAe : va_A [(h0, .inr (11, [.ref x_studio, .ref x_script, .ref x_teller, .ref x_planner, .ref x_plan, .ref x_drifts, .ref x_floor, .ref x_trial, .ref x_tape, .int 0, .int (-1)])), (x_studio, .inr (8, [.ref s_puppets, .int 0, .ref s_shots, .int 0, .ref s_sounds, .ref s_rates, .ref s_dresses])), (s_shots, .inl (cT 5, 12, .inr (.inr (.inr (.inr (fun _ => none))))))] s.heap.size = A at hD hZ ⊢
  have hA : ∀ q : Nat, s.heap.size ≤ q → A q := fun q h => by rw [← hAe]; exact Or.inr h
  have hS : va_S A s.heap s.heap [] := va_S.rf
  have hP : va_P D vwCl [(h0, .inr (11, [.ref x_studio, .ref x_script, .ref x_teller, .ref x_planner, .ref x_plan, .ref x_drifts, .ref x_floor, .ref x_trial, .ref x_tape, .int 0, .int (-1)])), (x_studio, .inr (8, [.ref s_puppets, .int 0, .ref s_shots, .int 0, .ref s_sounds, .ref s_rates, .ref s_dresses])), (s_shots, .inl (cT 5, 12, .inr (.inr (.inr (.inr (fun _ => none))))))] s.heap := hP
  have hl := lv_entry ([.ref h0, .int p0, .int p1, .ref o9]) (n := 5) (Nat.le_of_ble_eq_true rfl)
  rw [lg_entry_eq]
  generalize (lg_sl ([.ref h0, .int p0, .int p1, .ref o9]) ++ List.replicate (5 - (lg_sl ([.ref h0, .int p0, .int p1, .ref o9])).length) Slot.unset).toArray = ls at hl ⊢
  have hl : lv_has ls 5 [(0, .ref h0), (1, .int p0), (2, .int p1), (3, .ref o9)] := hl
  refine lv_aload_n hx hb dL_dirty_0 rfl (lv_at hl 3 rfl) ?_
  refine lv_iconst (v := 0) hx hb dL_dirty_1 (by decide) ?_
  refine lv_aload_n hx hb dL_dirty_2 rfl (lv_at hl 0 rfl) ?_
  refine lv_iload_n hx hb dL_dirty_3 rfl (lv_at hl 1 rfl) ?_
  refine lv_iload_n hx hb dL_dirty_4 rfl (lv_at hl 2 rfl) ?_
  have hF := va_free (wc := [(h0, .inr (11, [.ref x_studio, .ref x_script, .ref x_teller, .ref x_planner, .ref x_plan, .ref x_drifts, .ref x_floor, .ref x_trial, .ref x_tape, .int 0, .int (-1)])), (x_studio, .inr (8, [.ref s_puppets, .int 0, .ref s_shots, .int 0, .ref s_sounds, .ref s_rates, .ref s_dresses])), (s_shots, .inl (cT 5, 12, .inr (.inr (.inr (.inr (fun _ => none))))))]) hD hS hA [0, 1, 2] rfl
  refine vx_calli (vx_runV (As := [.int p0, .int p1]) (rest := [.int 0, .ref o9]) ⟨hx, hb, hml, hown, hts⟩ (z_X11_dirty l hst D cT h0 p0 p1 x_studio x_script x_teller x_planner x_plan x_drifts x_floor x_trial x_tape s_puppets s_shots s_sounds s_rates s_dresses _ ) (cwV 2 hts zgL_dirty_X11_dirty_110 rfl rfl rfl (by decide +kernel) ⟨Nat.le_of_ble_eq_true rfl, Nat.le_of_ble_eq_true rfl⟩) (pv_z hP hD hK hG hZ hS hF [0, 1, 2] rfl rfl rfl 0 rfl rfl) rfl rfl hl.1 rfl (lv_room (Nat.le_of_ble_eq_true rfl)) dL_dirty_5 ⟨Nat.le_of_ble_eq_true rfl, Nat.le_of_ble_eq_true rfl⟩) hS (fun q _ h => hF q h) hF (fun q _ h => hF q h) (fun E ce q9 uu9 tt9 H locs ht hvm hw hB hz1 hk1 hS hq9 hv9 hc9 => ?_) (fun r_1 uu9 tt9 H locs ht hvm wr_1 hB hz1 hk1 hS => wr_1.elim)
  obtain ⟨rfl, hpx⟩ := hB
  refine vx_widen (k := 1) (n := 6) (Nat.le_of_ble_eq_true rfl) (Nat.le_of_ble_eq_true rfl) ?_
  refine vx_catch (E := "java/util/NoSuchElementException") (name := "java/util/NoSuchElementException") hown [] ⟨0, 10, 13, 37⟩ [] htb (fun z hz => nomatch hz) (by decide) (by decide) (hts (.classLink RL 37 "java/util/NoSuchElementException") (List.mem_of_getElem? (i := 6) (by decide +kernel))) (gwB_any hG (Cond.castable "java/util/NoSuchElementException" "java/util/NoSuchElementException") (by decide +kernel)) hq9 hv9 hc9 ?_
  obtain ⟨hP, hD⟩ := va_join (wr := []) (w1 := []) hP hD [0, 1, 2] [] rfl rfl (by decide) (by decide) hk1 hF vp_nil vd_nil
  have hP : va_P D vwCl [] _ := hP
  have hD : va_D A [] := hD
  refine W.eq (g2 := F0 m 13 ls [.ref q9]) rfl ?_
  refine lv_astore (lv' := [(4, .ref q9), (0, .ref h0), (1, .int p0), (2, .int p1), (3, .ref o9)]) hx hb dL_dirty_13 hl (by decide) rfl (fun ls hl => ?_)
  refine lv_iconst (v := 1) hx hb dL_dirty_15 (by decide) ?_
  exact W.iret (v := 1) hx hb hr (fun t ht hW => ⟨⟨1, (), rfl, rfl, trivial⟩, hS.F ht⟩) hS.2.2 dL_dirty_16
theorem dL_queue_0 : decode cL_queue 0 = .ok (.aload_n 3, 1) := by decide +kernel
theorem dL_queue_1 : decode cL_queue 1 = .ok (.iconst 0, 1) := by decide +kernel
theorem dL_queue_13 : decode cL_queue 13 = .ok (.astore 4, 2) := by decide +kernel
theorem dL_queue_15 : decode cL_queue 15 = .ok (.iconst 1, 1) := by decide +kernel
theorem dL_queue_16 : decode cL_queue 16 = .ok (.ireturn, 1) := by decide +kernel
theorem dL_queue_2 : decode cL_queue 2 = .ok (.aload_n 0, 1) := by decide +kernel
theorem dL_queue_3 : decode cL_queue 3 = .ok (.iload_n 1, 1) := by decide +kernel
theorem dL_queue_4 : decode cL_queue 4 = .ok (.iload_n 2, 1) := by decide +kernel
theorem dL_queue_5 : decode cL_queue 5 = .ok (.invokevirtual 119, 3) := by decide +kernel
set_option maxRecDepth 100000 in
theorem zgL_queue_X11_queue_119_w : GoodIn zsL_queue zsX11_queue := goodIn_app (goodIn_sub (ws := [.code yX11_queue cX11_queue 4 (some .int)]) (fun _ h9 => List.mem_singleton.mp h9 ▸ List.mem_of_getElem? (i := 5) rfl) (by decide +kernel)) (goodIn_app (goodIn_app (goodIn_app (goodIn_sub (ws := [.methodLink RX11 166 yX11_needShot, .instanceMethod yX11_needShot, .selects RX11 yX11_needShot yX11_needShot, .initialized RX11, .code yX11_needShot cX11_needShot 3 (some (.object "PuppetFilm$Shot")), .classLink RX11 408 "java/util/NoSuchElementException", .initialized "java/util/NoSuchElementException", .fieldLink RX11 10 "PuppetFilm" "studio" "LPuppetFilm$Studio;", .methodLink RX11 271 yX8_shotAt, .instanceMethod yX8_shotAt, .selects RX8 yX8_shotAt yX8_shotAt, .initialized RX8, .code yX8_shotAt cX8_shotAt 2 (some (.object "PuppetFilm$Shot")), .fieldLink RX8 19 "PuppetFilm$Studio" "shots" "[LPuppetFilm$Shot;"]) (mem_ps [8, 9, 10, 4, 11, 12, 13, 14, 15, 16, 17, 18, 19, 20] (by decide +kernel)) (by decide +kernel)) (goodIn_sub (fun _ h => List.mem_cons_of_mem _ (List.mem_append_left _ (List.mem_append_left _ (List.mem_append_right _ h)))) (by decide +kernel))) (goodIn_sub (fun _ h => List.mem_cons_of_mem _ (List.mem_append_left _ (List.mem_append_right _ h))) (by decide +kernel))) (goodIn_sub (fun _ h => List.mem_cons_of_mem _ (List.mem_append_right _ h)) (by decide +kernel)))
set_option maxRecDepth 100000 in
theorem zgL_queue_X11_queue_119 : GoodIn zsL_queue (wsV RL 119 RX11 yX11_queue zsX11_queue) := goodIn_app (goodIn_sub (mem_ps [1, 2, 3, 4] (by decide +kernel)) (by decide +kernel)) zgL_queue_X11_queue_119_w
set_option maxHeartbeats 4000000 in
set_option maxRecDepth 100000 in
theorem c_L_queue (l : Launch) (hst : l.stackTraces = false) (D : va_G) (cT : Nat → ClassId) (h0 : Nat) (p0 : Int32) (p1 : Int32) (o9 : Nat) (x_studio : Nat) (x_script : Nat) (x_teller : Nat) (x_planner : Nat) (x_plan : Nat) (x_drifts : Nat) (x_floor : Nat) (x_trial : Nat) (x_tape : Nat) (s_puppets : Nat) (s_shots : Nat) (s_sounds : Nat) (s_rates : Nat) (s_dresses : Nat) (sz : Nat)  : Met l yL_queue zsL_queue ({ frames := 11, cells := 1, slots := 6, locals := 340 }) (va_Pc [.ref h0, .int p0, .int p1, .ref o9] (PZ D cT [(h0, .inr (11, [.ref x_studio, .ref x_script, .ref x_teller, .ref x_planner, .ref x_plan, .ref x_drifts, .ref x_floor, .ref x_trial, .ref x_tape, .int 0, .int (-1)])), (x_studio, .inr (8, [.ref s_puppets, .int 0, .ref s_shots, .int 0, .ref s_sounds, .ref s_rates, .ref s_dresses])), (s_shots, .inl (cT 5, 12, .inr (.inr (.inr (.inr (fun _ => none))))))] sz)) (va_Qi (fun (r : Int32) (_ : Unit) => r = 1) (fun (_ : Unit) (_ : State) => True) (va_A [(h0, .inr (11, [.ref x_studio, .ref x_script, .ref x_teller, .ref x_planner, .ref x_plan, .ref x_drifts, .ref x_floor, .ref x_trial, .ref x_tape, .int 0, .int (-1)])), (x_studio, .inr (8, [.ref s_puppets, .int 0, .ref s_shots, .int 0, .ref s_sounds, .ref s_rates, .ref s_dresses])), (s_shots, .inl (cT 5, 12, .inr (.inr (.inr (.inr (fun _ => none))))))] sz)) 1 6 (va_A [(h0, .inr (11, [.ref x_studio, .ref x_script, .ref x_teller, .ref x_planner, .ref x_plan, .ref x_drifts, .ref x_floor, .ref x_trial, .ref x_tape, .int 0, .int (-1)])), (x_studio, .inr (8, [.ref s_puppets, .int 0, .ref s_shots, .int 0, .ref s_sounds, .ref s_rates, .ref s_dresses])), (s_shots, .inl (cT 5, 12, .inr (.inr (.inr (.inr (fun _ => none))))))] sz) := by
  refine va_MetW (cc := cL_queue) (maxL := 5) (ret := (some .int)) (by decide) rfl ?_
  intro p e s m args below meth c s₁ B hml hv
  obtain ⟨rfl, ⟨hsz, hP, hK, hD0, hG⟩, hZ⟩ := hv
  have hx := B.exec
  have hb := B.bytes
  have hr := B.returns
  have hts := atoms_spec (ws := zsL_queue) B.pre
  have hown : s.vm.findClass RL = some m.cls := findClass_of_methodNamed B.named
  have hlocks := B.notSynchronized
  have htb := vx_table (x := yL_queue) B (hts _ List.mem_cons_self)
  subst hsz
  have hD := hD0.self (sz := s.heap.size)
  generalize hAe : va_A [(h0, .inr (11, [.ref x_studio, .ref x_script, .ref x_teller, .ref x_planner, .ref x_plan, .ref x_drifts, .ref x_floor, .ref x_trial, .ref x_tape, .int 0, .int (-1)])), (x_studio, .inr (8, [.ref s_puppets, .int 0, .ref s_shots, .int 0, .ref s_sounds, .ref s_rates, .ref s_dresses])), (s_shots, .inl (cT 5, 12, .inr (.inr (.inr (.inr (fun _ => none))))))] s.heap.size = A at hD hZ ⊢
  have hA : ∀ q : Nat, s.heap.size ≤ q → A q := fun q h => by rw [← hAe]; exact Or.inr h
  have hS : va_S A s.heap s.heap [] := va_S.rf
  have hP : va_P D vwCl [(h0, .inr (11, [.ref x_studio, .ref x_script, .ref x_teller, .ref x_planner, .ref x_plan, .ref x_drifts, .ref x_floor, .ref x_trial, .ref x_tape, .int 0, .int (-1)])), (x_studio, .inr (8, [.ref s_puppets, .int 0, .ref s_shots, .int 0, .ref s_sounds, .ref s_rates, .ref s_dresses])), (s_shots, .inl (cT 5, 12, .inr (.inr (.inr (.inr (fun _ => none))))))] s.heap := hP
  have hl := lv_entry ([.ref h0, .int p0, .int p1, .ref o9]) (n := 5) (Nat.le_of_ble_eq_true rfl)
  rw [lg_entry_eq]
  generalize (lg_sl ([.ref h0, .int p0, .int p1, .ref o9]) ++ List.replicate (5 - (lg_sl ([.ref h0, .int p0, .int p1, .ref o9])).length) Slot.unset).toArray = ls at hl ⊢
  have hl : lv_has ls 5 [(0, .ref h0), (1, .int p0), (2, .int p1), (3, .ref o9)] := hl
  refine lv_aload_n hx hb dL_queue_0 rfl (lv_at hl 3 rfl) ?_
  refine lv_iconst (v := 0) hx hb dL_queue_1 (by decide) ?_
  refine lv_aload_n hx hb dL_queue_2 rfl (lv_at hl 0 rfl) ?_
  refine lv_iload_n hx hb dL_queue_3 rfl (lv_at hl 1 rfl) ?_
  refine lv_iload_n hx hb dL_queue_4 rfl (lv_at hl 2 rfl) ?_
  have hF := va_free (wc := [(h0, .inr (11, [.ref x_studio, .ref x_script, .ref x_teller, .ref x_planner, .ref x_plan, .ref x_drifts, .ref x_floor, .ref x_trial, .ref x_tape, .int 0, .int (-1)])), (x_studio, .inr (8, [.ref s_puppets, .int 0, .ref s_shots, .int 0, .ref s_sounds, .ref s_rates, .ref s_dresses])), (s_shots, .inl (cT 5, 12, .inr (.inr (.inr (.inr (fun _ => none))))))]) hD hS hA [0, 1, 2] rfl
  refine vx_calli (vx_runV (As := [.int p0, .int p1]) (rest := [.int 0, .ref o9]) ⟨hx, hb, hml, hown, hts⟩ (z_X11_queue l hst D cT h0 p0 p1 x_studio x_script x_teller x_planner x_plan x_drifts x_floor x_trial x_tape s_puppets s_shots s_sounds s_rates s_dresses _ ) (cwV 2 hts zgL_queue_X11_queue_119 rfl rfl rfl (by decide +kernel) ⟨Nat.le_of_ble_eq_true rfl, Nat.le_of_ble_eq_true rfl⟩) (pv_z hP hD hK hG hZ hS hF [0, 1, 2] rfl rfl rfl 0 rfl rfl) rfl rfl hl.1 rfl (lv_room (Nat.le_of_ble_eq_true rfl)) dL_queue_5 ⟨Nat.le_of_ble_eq_true rfl, Nat.le_of_ble_eq_true rfl⟩) hS (fun q _ h => hF q h) hF (fun q _ h => hF q h) (fun E ce q9 uu9 tt9 H locs ht hvm hw hB hz1 hk1 hS hq9 hv9 hc9 => ?_) (fun r_1 uu9 tt9 H locs ht hvm wr_1 hB hz1 hk1 hS => wr_1.elim)
  obtain ⟨rfl, hpx⟩ := hB
  refine vx_widen (k := 1) (n := 6) (Nat.le_of_ble_eq_true rfl) (Nat.le_of_ble_eq_true rfl) ?_
  refine vx_catch (E := "java/util/NoSuchElementException") (name := "java/util/NoSuchElementException") hown [] ⟨0, 10, 13, 37⟩ [⟨0, 10, 17, 13⟩] htb (fun z hz => nomatch hz) (by decide) (by decide) (hts (.classLink RL 37 "java/util/NoSuchElementException") (List.mem_of_getElem? (i := 6) (by decide +kernel))) (gwB_any hG (Cond.castable "java/util/NoSuchElementException" "java/util/NoSuchElementException") (by decide +kernel)) hq9 hv9 hc9 ?_
  obtain ⟨hP, hD⟩ := va_join (wr := []) (w1 := []) hP hD [0, 1, 2] [] rfl rfl (by decide) (by decide) hk1 hF vp_nil vd_nil
  have hP : va_P D vwCl [] _ := hP
  have hD : va_D A [] := hD
  refine W.eq (g2 := F0 m 13 ls [.ref q9]) rfl ?_
  refine lv_astore (lv' := [(4, .ref q9), (0, .ref h0), (1, .int p0), (2, .int p1), (3, .ref o9)]) hx hb dL_queue_13 hl (by decide) rfl (fun ls hl => ?_)
  refine lv_iconst (v := 1) hx hb dL_queue_15 (by decide) ?_
  exact W.iret (v := 1) hx hb hr (fun t ht hW => ⟨⟨1, (), rfl, rfl, trivial⟩, hS.F ht⟩) hS.2.2 dL_queue_16
