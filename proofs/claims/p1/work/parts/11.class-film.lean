set_option maxHeartbeats 4000000 in
set_option maxRecDepth 100000 in
theorem c_X8_addPuppet_r (l : Launch) (D : va_G) (cT : Nat → ClassId) (h0 : Nat) (q9 : Nat) (s_puppets : Nat) (s_shots : Nat) (s_sounds : Nat) (s_rates : Nat) (s_dresses : Nat) (u_parents : Nat) (u_lows : Nat) (u_highs : Nat) (u_lengths : Nat) (u_masses : Nat) (u_turns : Nat) (u_ends : Nat) (sz : Nat)  : Met l yX8_addPuppet wsX8_addPuppet ({ frames := 8, cells := 0, slots := 0, locals := 160 }) (va_Pc [.ref h0, .ref q9] (PW D cT [(h0, .inr (8, [.ref s_puppets, .int 0, .ref s_shots, .int 0, .ref s_sounds, .ref s_rates, .ref s_dresses])), (s_puppets, .inl (cT 4, 8, .inr (.inr (.inr (.inr (fun _ => none)))))), (q9, .inr (5, [.int 0, .ref u_parents, .ref u_lows, .ref u_highs, .ref u_lengths, .ref u_masses, .ref u_turns, .ref u_ends, .int 0, .int 0, .int 0]))] sz)) (va_Qi (fun (r : Int32) (_ : Unit) => r = 0) (fun (_ : Unit) (_ : State) => True) (va_A [(h0, .inr (8, [.ref s_puppets, .int 0, .ref s_shots, .int 0, .ref s_sounds, .ref s_rates, .ref s_dresses])), (s_puppets, .inl (cT 4, 8, .inr (.inr (.inr (.inr (fun _ => none)))))), (q9, .inr (5, [.int 0, .ref u_parents, .ref u_lows, .ref u_highs, .ref u_lengths, .ref u_masses, .ref u_turns, .ref u_ends, .int 0, .int 0, .int 0]))] sz)) 0 0 (va_A [(h0, .inr (8, [.ref s_puppets, .int 0, .ref s_shots, .int 0, .ref s_sounds, .ref s_rates, .ref s_dresses])), (s_puppets, .inl (cT 4, 8, .inr (.inr (.inr (.inr (fun _ => none)))))), (q9, .inr (5, [.int 0, .ref u_parents, .ref u_lows, .ref u_highs, .ref u_lengths, .ref u_masses, .ref u_turns, .ref u_ends, .int 0, .int 0, .int 0]))] sz) := by
  refine Met.ofW (cc := cX8_addPuppet) (maxL := 3) (ret := (some .int)) (by decide) rfl ?_
  intro p e s m args below meth c s₁ B hml hv
  obtain ⟨rfl, hsz, hP, hK, hD0, hG⟩ := hv
  have hx := B.exec
  have hb := B.bytes
  have hr := B.returns
  have hts := atoms_spec (ws := wsX8_addPuppet) B.pre
  have hown : s.vm.findClass RX8 = some m.cls := findClass_of_methodNamed B.named
  have hlocks := B.notSynchronized
  subst hsz
  have hD := hD0.self (sz := s.heap.size)
  generalize hAe : va_A [(h0, .inr (8, [.ref s_puppets, .int 0, .ref s_shots, .int 0, .ref s_sounds, .ref s_rates, .ref s_dresses])), (s_puppets, .inl (cT 4, 8, .inr (.inr (.inr (.inr (fun _ => none)))))), (q9, .inr (5, [.int 0, .ref u_parents, .ref u_lows, .ref u_highs, .ref u_lengths, .ref u_masses, .ref u_turns, .ref u_ends, .int 0, .int 0, .int 0]))] s.heap.size = A at hD ⊢
  have hA : ∀ q : Nat, s.heap.size ≤ q → A q := fun q h => by rw [← hAe]; exact Or.inr h
  have hS : va_S A s.heap s.heap [] := va_S.rf
  have hP : va_P D vwCl [(h0, .inr (8, [.ref s_puppets, .int 0, .ref s_shots, .int 0, .ref s_sounds, .ref s_rates, .ref s_dresses])), (s_puppets, .inl (cT 4, 8, .inr (.inr (.inr (.inr (fun _ => none)))))), (q9, .inr (5, [.int 0, .ref u_parents, .ref u_lows, .ref u_highs, .ref u_lengths, .ref u_masses, .ref u_turns, .ref u_ends, .int 0, .int 0, .int 0]))] s.heap := hP
  have hl := lv_entry ([.ref h0, .ref q9]) (n := 3) (Nat.le_of_ble_eq_true rfl)
  rw [lg_entry_eq]
  generalize (lg_sl ([.ref h0, .ref q9]) ++ List.replicate (3 - (lg_sl ([.ref h0, .ref q9])).length) Slot.unset).toArray = ls at hl ⊢
  have hl : lv_has ls 3 [(0, .ref h0), (1, .ref q9)] := hl
  refine lv_aload_n hx hb dX8_addPuppet_0 rfl (lv_at hl 0 rfl) ?_
  refine va_get (D := D) (ci := 8) (v := .int 0) (C := RX8) (T := TX8) (N := 7) hx hb hts (fun _ h => List.mem_cons_of_mem _ (List.mem_append_right _ h)) hown hK hP 0 rfl rfl 1 (by decide) (hts (.fieldLink RX8 39 "PuppetFilm$Studio" "puppetCount" "I") (List.mem_of_getElem? (i := 1) (by decide +kernel))) (fun _ h9 => h9) rfl dX8_addPuppet_1 ?_
  refine lv_istore_n (lv' := [(2, .int 0), (0, .ref h0), (1, .ref q9)]) hx hb dX8_addPuppet_4 rfl hl (by decide) rfl (fun ls hl => ?_)
  refine lv_iload_n hx hb dX8_addPuppet_5 rfl (lv_at hl 0 rfl) ?_
  refine lv_aload_n hx hb dX8_addPuppet_6 rfl (lv_at hl 1 rfl) ?_
  refine va_get (D := D) (ci := 8) (v := .ref s_puppets) (C := RX8) (T := TX8) (N := 7) hx hb hts (fun _ h => List.mem_cons_of_mem _ (List.mem_append_right _ h)) hown hK hP 0 rfl rfl 0 (by decide) (hts (.fieldLink RX8 11 "PuppetFilm$Studio" "puppets" "[LPuppetFilm$Puppet;") (List.mem_of_getElem? (i := 2) (by decide +kernel))) (fun _ h9 => h9) rfl dX8_addPuppet_7 ?_
  refine va_alen (v := 8) hx hb hK hP 1 4 rfl rfl rfl dX8_addPuppet_10 ?_
  refine lv_icmp_lt (tgt := 16) hx hb dX8_addPuppet_11 (by decide) (fun _ => ?_) (fun c9 => absurd c9 (by decide))
  refine lv_aload_n hx hb dX8_addPuppet_16 rfl (lv_at hl 1 rfl) ?_
  refine va_get (D := D) (ci := 8) (v := .ref s_puppets) (C := RX8) (T := TX8) (N := 7) hx hb hts (fun _ h => List.mem_cons_of_mem _ (List.mem_append_right _ h)) hown hK hP 0 rfl rfl 0 (by decide) (hts (.fieldLink RX8 11 "PuppetFilm$Studio" "puppets" "[LPuppetFilm$Puppet;") (List.mem_of_getElem? (i := 2) (by decide +kernel))) (fun _ h9 => h9) rfl dX8_addPuppet_17 ?_
  refine lv_iload_n hx hb dX8_addPuppet_20 rfl (lv_at hl 0 rfl) ?_
  refine lv_aload_n hx hb dX8_addPuppet_21 rfl (lv_at hl 2 rfl) ?_
  refine va_astq (r := vwCl[5]) hx hb hK hP hD hS 1 4 2 5 rfl rfl rfl rfl (by unfold vp_in; decide) dX8_addPuppet_22 (fun H locs hP hD hS => ?_)
  generalize va_up (fun _ => none) (Int32.toNatClampNeg 0) (some q9) = f_1 at hP hD
  have hP : va_P D vwCl [(h0, .inr (8, [.ref s_puppets, .int 0, .ref s_shots, .int 0, .ref s_sounds, .ref s_rates, .ref s_dresses])), (s_puppets, .inl (cT 4, 8, .inr (.inr (.inr (.inr f_1))))), (q9, .inr (5, [.int 0, .ref u_parents, .ref u_lows, .ref u_highs, .ref u_lengths, .ref u_masses, .ref u_turns, .ref u_ends, .int 0, .int 0, .int 0]))] _ := hP
  have hD : va_D A [(h0, .inr (8, [.ref s_puppets, .int 0, .ref s_shots, .int 0, .ref s_sounds, .ref s_rates, .ref s_dresses])), (s_puppets, .inl (cT 4, 8, .inr (.inr (.inr (.inr f_1))))), (q9, .inr (5, [.int 0, .ref u_parents, .ref u_lows, .ref u_highs, .ref u_lengths, .ref u_masses, .ref u_turns, .ref u_ends, .int 0, .int 0, .int 0]))] := hD
  refine lv_aload_n hx hb dX8_addPuppet_23 rfl (lv_at hl 1 rfl) ?_
  refine lv_dup hx hb dX8_addPuppet_24 rfl ?_
  refine va_get (D := D) (ci := 8) (v := .int 0) (C := RX8) (T := TX8) (N := 7) hx hb hts (fun _ h => List.mem_cons_of_mem _ (List.mem_append_right _ h)) hown hK hP 0 rfl rfl 1 (by decide) (hts (.fieldLink RX8 39 "PuppetFilm$Studio" "puppetCount" "I") (List.mem_of_getElem? (i := 1) (by decide +kernel))) (fun _ h9 => h9) rfl dX8_addPuppet_25 ?_
  refine lv_iconst (v := 1) hx hb dX8_addPuppet_28 (by decide) ?_
  refine lv_iadd hx hb dX8_addPuppet_29 ?_
  refine lv_topi (fun z_2 ez_2 => ?_)
  obtain rfl : z_2 = 1 := ez_2.trans (by decide)
  refine va_put (D := D) (ci := 8) (v := .int 1) (ty := .int) (C := RX8) (T := TX8) (N := 7) hx hb hts (fun _ h => List.mem_cons_of_mem _ (List.mem_append_right _ h)) tyX8 tyX8_ok nmX8 hown hK hP hD hS 0 rfl rfl 1 (by decide) (hts (.fieldLink RX8 39 "PuppetFilm$Studio" "puppetCount" "I") (List.mem_of_getElem? (i := 1) (by decide +kernel))) (fun _ h9 => h9) rfl (by decide +kernel) rfl rfl (Nat.le_of_ble_eq_true rfl) dX8_addPuppet_30 (fun H locs hP hD hS => ?_)
  have hP : va_P D vwCl [(h0, .inr (8, [.ref s_puppets, .int 1, .ref s_shots, .int 0, .ref s_sounds, .ref s_rates, .ref s_dresses])), (s_puppets, .inl (cT 4, 8, .inr (.inr (.inr (.inr f_1))))), (q9, .inr (5, [.int 0, .ref u_parents, .ref u_lows, .ref u_highs, .ref u_lengths, .ref u_masses, .ref u_turns, .ref u_ends, .int 0, .int 0, .int 0]))] _ := hP
  have hD : va_D A [(h0, .inr (8, [.ref s_puppets, .int 1, .ref s_shots, .int 0, .ref s_sounds, .ref s_rates, .ref s_dresses])), (s_puppets, .inl (cT 4, 8, .inr (.inr (.inr (.inr f_1))))), (q9, .inr (5, [.int 0, .ref u_parents, .ref u_lows, .ref u_highs, .ref u_lengths, .ref u_masses, .ref u_turns, .ref u_ends, .int 0, .int 0, .int 0]))] := hD
  refine lv_iload_n hx hb dX8_addPuppet_33 rfl (lv_at hl 0 rfl) ?_
  exact W.iret (v := 0) hx hb hr (fun t ht hW => ⟨⟨0, (), rfl, rfl, trivial⟩, hS.F ht⟩) hS.2.2 dX8_addPuppet_34
theorem dX11_puppet_0 : decode cX11_puppet 0 = .ok (.aload_n 0, 1) := by decide +kernel
theorem dX11_puppet_1 : decode cX11_puppet 1 = .ok (.getfield 10, 3) := by decide +kernel
theorem dX11_puppet_14 : decode cX11_puppet 14 = .ok (.aload_n 0, 1) := by decide +kernel
theorem dX11_puppet_15 : decode cX11_puppet 15 = .ok (.getfield 10, 3) := by decide +kernel
theorem dX11_puppet_18 : decode cX11_puppet 18 = .ok (.new 78, 3) := by decide +kernel
theorem dX11_puppet_21 : decode cX11_puppet 21 = .ok (.dup, 1) := by decide +kernel
theorem dX11_puppet_22 : decode cX11_puppet 22 = .ok (.invokespecial 80, 3) := by decide +kernel
theorem dX11_puppet_25 : decode cX11_puppet 25 = .ok (.invokevirtual 81, 3) := by decide +kernel
theorem dX11_puppet_28 : decode cX11_puppet 28 = .ok (.ireturn, 1) := by decide +kernel
theorem dX11_puppet_4 : decode cX11_puppet 4 = .ok (.getfield 75, 3) := by decide +kernel
theorem dX11_puppet_7 : decode cX11_puppet 7 = .ok (.bipush 8, 2) := by decide +kernel
theorem dX11_puppet_9 : decode cX11_puppet 9 = .ok (.if_icmp .lt 5, 3) := by decide +kernel
set_option maxRecDepth 20000 in
theorem ggX11_puppet_X5_init : GoodIn wsX11_puppet wsX5_init := goodIn_r _ [7, 8, 9, 10, 11, 12, 13, 14, 15, 16, 17, 18, 44, 45, 46, 47, 48, 49, 50, 51, 52, 53, 54] (by decide +kernel) (by decide +kernel)
set_option maxRecDepth 20000 in
theorem gX11_puppet_X5_init_n80 : GoodIn wsX11_puppet (wsX5_init) := ggX11_puppet_X5_init
set_option maxRecDepth 20000 in
theorem ggX11_puppet_X8_addPuppet : GoodIn wsX11_puppet wsX8_addPuppet := goodIn_r _ [23, 24, 25, 37, 38, 39, 40, 41, 42, 43] (by decide +kernel) (by decide +kernel)
set_option maxRecDepth 20000 in
theorem gX11_puppet_X8_addPuppet : GoodIn wsX11_puppet (wsV RX11 81 RX8 yX8_addPuppet wsX8_addPuppet) := goodIn_app (goodIn_of _ (by decide +kernel)) ggX11_puppet_X8_addPuppet
set_option maxHeartbeats 4000000 in
set_option maxRecDepth 100000 in
theorem c_X11_puppet (l : Launch) (D : va_G) (cT : Nat → ClassId) (h0 : Nat) (x_studio : Nat) (x_script : Nat) (x_teller : Nat) (x_planner : Nat) (x_plan : Nat) (x_drifts : Nat) (x_floor : Nat) (x_trial : Nat) (x_tape : Nat) (s_puppets : Nat) (s_shots : Nat) (s_sounds : Nat) (s_rates : Nat) (s_dresses : Nat) (sz : Nat)  : Met l yX11_puppet wsX11_puppet ({ frames := 11, cells := 8, slots := 95, locals := 340 }) (va_Pc [.ref h0] (PW D cT [(h0, .inr (11, [.ref x_studio, .ref x_script, .ref x_teller, .ref x_planner, .ref x_plan, .ref x_drifts, .ref x_floor, .ref x_trial, .ref x_tape, .int 0, .int (-1)])), (x_studio, .inr (8, [.ref s_puppets, .int 0, .ref s_shots, .int 0, .ref s_sounds, .ref s_rates, .ref s_dresses])), (s_puppets, .inl (cT 4, 8, .inr (.inr (.inr (.inr (fun _ => none))))))] sz)) (va_Qi (fun (r : Int32) (_ : Unit) => r = 0) (fun (_ : Unit) (_ : State) => True) (va_A [(h0, .inr (11, [.ref x_studio, .ref x_script, .ref x_teller, .ref x_planner, .ref x_plan, .ref x_drifts, .ref x_floor, .ref x_trial, .ref x_tape, .int 0, .int (-1)])), (x_studio, .inr (8, [.ref s_puppets, .int 0, .ref s_shots, .int 0, .ref s_sounds, .ref s_rates, .ref s_dresses])), (s_puppets, .inl (cT 4, 8, .inr (.inr (.inr (.inr (fun _ => none))))))] sz)) 8 95 (va_A [(h0, .inr (11, [.ref x_studio, .ref x_script, .ref x_teller, .ref x_planner, .ref x_plan, .ref x_drifts, .ref x_floor, .ref x_trial, .ref x_tape, .int 0, .int (-1)])), (x_studio, .inr (8, [.ref s_puppets, .int 0, .ref s_shots, .int 0, .ref s_sounds, .ref s_rates, .ref s_dresses])), (s_puppets, .inl (cT 4, 8, .inr (.inr (.inr (.inr (fun _ => none))))))] sz) := by
  refine Met.ofW (cc := cX11_puppet) (maxL := 1) (ret := (some .int)) (by decide) rfl ?_
  intro p e s m args below meth c s₁ B hml hv
  obtain ⟨rfl, hsz, hP, hK, hD0, hG⟩ := hv
  have hx := B.exec
  have hb := B.bytes
  have hr := B.returns
  have hts := atoms_spec (ws := wsX11_puppet) B.pre
  have hown : s.vm.findClass RX11 = some m.cls := findClass_of_methodNamed B.named
  have hlocks := B.notSynchronized
  subst hsz
  have hD := hD0.self (sz := s.heap.size)
  generalize hAe : va_A [(h0, .inr (11, [.ref x_studio, .ref x_script, .ref x_teller, .ref x_planner, .ref x_plan, .ref x_drifts, .ref x_floor, .ref x_trial, .ref x_tape, .int 0, .int (-1)])), (x_studio, .inr (8, [.ref s_puppets, .int 0, .ref s_shots, .int 0, .ref s_sounds, .ref s_rates, .ref s_dresses])), (s_puppets, .inl (cT 4, 8, .inr (.inr (.inr (.inr (fun _ => none))))))] s.heap.size = A at hD ⊢
  have hA : ∀ q : Nat, s.heap.size ≤ q → A q := fun q h => by rw [← hAe]; exact Or.inr h
  have hS : va_S A s.heap s.heap [] := va_S.rf
  have hP : va_P D vwCl [(h0, .inr (11, [.ref x_studio, .ref x_script, .ref x_teller, .ref x_planner, .ref x_plan, .ref x_drifts, .ref x_floor, .ref x_trial, .ref x_tape, .int 0, .int (-1)])), (x_studio, .inr (8, [.ref s_puppets, .int 0, .ref s_shots, .int 0, .ref s_sounds, .ref s_rates, .ref s_dresses])), (s_puppets, .inl (cT 4, 8, .inr (.inr (.inr (.inr (fun _ => none))))))] s.heap := hP
  have hl := lv_entry ([.ref h0]) (n := 1) (Nat.le_of_ble_eq_true rfl)
  rw [lg_entry_eq]
  generalize (lg_sl ([.ref h0]) ++ List.replicate (1 - (lg_sl ([.ref h0])).length) Slot.unset).toArray = ls at hl ⊢
  have hl : lv_has ls 1 [(0, .ref h0)] := hl
  refine lv_aload_n hx hb dX11_puppet_0 rfl (lv_at hl 0 rfl) ?_
  refine va_get (D := D) (ci := 11) (v := .ref x_studio) (C := RX11) (T := TX11) (N := 11) hx hb hts (fun _ h => List.mem_cons_of_mem _ (List.mem_append_left _ (List.mem_append_left _ (List.mem_append_right _ h)))) hown hK hP 0 rfl rfl 0 (by decide) (hts (.fieldLink RX11 10 "PuppetFilm" "studio" "LPuppetFilm$Studio;") (List.mem_of_getElem? (i := 1) (by decide +kernel))) (fun _ h9 => h9) rfl dX11_puppet_1 ?_
  refine va_get (D := D) (ci := 8) (v := .int 0) (C := RX8) (T := TX8) (N := 7) hx hb hts (fun _ h => List.mem_cons_of_mem _ (List.mem_append_left _ (List.mem_append_right _ h))) hown hK hP 1 rfl rfl 1 (by decide) (hts (.fieldLink RX11 75 "PuppetFilm$Studio" "puppetCount" "I") (List.mem_of_getElem? (i := 2) (by decide +kernel))) (fun _ h9 => h9) rfl dX11_puppet_4 ?_
  refine lv_bipush (v := 8) hx hb dX11_puppet_7 (by decide) ?_
  refine lv_icmp_lt (tgt := 14) hx hb dX11_puppet_9 (by decide) (fun _ => ?_) (fun c9 => absurd c9 (by decide))
  refine lv_aload_n hx hb dX11_puppet_14 rfl (lv_at hl 0 rfl) ?_
  refine va_get (D := D) (ci := 11) (v := .ref x_studio) (C := RX11) (T := TX11) (N := 11) hx hb hts (fun _ h => List.mem_cons_of_mem _ (List.mem_append_left _ (List.mem_append_left _ (List.mem_append_right _ h)))) hown hK hP 0 rfl rfl 0 (by decide) (hts (.fieldLink RX11 10 "PuppetFilm" "studio" "LPuppetFilm$Studio;") (List.mem_of_getElem? (i := 1) (by decide +kernel))) (fun _ h9 => h9) rfl dX11_puppet_15 ?_
  refine va_new (ci := 5) (fs := [.int 0, .null, .null, .null, .null, .null, .null, .null, .int 0, .int 0, .int 0]) (C := RX5) (T := TX5) (N := 11) hx hb hts (fun _ h => List.mem_cons_of_mem _ (List.mem_append_right _ h)) tyX5 tyX5_ok hown (hts (.classLink RX11 78 RX5) (List.mem_of_getElem? (i := 3) (by decide +kernel))) (hts (.instantiable RX5 11) (List.mem_of_getElem? (i := 4) (by decide +kernel))) (hts (.initialized RX5) (List.mem_of_getElem? (i := 5) (by decide +kernel))) hK hP hD hS hA rfl (fun j hj => match j, hj with | 0, _ => rfl | 1, _ => rfl | 2, _ => rfl | 3, _ => rfl | 4, _ => rfl | 5, _ => rfl | 6, _ => rfl | 7, _ => rfl | 8, _ => rfl | 9, _ => rfl | 10, _ => rfl | k + 11, h => absurd h (by omega)) (Nat.le_of_ble_eq_true rfl) (Nat.le_of_ble_eq_true rfl) dX11_puppet_18 (fun q_1 H hP hD hS => ?_)
  have hP : va_P D vwCl [(h0, .inr (11, [.ref x_studio, .ref x_script, .ref x_teller, .ref x_planner, .ref x_plan, .ref x_drifts, .ref x_floor, .ref x_trial, .ref x_tape, .int 0, .int (-1)])), (x_studio, .inr (8, [.ref s_puppets, .int 0, .ref s_shots, .int 0, .ref s_sounds, .ref s_rates, .ref s_dresses])), (s_puppets, .inl (cT 4, 8, .inr (.inr (.inr (.inr (fun _ => none)))))), (q_1, .inr (5, [.int 0, .null, .null, .null, .null, .null, .null, .null, .int 0, .int 0, .int 0]))] _ := hP
  have hD : va_D A [(h0, .inr (11, [.ref x_studio, .ref x_script, .ref x_teller, .ref x_planner, .ref x_plan, .ref x_drifts, .ref x_floor, .ref x_trial, .ref x_tape, .int 0, .int (-1)])), (x_studio, .inr (8, [.ref s_puppets, .int 0, .ref s_shots, .int 0, .ref s_sounds, .ref s_rates, .ref s_dresses])), (s_puppets, .inl (cT 4, 8, .inr (.inr (.inr (.inr (fun _ => none)))))), (q_1, .inr (5, [.int 0, .null, .null, .null, .null, .null, .null, .null, .int 0, .int 0, .int 0]))] := hD
  refine W.widen (k := 1) (n := 11) (Nat.le_of_ble_eq_true rfl) (Nat.le_of_ble_eq_true rfl) ?_
  refine lv_dup hx hb dX11_puppet_21 rfl ?_
  have hF := va_free (wc := [(q_1, .inr (5, [.int 0, .null, .null, .null, .null, .null, .null, .null, .int 0, .int 0, .int 0]))]) hD hS hA [3] rfl
  refine va_callv (va_runIN (As := []) (rest := [.ref q_1, .ref x_studio]) ⟨hx, hb, hml, hown, hts⟩ (c_X5_init l D cT q_1 _ ) ⟨va_cnB 0 hts gX11_puppet_X5_init_n80 rfl rfl rfl (hG.1 (RX11, 80, yX5_init) (by decide +kernel)) (hts (.initialized RX5) (List.mem_of_getElem? (i := 5) (by decide +kernel))) (by decide +kernel) ⟨Nat.le_of_ble_eq_true rfl, Nat.le_of_ble_eq_true rfl⟩, rfl, (hts (.instanceMethod yX5_init) (List.mem_of_getElem? (i := 6) (by decide +kernel)))⟩ (ps_w hP hD hK hG [3] rfl rfl rfl) rfl rfl hl.1 rfl (lv_room (Nat.le_of_ble_eq_true rfl)) dX11_puppet_22 ⟨Nat.le_of_ble_eq_true rfl, Nat.le_of_ble_eq_true rfl⟩) hS (fun q _ h => hF q h) hF (fun uu9 tt9 H locs ht hvm wr_2 hB hz1 hk1 hS => ?_)
  obtain ⟨a_parents_3, a_lows_4, a_highs_5, a_lengths_6, a_masses_7, a_turns_8, a_ends_9, hP1, hD1⟩ := hB
  rw [ht] at hP1
  obtain ⟨hP, hD⟩ := va_join (wr := [(h0, .inr (11, [.ref x_studio, .ref x_script, .ref x_teller, .ref x_planner, .ref x_plan, .ref x_drifts, .ref x_floor, .ref x_trial, .ref x_tape, .int 0, .int (-1)])), (x_studio, .inr (8, [.ref s_puppets, .int 0, .ref s_shots, .int 0, .ref s_sounds, .ref s_rates, .ref s_dresses])), (s_puppets, .inl (cT 4, 8, .inr (.inr (.inr (.inr (fun _ => none))))))]) (w1 := [(q_1, .inr (5, [.int 0, .ref a_parents_3, .ref a_lows_4, .ref a_highs_5, .ref a_lengths_6, .ref a_masses_7, .ref a_turns_8, .ref a_ends_9, .int 0, .int 0, .int 0]))]) hP hD [3] [0, 1, 2] rfl rfl (by decide) (by decide) hk1 hF hP1 hD1
  have hP : va_P D vwCl [(h0, .inr (11, [.ref x_studio, .ref x_script, .ref x_teller, .ref x_planner, .ref x_plan, .ref x_drifts, .ref x_floor, .ref x_trial, .ref x_tape, .int 0, .int (-1)])), (x_studio, .inr (8, [.ref s_puppets, .int 0, .ref s_shots, .int 0, .ref s_sounds, .ref s_rates, .ref s_dresses])), (s_puppets, .inl (cT 4, 8, .inr (.inr (.inr (.inr (fun _ => none)))))), (q_1, .inr (5, [.int 0, .ref a_parents_3, .ref a_lows_4, .ref a_highs_5, .ref a_lengths_6, .ref a_masses_7, .ref a_turns_8, .ref a_ends_9, .int 0, .int 0, .int 0]))] _ := hP
  have hD : va_D A [(h0, .inr (11, [.ref x_studio, .ref x_script, .ref x_teller, .ref x_planner, .ref x_plan, .ref x_drifts, .ref x_floor, .ref x_trial, .ref x_tape, .int 0, .int (-1)])), (x_studio, .inr (8, [.ref s_puppets, .int 0, .ref s_shots, .int 0, .ref s_sounds, .ref s_rates, .ref s_dresses])), (s_puppets, .inl (cT 4, 8, .inr (.inr (.inr (.inr (fun _ => none)))))), (q_1, .inr (5, [.int 0, .ref a_parents_3, .ref a_lows_4, .ref a_highs_5, .ref a_lengths_6, .ref a_masses_7, .ref a_turns_8, .ref a_ends_9, .int 0, .int 0, .int 0]))] := hD
  refine W.widen (k := 8) (n := 95) (Nat.le_of_ble_eq_true rfl) (Nat.le_of_ble_eq_true rfl) ?_
  have hF := va_free (wc := [(x_studio, .inr (8, [.ref s_puppets, .int 0, .ref s_shots, .int 0, .ref s_sounds, .ref s_rates, .ref s_dresses])), (s_puppets, .inl (cT 4, 8, .inr (.inr (.inr (.inr (fun _ => none)))))), (q_1, .inr (5, [.int 0, .ref a_parents_3, .ref a_lows_4, .ref a_highs_5, .ref a_lengths_6, .ref a_masses_7, .ref a_turns_8, .ref a_ends_9, .int 0, .int 0, .int 0]))]) hD hS hA [1, 2, 3] rfl
  refine va_calli (va_runV (As := [.ref q_1]) (rest := []) ⟨hx, hb, hml, hown, hts⟩ (c_X8_addPuppet_r l D cT x_studio q_1 s_puppets s_shots s_sounds s_rates s_dresses a_parents_3 a_lows_4 a_highs_5 a_lengths_6 a_masses_7 a_turns_8 a_ends_9 _ ) (cwV 1 hts gX11_puppet_X8_addPuppet rfl rfl rfl (by decide +kernel) ⟨Nat.le_of_ble_eq_true rfl, Nat.le_of_ble_eq_true rfl⟩) (pv_w hP hD hK hG [1, 2, 3] rfl rfl rfl 1 rfl rfl) rfl rfl hl.1 rfl (lv_room (Nat.le_of_ble_eq_true rfl)) dX11_puppet_25 ⟨Nat.le_of_ble_eq_true rfl, Nat.le_of_ble_eq_true rfl⟩) hS (fun q _ h => hF q h) hF (fun r_10 uu9 tt9 H locs ht hvm wr_10 hB hz1 hk1 hS => ?_)
  obtain ⟨hP, hD⟩ := va_join (wr := [(h0, .inr (11, [.ref x_studio, .ref x_script, .ref x_teller, .ref x_planner, .ref x_plan, .ref x_drifts, .ref x_floor, .ref x_trial, .ref x_tape, .int 0, .int (-1)]))]) (w1 := []) hP hD [1, 2, 3] [0] rfl rfl (by decide) (by decide) hk1 hF vp_nil vd_nil
  have hP : va_P D vwCl [(h0, .inr (11, [.ref x_studio, .ref x_script, .ref x_teller, .ref x_planner, .ref x_plan, .ref x_drifts, .ref x_floor, .ref x_trial, .ref x_tape, .int 0, .int (-1)]))] _ := hP
  have hD : va_D A [(h0, .inr (11, [.ref x_studio, .ref x_script, .ref x_teller, .ref x_planner, .ref x_plan, .ref x_drifts, .ref x_floor, .ref x_trial, .ref x_tape, .int 0, .int (-1)]))] := hD
  obtain rfl : r_10 = 0 := wr_10.trans (rfl)
  exact W.iret (v := 0) hx hb hr (fun t ht hW => ⟨⟨0, (), rfl, rfl, trivial⟩, hS.F ht⟩) hS.2.2 dX11_puppet_28
theorem dX11_feedNumber_0 : decode cX11_feedNumber 0 = .ok (.bipush 24, 2) := by decide +kernel
theorem dX11_feedNumber_11 : decode cX11_feedNumber 11 = .ok (.aload_n 0, 1) := by decide +kernel
theorem dX11_feedNumber_12 : decode cX11_feedNumber 12 = .ok (.getfield 67, 3) := by decide +kernel
theorem dX11_feedNumber_15 : decode cX11_feedNumber 15 = .ok (.arraylength, 1) := by decide +kernel
theorem dX11_feedNumber_16 : decode cX11_feedNumber 16 = .ok (.if_icmp .ge 26, 3) := by decide +kernel
theorem dX11_feedNumber_19 : decode cX11_feedNumber 19 = .ok (.aload_n 0, 1) := by decide +kernel
theorem dX11_feedNumber_2 : decode cX11_feedNumber 2 = .ok (.istore_n 2, 1) := by decide +kernel
theorem dX11_feedNumber_20 : decode cX11_feedNumber 20 = .ok (.getfield 67, 3) := by decide +kernel
theorem dX11_feedNumber_23 : decode cX11_feedNumber 23 = .ok (.aload_n 0, 1) := by decide +kernel
theorem dX11_feedNumber_24 : decode cX11_feedNumber 24 = .ok (.getfield 125, 3) := by decide +kernel
theorem dX11_feedNumber_27 : decode cX11_feedNumber 27 = .ok (.iload_n 1, 1) := by decide +kernel
theorem dX11_feedNumber_28 : decode cX11_feedNumber 28 = .ok (.iload_n 2, 1) := by decide +kernel
theorem dX11_feedNumber_29 : decode cX11_feedNumber 29 = .ok (.ishr, 1) := by decide +kernel
theorem dX11_feedNumber_3 : decode cX11_feedNumber 3 = .ok (.iload_n 2, 1) := by decide +kernel
theorem dX11_feedNumber_30 : decode cX11_feedNumber 30 = .ok (.i2b, 1) := by decide +kernel
theorem dX11_feedNumber_31 : decode cX11_feedNumber 31 = .ok (.bastore, 1) := by decide +kernel
theorem dX11_feedNumber_32 : decode cX11_feedNumber 32 = .ok (.aload_n 0, 1) := by decide +kernel
theorem dX11_feedNumber_33 : decode cX11_feedNumber 33 = .ok (.dup, 1) := by decide +kernel
theorem dX11_feedNumber_34 : decode cX11_feedNumber 34 = .ok (.getfield 125, 3) := by decide +kernel
theorem dX11_feedNumber_37 : decode cX11_feedNumber 37 = .ok (.iconst 1, 1) := by decide +kernel
theorem dX11_feedNumber_38 : decode cX11_feedNumber 38 = .ok (.iadd, 1) := by decide +kernel
theorem dX11_feedNumber_39 : decode cX11_feedNumber 39 = .ok (.putfield 125, 3) := by decide +kernel
theorem dX11_feedNumber_4 : decode cX11_feedNumber 4 = .ok (.ifCond .lt 44, 3) := by decide +kernel
theorem dX11_feedNumber_42 : decode cX11_feedNumber 42 = .ok (.iinc 2 (-8), 3) := by decide +kernel
theorem dX11_feedNumber_45 : decode cX11_feedNumber 45 = .ok (.goto (-42), 3) := by decide +kernel
theorem dX11_feedNumber_48 : decode cX11_feedNumber 48 = .ok (.return_, 1) := by decide +kernel
theorem dX11_feedNumber_7 : decode cX11_feedNumber 7 = .ok (.aload_n 0, 1) := by decide +kernel
theorem dX11_feedNumber_8 : decode cX11_feedNumber 8 = .ok (.getfield 125, 3) := by decide +kernel
set_option maxHeartbeats 4000000 in
set_option maxRecDepth 100000 in
theorem c_X11_feedNumber_0 (l : Launch) (D : va_G) (cT : Nat → ClassId) (h0 : Nat) (p0 : Int32) (x_studio : Nat) (x_script : Nat) (x_teller : Nat) (x_planner : Nat) (x_plan : Nat) (x_drifts : Nat) (x_floor : Nat) (x_trial : Nat) (x_tape : Nat) (fta : Nat → Int32) (sz : Nat)  : Met l yX11_feedNumber wsX11_feedNumber ({ frames := 8, cells := 0, slots := 0, locals := 160 }) (va_Pc [.ref h0, .int p0] (PW D cT [(h0, .inr (11, [.ref x_studio, .ref x_script, .ref x_teller, .ref x_planner, .ref x_plan, .ref x_drifts, .ref x_floor, .ref x_trial, .ref x_tape, .int 0, .int (-1)])), (x_tape, .inl (cT 1, 400, .inl fta))] sz)) (va_Qv (fun _ : Unit => True) (fun (_ : Unit) (t : State) => ∃ (fta2 : Nat → Int32), va_P D vwCl [(h0, .inr (11, [.ref x_studio, .ref x_script, .ref x_teller, .ref x_planner, .ref x_plan, .ref x_drifts, .ref x_floor, .ref x_trial, .ref x_tape, .int 4, .int (-1)])), (x_tape, .inl (cT 1, 400, .inl fta2))] t.heap ∧ va_D (va_A [(h0, .inr (11, [.ref x_studio, .ref x_script, .ref x_teller, .ref x_planner, .ref x_plan, .ref x_drifts, .ref x_floor, .ref x_trial, .ref x_tape, .int 0, .int (-1)])), (x_tape, .inl (cT 1, 400, .inl fta))] sz) [(h0, .inr (11, [.ref x_studio, .ref x_script, .ref x_teller, .ref x_planner, .ref x_plan, .ref x_drifts, .ref x_floor, .ref x_trial, .ref x_tape, .int 4, .int (-1)])), (x_tape, .inl (cT 1, 400, .inl fta2))]) (va_A [(h0, .inr (11, [.ref x_studio, .ref x_script, .ref x_teller, .ref x_planner, .ref x_plan, .ref x_drifts, .ref x_floor, .ref x_trial, .ref x_tape, .int 0, .int (-1)])), (x_tape, .inl (cT 1, 400, .inl fta))] sz)) 0 0 (va_A [(h0, .inr (11, [.ref x_studio, .ref x_script, .ref x_teller, .ref x_planner, .ref x_plan, .ref x_drifts, .ref x_floor, .ref x_trial, .ref x_tape, .int 0, .int (-1)])), (x_tape, .inl (cT 1, 400, .inl fta))] sz) := by
  refine Met.ofW (cc := cX11_feedNumber) (maxL := 3) (ret := none) (by decide) rfl ?_
  intro p e s m args below meth c s₁ B hml hv
  obtain ⟨rfl, hsz, hP, hK, hD0, hG⟩ := hv
  have hx := B.exec
  have hb := B.bytes
  have hr := B.returns
  have hts := atoms_spec (ws := wsX11_feedNumber) B.pre
  have hown : s.vm.findClass RX11 = some m.cls := findClass_of_methodNamed B.named
  have hlocks := B.notSynchronized
  subst hsz
  have hD := hD0.self (sz := s.heap.size)
  generalize hAe : va_A [(h0, .inr (11, [.ref x_studio, .ref x_script, .ref x_teller, .ref x_planner, .ref x_plan, .ref x_drifts, .ref x_floor, .ref x_trial, .ref x_tape, .int 0, .int (-1)])), (x_tape, .inl (cT 1, 400, .inl fta))] s.heap.size = A at hD ⊢
  have hA : ∀ q : Nat, s.heap.size ≤ q → A q := fun q h => by rw [← hAe]; exact Or.inr h
  have hS : va_S A s.heap s.heap [] := va_S.rf
  have hP : va_P D vwCl [(h0, .inr (11, [.ref x_studio, .ref x_script, .ref x_teller, .ref x_planner, .ref x_plan, .ref x_drifts, .ref x_floor, .ref x_trial, .ref x_tape, .int 0, .int (-1)])), (x_tape, .inl (cT 1, 400, .inl fta))] s.heap := hP
  have hl := lv_entry ([.ref h0, .int p0]) (n := 3) (Nat.le_of_ble_eq_true rfl)
  rw [lg_entry_eq]
  generalize (lg_sl ([.ref h0, .int p0]) ++ List.replicate (3 - (lg_sl ([.ref h0, .int p0])).length) Slot.unset).toArray = ls at hl ⊢
  have hl : lv_has ls 3 [(0, .ref h0), (1, .int p0)] := hl
  refine lv_bipush (v := 24) hx hb dX11_feedNumber_0 (by decide) ?_
  refine lv_istore_n (lv' := [(2, .int 24), (0, .ref h0), (1, .int p0)]) hx hb dX11_feedNumber_2 rfl hl (by decide) rfl (fun ls hl => ?_)
  refine lv_iload_n hx hb dX11_feedNumber_3 rfl (lv_at hl 0 rfl) ?_
  refine lv_if_lt (tgt := 48) hx hb dX11_feedNumber_4 (by decide) (fun c9 => absurd c9 (by decide)) (fun _ => ?_)
  refine lv_aload_n hx hb dX11_feedNumber_7 rfl (lv_at hl 1 rfl) ?_
  refine va_get (D := D) (ci := 11) (v := .int 0) (C := RX11) (T := TX11) (N := 11) hx hb hts (fun _ h => List.mem_cons_of_mem _ (List.mem_append_right _ h)) hown hK hP 0 rfl rfl 9 (by decide) (hts (.fieldLink RX11 125 "PuppetFilm" "taped" "I") (List.mem_of_getElem? (i := 1) (by decide +kernel))) (fun _ h9 => h9) rfl dX11_feedNumber_8 ?_
  refine lv_aload_n hx hb dX11_feedNumber_11 rfl (lv_at hl 1 rfl) ?_
  refine va_get (D := D) (ci := 11) (v := .ref x_tape) (C := RX11) (T := TX11) (N := 11) hx hb hts (fun _ h => List.mem_cons_of_mem _ (List.mem_append_right _ h)) hown hK hP 0 rfl rfl 8 (by decide) (hts (.fieldLink RX11 67 "PuppetFilm" "tape" "[B") (List.mem_of_getElem? (i := 2) (by decide +kernel))) (fun _ h9 => h9) rfl dX11_feedNumber_12 ?_
  refine va_alen (v := 400) hx hb hK hP 1 1 rfl rfl rfl dX11_feedNumber_15 ?_
  refine lv_icmp_ge (tgt := 42) hx hb dX11_feedNumber_16 (by decide) (fun c9 => absurd c9 (by decide)) (fun _ => ?_)
  refine lv_aload_n hx hb dX11_feedNumber_19 rfl (lv_at hl 1 rfl) ?_
  refine va_get (D := D) (ci := 11) (v := .ref x_tape) (C := RX11) (T := TX11) (N := 11) hx hb hts (fun _ h => List.mem_cons_of_mem _ (List.mem_append_right _ h)) hown hK hP 0 rfl rfl 8 (by decide) (hts (.fieldLink RX11 67 "PuppetFilm" "tape" "[B") (List.mem_of_getElem? (i := 2) (by decide +kernel))) (fun _ h9 => h9) rfl dX11_feedNumber_20 ?_
  refine lv_aload_n hx hb dX11_feedNumber_23 rfl (lv_at hl 1 rfl) ?_
  refine va_get (D := D) (ci := 11) (v := .int 0) (C := RX11) (T := TX11) (N := 11) hx hb hts (fun _ h => List.mem_cons_of_mem _ (List.mem_append_right _ h)) hown hK hP 0 rfl rfl 9 (by decide) (hts (.fieldLink RX11 125 "PuppetFilm" "taped" "I") (List.mem_of_getElem? (i := 1) (by decide +kernel))) (fun _ h9 => h9) rfl dX11_feedNumber_24 ?_
  refine lv_iload_n hx hb dX11_feedNumber_27 rfl (lv_at hl 2 rfl) ?_
  refine lv_iload_n hx hb dX11_feedNumber_28 rfl (lv_at hl 0 rfl) ?_
  refine lv_ishr hx hb dX11_feedNumber_29 ?_
  refine lv_topi (fun x_1 ex_1 => ?_)
  obtain ⟨x_2, ex_2⟩ : ∃ y : Int32, y = (x_1).toInt8.toInt32 := ⟨_, rfl⟩
  refine lv_i2b (v := x_2) hx hb dX11_feedNumber_30 ex_2.symm ?_
  refine va_bast hx hb hK hP hD hS 1 1 rfl rfl (by unfold vp_in; decide) dX11_feedNumber_31 (fun H locs hP hD hS => ?_)
  generalize upd fta (Int32.toNatClampNeg 0) (vp_nar .byte x_2) = f_3 at hP hD
  have hP : va_P D vwCl [(h0, .inr (11, [.ref x_studio, .ref x_script, .ref x_teller, .ref x_planner, .ref x_plan, .ref x_drifts, .ref x_floor, .ref x_trial, .ref x_tape, .int 0, .int (-1)])), (x_tape, .inl (cT 1, 400, .inl f_3))] _ := hP
  have hD : va_D A [(h0, .inr (11, [.ref x_studio, .ref x_script, .ref x_teller, .ref x_planner, .ref x_plan, .ref x_drifts, .ref x_floor, .ref x_trial, .ref x_tape, .int 0, .int (-1)])), (x_tape, .inl (cT 1, 400, .inl f_3))] := hD
  refine lv_aload_n hx hb dX11_feedNumber_32 rfl (lv_at hl 1 rfl) ?_
  refine lv_dup hx hb dX11_feedNumber_33 rfl ?_
  refine va_get (D := D) (ci := 11) (v := .int 0) (C := RX11) (T := TX11) (N := 11) hx hb hts (fun _ h => List.mem_cons_of_mem _ (List.mem_append_right _ h)) hown hK hP 0 rfl rfl 9 (by decide) (hts (.fieldLink RX11 125 "PuppetFilm" "taped" "I") (List.mem_of_getElem? (i := 1) (by decide +kernel))) (fun _ h9 => h9) rfl dX11_feedNumber_34 ?_
  refine lv_iconst (v := 1) hx hb dX11_feedNumber_37 (by decide) ?_
  refine lv_iadd hx hb dX11_feedNumber_38 ?_
  refine lv_topi (fun z_4 ez_4 => ?_)
  obtain rfl : z_4 = 1 := ez_4.trans (by decide)
  refine va_put (D := D) (ci := 11) (v := .int 1) (ty := .int) (C := RX11) (T := TX11) (N := 11) hx hb hts (fun _ h => List.mem_cons_of_mem _ (List.mem_append_right _ h)) tyX11 tyX11_ok nmX11 hown hK hP hD hS 0 rfl rfl 9 (by decide) (hts (.fieldLink RX11 125 "PuppetFilm" "taped" "I") (List.mem_of_getElem? (i := 1) (by decide +kernel))) (fun _ h9 => h9) rfl (by decide +kernel) rfl rfl (Nat.le_of_ble_eq_true rfl) dX11_feedNumber_39 (fun H locs hP hD hS => ?_)
  have hP : va_P D vwCl [(h0, .inr (11, [.ref x_studio, .ref x_script, .ref x_teller, .ref x_planner, .ref x_plan, .ref x_drifts, .ref x_floor, .ref x_trial, .ref x_tape, .int 1, .int (-1)])), (x_tape, .inl (cT 1, 400, .inl f_3))] _ := hP
  have hD : va_D A [(h0, .inr (11, [.ref x_studio, .ref x_script, .ref x_teller, .ref x_planner, .ref x_plan, .ref x_drifts, .ref x_floor, .ref x_trial, .ref x_tape, .int 1, .int (-1)])), (x_tape, .inl (cT 1, 400, .inl f_3))] := hD
  refine lv_iinc (v := 16) (lv' := [(2, .int 16), (0, .ref h0), (1, .int p0)]) hx hb dX11_feedNumber_42 hl (k := 0) rfl (by decide) (by decide) rfl (fun ls hl => ?_)
  refine lv_goto (tgt := 3) hx hb dX11_feedNumber_45 (by decide) ?_
  refine lv_iload_n hx hb dX11_feedNumber_3 rfl (lv_at hl 0 rfl) ?_
  refine lv_if_lt (tgt := 48) hx hb dX11_feedNumber_4 (by decide) (fun c9 => absurd c9 (by decide)) (fun _ => ?_)
  refine lv_aload_n hx hb dX11_feedNumber_7 rfl (lv_at hl 1 rfl) ?_
  refine va_get (D := D) (ci := 11) (v := .int 1) (C := RX11) (T := TX11) (N := 11) hx hb hts (fun _ h => List.mem_cons_of_mem _ (List.mem_append_right _ h)) hown hK hP 0 rfl rfl 9 (by decide) (hts (.fieldLink RX11 125 "PuppetFilm" "taped" "I") (List.mem_of_getElem? (i := 1) (by decide +kernel))) (fun _ h9 => h9) rfl dX11_feedNumber_8 ?_
  refine lv_aload_n hx hb dX11_feedNumber_11 rfl (lv_at hl 1 rfl) ?_
  refine va_get (D := D) (ci := 11) (v := .ref x_tape) (C := RX11) (T := TX11) (N := 11) hx hb hts (fun _ h => List.mem_cons_of_mem _ (List.mem_append_right _ h)) hown hK hP 0 rfl rfl 8 (by decide) (hts (.fieldLink RX11 67 "PuppetFilm" "tape" "[B") (List.mem_of_getElem? (i := 2) (by decide +kernel))) (fun _ h9 => h9) rfl dX11_feedNumber_12 ?_
  refine va_alen (v := 400) hx hb hK hP 1 1 rfl rfl rfl dX11_feedNumber_15 ?_
  refine lv_icmp_ge (tgt := 42) hx hb dX11_feedNumber_16 (by decide) (fun c9 => absurd c9 (by decide)) (fun _ => ?_)
  refine lv_aload_n hx hb dX11_feedNumber_19 rfl (lv_at hl 1 rfl) ?_
  refine va_get (D := D) (ci := 11) (v := .ref x_tape) (C := RX11) (T := TX11) (N := 11) hx hb hts (fun _ h => List.mem_cons_of_mem _ (List.mem_append_right _ h)) hown hK hP 0 rfl rfl 8 (by decide) (hts (.fieldLink RX11 67 "PuppetFilm" "tape" "[B") (List.mem_of_getElem? (i := 2) (by decide +kernel))) (fun _ h9 => h9) rfl dX11_feedNumber_20 ?_
  refine lv_aload_n hx hb dX11_feedNumber_23 rfl (lv_at hl 1 rfl) ?_
  refine va_get (D := D) (ci := 11) (v := .int 1) (C := RX11) (T := TX11) (N := 11) hx hb hts (fun _ h => List.mem_cons_of_mem _ (List.mem_append_right _ h)) hown hK hP 0 rfl rfl 9 (by decide) (hts (.fieldLink RX11 125 "PuppetFilm" "taped" "I") (List.mem_of_getElem? (i := 1) (by decide +kernel))) (fun _ h9 => h9) rfl dX11_feedNumber_24 ?_
  refine lv_iload_n hx hb dX11_feedNumber_27 rfl (lv_at hl 2 rfl) ?_
  refine lv_iload_n hx hb dX11_feedNumber_28 rfl (lv_at hl 0 rfl) ?_
  refine lv_ishr hx hb dX11_feedNumber_29 ?_
  refine lv_topi (fun x_5 ex_5 => ?_)
  obtain ⟨x_6, ex_6⟩ : ∃ y : Int32, y = (x_5).toInt8.toInt32 := ⟨_, rfl⟩
  refine lv_i2b (v := x_6) hx hb dX11_feedNumber_30 ex_6.symm ?_
  refine va_bast hx hb hK hP hD hS 1 1 rfl rfl (by unfold vp_in; decide) dX11_feedNumber_31 (fun H locs hP hD hS => ?_)
  generalize upd f_3 (Int32.toNatClampNeg 1) (vp_nar .byte x_6) = f_7 at hP hD
  have hP : va_P D vwCl [(h0, .inr (11, [.ref x_studio, .ref x_script, .ref x_teller, .ref x_planner, .ref x_plan, .ref x_drifts, .ref x_floor, .ref x_trial, .ref x_tape, .int 1, .int (-1)])), (x_tape, .inl (cT 1, 400, .inl f_7))] _ := hP
  have hD : va_D A [(h0, .inr (11, [.ref x_studio, .ref x_script, .ref x_teller, .ref x_planner, .ref x_plan, .ref x_drifts, .ref x_floor, .ref x_trial, .ref x_tape, .int 1, .int (-1)])), (x_tape, .inl (cT 1, 400, .inl f_7))] := hD
  refine lv_aload_n hx hb dX11_feedNumber_32 rfl (lv_at hl 1 rfl) ?_
  refine lv_dup hx hb dX11_feedNumber_33 rfl ?_
  refine va_get (D := D) (ci := 11) (v := .int 1) (C := RX11) (T := TX11) (N := 11) hx hb hts (fun _ h => List.mem_cons_of_mem _ (List.mem_append_right _ h)) hown hK hP 0 rfl rfl 9 (by decide) (hts (.fieldLink RX11 125 "PuppetFilm" "taped" "I") (List.mem_of_getElem? (i := 1) (by decide +kernel))) (fun _ h9 => h9) rfl dX11_feedNumber_34 ?_
  refine lv_iconst (v := 1) hx hb dX11_feedNumber_37 (by decide) ?_
  refine lv_iadd hx hb dX11_feedNumber_38 ?_
  refine lv_topi (fun z_8 ez_8 => ?_)
  obtain rfl : z_8 = 2 := ez_8.trans (by decide)
  refine va_put (D := D) (ci := 11) (v := .int 2) (ty := .int) (C := RX11) (T := TX11) (N := 11) hx hb hts (fun _ h => List.mem_cons_of_mem _ (List.mem_append_right _ h)) tyX11 tyX11_ok nmX11 hown hK hP hD hS 0 rfl rfl 9 (by decide) (hts (.fieldLink RX11 125 "PuppetFilm" "taped" "I") (List.mem_of_getElem? (i := 1) (by decide +kernel))) (fun _ h9 => h9) rfl (by decide +kernel) rfl rfl (Nat.le_of_ble_eq_true rfl) dX11_feedNumber_39 (fun H locs hP hD hS => ?_)
  have hP : va_P D vwCl [(h0, .inr (11, [.ref x_studio, .ref x_script, .ref x_teller, .ref x_planner, .ref x_plan, .ref x_drifts, .ref x_floor, .ref x_trial, .ref x_tape, .int 2, .int (-1)])), (x_tape, .inl (cT 1, 400, .inl f_7))] _ := hP
  have hD : va_D A [(h0, .inr (11, [.ref x_studio, .ref x_script, .ref x_teller, .ref x_planner, .ref x_plan, .ref x_drifts, .ref x_floor, .ref x_trial, .ref x_tape, .int 2, .int (-1)])), (x_tape, .inl (cT 1, 400, .inl f_7))] := hD
  refine lv_iinc (v := 8) (lv' := [(2, .int 8), (0, .ref h0), (1, .int p0)]) hx hb dX11_feedNumber_42 hl (k := 0) rfl (by decide) (by decide) rfl (fun ls hl => ?_)
  refine lv_goto (tgt := 3) hx hb dX11_feedNumber_45 (by decide) ?_
  refine lv_iload_n hx hb dX11_feedNumber_3 rfl (lv_at hl 0 rfl) ?_
  refine lv_if_lt (tgt := 48) hx hb dX11_feedNumber_4 (by decide) (fun c9 => absurd c9 (by decide)) (fun _ => ?_)
  refine lv_aload_n hx hb dX11_feedNumber_7 rfl (lv_at hl 1 rfl) ?_
  refine va_get (D := D) (ci := 11) (v := .int 2) (C := RX11) (T := TX11) (N := 11) hx hb hts (fun _ h => List.mem_cons_of_mem _ (List.mem_append_right _ h)) hown hK hP 0 rfl rfl 9 (by decide) (hts (.fieldLink RX11 125 "PuppetFilm" "taped" "I") (List.mem_of_getElem? (i := 1) (by decide +kernel))) (fun _ h9 => h9) rfl dX11_feedNumber_8 ?_
  refine lv_aload_n hx hb dX11_feedNumber_11 rfl (lv_at hl 1 rfl) ?_
  refine va_get (D := D) (ci := 11) (v := .ref x_tape) (C := RX11) (T := TX11) (N := 11) hx hb hts (fun _ h => List.mem_cons_of_mem _ (List.mem_append_right _ h)) hown hK hP 0 rfl rfl 8 (by decide) (hts (.fieldLink RX11 67 "PuppetFilm" "tape" "[B") (List.mem_of_getElem? (i := 2) (by decide +kernel))) (fun _ h9 => h9) rfl dX11_feedNumber_12 ?_
  refine va_alen (v := 400) hx hb hK hP 1 1 rfl rfl rfl dX11_feedNumber_15 ?_
  refine lv_icmp_ge (tgt := 42) hx hb dX11_feedNumber_16 (by decide) (fun c9 => absurd c9 (by decide)) (fun _ => ?_)
  refine lv_aload_n hx hb dX11_feedNumber_19 rfl (lv_at hl 1 rfl) ?_
  refine va_get (D := D) (ci := 11) (v := .ref x_tape) (C := RX11) (T := TX11) (N := 11) hx hb hts (fun _ h => List.mem_cons_of_mem _ (List.mem_append_right _ h)) hown hK hP 0 rfl rfl 8 (by decide) (hts (.fieldLink RX11 67 "PuppetFilm" "tape" "[B") (List.mem_of_getElem? (i := 2) (by decide +kernel))) (fun _ h9 => h9) rfl dX11_feedNumber_20 ?_
  refine lv_aload_n hx hb dX11_feedNumber_23 rfl (lv_at hl 1 rfl) ?_
  refine va_get (D := D) (ci := 11) (v := .int 2) (C := RX11) (T := TX11) (N := 11) hx hb hts (fun _ h => List.mem_cons_of_mem _ (List.mem_append_right _ h)) hown hK hP 0 rfl rfl 9 (by decide) (hts (.fieldLink RX11 125 "PuppetFilm" "taped" "I") (List.mem_of_getElem? (i := 1) (by decide +kernel))) (fun _ h9 => h9) rfl dX11_feedNumber_24 ?_
  refine lv_iload_n hx hb dX11_feedNumber_27 rfl (lv_at hl 2 rfl) ?_
  refine lv_iload_n hx hb dX11_feedNumber_28 rfl (lv_at hl 0 rfl) ?_
  refine lv_ishr hx hb dX11_feedNumber_29 ?_
  refine lv_topi (fun x_9 ex_9 => ?_)
  obtain ⟨x_10, ex_10⟩ : ∃ y : Int32, y = (x_9).toInt8.toInt32 := ⟨_, rfl⟩
  refine lv_i2b (v := x_10) hx hb dX11_feedNumber_30 ex_10.symm ?_
  refine va_bast hx hb hK hP hD hS 1 1 rfl rfl (by unfold vp_in; decide) dX11_feedNumber_31 (fun H locs hP hD hS => ?_)
  generalize upd f_7 (Int32.toNatClampNeg 2) (vp_nar .byte x_10) = f_11 at hP hD
  have hP : va_P D vwCl [(h0, .inr (11, [.ref x_studio, .ref x_script, .ref x_teller, .ref x_planner, .ref x_plan, .ref x_drifts, .ref x_floor, .ref x_trial, .ref x_tape, .int 2, .int (-1)])), (x_tape, .inl (cT 1, 400, .inl f_11))] _ := hP
  have hD : va_D A [(h0, .inr (11, [.ref x_studio, .ref x_script, .ref x_teller, .ref x_planner, .ref x_plan, .ref x_drifts, .ref x_floor, .ref x_trial, .ref x_tape, .int 2, .int (-1)])), (x_tape, .inl (cT 1, 400, .inl f_11))] := hD
  refine lv_aload_n hx hb dX11_feedNumber_32 rfl (lv_at hl 1 rfl) ?_
  refine lv_dup hx hb dX11_feedNumber_33 rfl ?_
  refine va_get (D := D) (ci := 11) (v := .int 2) (C := RX11) (T := TX11) (N := 11) hx hb hts (fun _ h => List.mem_cons_of_mem _ (List.mem_append_right _ h)) hown hK hP 0 rfl rfl 9 (by decide) (hts (.fieldLink RX11 125 "PuppetFilm" "taped" "I") (List.mem_of_getElem? (i := 1) (by decide +kernel))) (fun _ h9 => h9) rfl dX11_feedNumber_34 ?_
  refine lv_iconst (v := 1) hx hb dX11_feedNumber_37 (by decide) ?_
  refine lv_iadd hx hb dX11_feedNumber_38 ?_
  refine lv_topi (fun z_12 ez_12 => ?_)
  obtain rfl : z_12 = 3 := ez_12.trans (by decide)
  refine va_put (D := D) (ci := 11) (v := .int 3) (ty := .int) (C := RX11) (T := TX11) (N := 11) hx hb hts (fun _ h => List.mem_cons_of_mem _ (List.mem_append_right _ h)) tyX11 tyX11_ok nmX11 hown hK hP hD hS 0 rfl rfl 9 (by decide) (hts (.fieldLink RX11 125 "PuppetFilm" "taped" "I") (List.mem_of_getElem? (i := 1) (by decide +kernel))) (fun _ h9 => h9) rfl (by decide +kernel) rfl rfl (Nat.le_of_ble_eq_true rfl) dX11_feedNumber_39 (fun H locs hP hD hS => ?_)
  have hP : va_P D vwCl [(h0, .inr (11, [.ref x_studio, .ref x_script, .ref x_teller, .ref x_planner, .ref x_plan, .ref x_drifts, .ref x_floor, .ref x_trial, .ref x_tape, .int 3, .int (-1)])), (x_tape, .inl (cT 1, 400, .inl f_11))] _ := hP
  have hD : va_D A [(h0, .inr (11, [.ref x_studio, .ref x_script, .ref x_teller, .ref x_planner, .ref x_plan, .ref x_drifts, .ref x_floor, .ref x_trial, .ref x_tape, .int 3, .int (-1)])), (x_tape, .inl (cT 1, 400, .inl f_11))] := hD
  refine lv_iinc (v := 0) (lv' := [(2, .int 0), (0, .ref h0), (1, .int p0)]) hx hb dX11_feedNumber_42 hl (k := 0) rfl (by decide) (by decide) rfl (fun ls hl => ?_)
  refine lv_goto (tgt := 3) hx hb dX11_feedNumber_45 (by decide) ?_
  refine lv_iload_n hx hb dX11_feedNumber_3 rfl (lv_at hl 0 rfl) ?_
  refine lv_if_lt (tgt := 48) hx hb dX11_feedNumber_4 (by decide) (fun c9 => absurd c9 (by decide)) (fun _ => ?_)
  refine lv_aload_n hx hb dX11_feedNumber_7 rfl (lv_at hl 1 rfl) ?_
  refine va_get (D := D) (ci := 11) (v := .int 3) (C := RX11) (T := TX11) (N := 11) hx hb hts (fun _ h => List.mem_cons_of_mem _ (List.mem_append_right _ h)) hown hK hP 0 rfl rfl 9 (by decide) (hts (.fieldLink RX11 125 "PuppetFilm" "taped" "I") (List.mem_of_getElem? (i := 1) (by decide +kernel))) (fun _ h9 => h9) rfl dX11_feedNumber_8 ?_
  refine lv_aload_n hx hb dX11_feedNumber_11 rfl (lv_at hl 1 rfl) ?_
  refine va_get (D := D) (ci := 11) (v := .ref x_tape) (C := RX11) (T := TX11) (N := 11) hx hb hts (fun _ h => List.mem_cons_of_mem _ (List.mem_append_right _ h)) hown hK hP 0 rfl rfl 8 (by decide) (hts (.fieldLink RX11 67 "PuppetFilm" "tape" "[B") (List.mem_of_getElem? (i := 2) (by decide +kernel))) (fun _ h9 => h9) rfl dX11_feedNumber_12 ?_
  refine va_alen (v := 400) hx hb hK hP 1 1 rfl rfl rfl dX11_feedNumber_15 ?_
  refine lv_icmp_ge (tgt := 42) hx hb dX11_feedNumber_16 (by decide) (fun c9 => absurd c9 (by decide)) (fun _ => ?_)
  refine lv_aload_n hx hb dX11_feedNumber_19 rfl (lv_at hl 1 rfl) ?_
  refine va_get (D := D) (ci := 11) (v := .ref x_tape) (C := RX11) (T := TX11) (N := 11) hx hb hts (fun _ h => List.mem_cons_of_mem _ (List.mem_append_right _ h)) hown hK hP 0 rfl rfl 8 (by decide) (hts (.fieldLink RX11 67 "PuppetFilm" "tape" "[B") (List.mem_of_getElem? (i := 2) (by decide +kernel))) (fun _ h9 => h9) rfl dX11_feedNumber_20 ?_
  refine lv_aload_n hx hb dX11_feedNumber_23 rfl (lv_at hl 1 rfl) ?_
  refine va_get (D := D) (ci := 11) (v := .int 3) (C := RX11) (T := TX11) (N := 11) hx hb hts (fun _ h => List.mem_cons_of_mem _ (List.mem_append_right _ h)) hown hK hP 0 rfl rfl 9 (by decide) (hts (.fieldLink RX11 125 "PuppetFilm" "taped" "I") (List.mem_of_getElem? (i := 1) (by decide +kernel))) (fun _ h9 => h9) rfl dX11_feedNumber_24 ?_
  refine lv_iload_n hx hb dX11_feedNumber_27 rfl (lv_at hl 2 rfl) ?_
  refine lv_iload_n hx hb dX11_feedNumber_28 rfl (lv_at hl 0 rfl) ?_
  refine lv_ishr hx hb dX11_feedNumber_29 ?_
  refine lv_topi (fun x_13 ex_13 => ?_)
  obtain ⟨x_14, ex_14⟩ : ∃ y : Int32, y = (x_13).toInt8.toInt32 := ⟨_, rfl⟩
  refine lv_i2b (v := x_14) hx hb dX11_feedNumber_30 ex_14.symm ?_
  refine va_bast hx hb hK hP hD hS 1 1 rfl rfl (by unfold vp_in; decide) dX11_feedNumber_31 (fun H locs hP hD hS => ?_)
  generalize upd f_11 (Int32.toNatClampNeg 3) (vp_nar .byte x_14) = f_15 at hP hD
  have hP : va_P D vwCl [(h0, .inr (11, [.ref x_studio, .ref x_script, .ref x_teller, .ref x_planner, .ref x_plan, .ref x_drifts, .ref x_floor, .ref x_trial, .ref x_tape, .int 3, .int (-1)])), (x_tape, .inl (cT 1, 400, .inl f_15))] _ := hP
  have hD : va_D A [(h0, .inr (11, [.ref x_studio, .ref x_script, .ref x_teller, .ref x_planner, .ref x_plan, .ref x_drifts, .ref x_floor, .ref x_trial, .ref x_tape, .int 3, .int (-1)])), (x_tape, .inl (cT 1, 400, .inl f_15))] := hD
  refine lv_aload_n hx hb dX11_feedNumber_32 rfl (lv_at hl 1 rfl) ?_
  refine lv_dup hx hb dX11_feedNumber_33 rfl ?_
  refine va_get (D := D) (ci := 11) (v := .int 3) (C := RX11) (T := TX11) (N := 11) hx hb hts (fun _ h => List.mem_cons_of_mem _ (List.mem_append_right _ h)) hown hK hP 0 rfl rfl 9 (by decide) (hts (.fieldLink RX11 125 "PuppetFilm" "taped" "I") (List.mem_of_getElem? (i := 1) (by decide +kernel))) (fun _ h9 => h9) rfl dX11_feedNumber_34 ?_
  refine lv_iconst (v := 1) hx hb dX11_feedNumber_37 (by decide) ?_
  refine lv_iadd hx hb dX11_feedNumber_38 ?_
  refine lv_topi (fun z_16 ez_16 => ?_)
  obtain rfl : z_16 = 4 := ez_16.trans (by decide)
  refine va_put (D := D) (ci := 11) (v := .int 4) (ty := .int) (C := RX11) (T := TX11) (N := 11) hx hb hts (fun _ h => List.mem_cons_of_mem _ (List.mem_append_right _ h)) tyX11 tyX11_ok nmX11 hown hK hP hD hS 0 rfl rfl 9 (by decide) (hts (.fieldLink RX11 125 "PuppetFilm" "taped" "I") (List.mem_of_getElem? (i := 1) (by decide +kernel))) (fun _ h9 => h9) rfl (by decide +kernel) rfl rfl (Nat.le_of_ble_eq_true rfl) dX11_feedNumber_39 (fun H locs hP hD hS => ?_)
  have hP : va_P D vwCl [(h0, .inr (11, [.ref x_studio, .ref x_script, .ref x_teller, .ref x_planner, .ref x_plan, .ref x_drifts, .ref x_floor, .ref x_trial, .ref x_tape, .int 4, .int (-1)])), (x_tape, .inl (cT 1, 400, .inl f_15))] _ := hP
  have hD : va_D A [(h0, .inr (11, [.ref x_studio, .ref x_script, .ref x_teller, .ref x_planner, .ref x_plan, .ref x_drifts, .ref x_floor, .ref x_trial, .ref x_tape, .int 4, .int (-1)])), (x_tape, .inl (cT 1, 400, .inl f_15))] := hD
  refine lv_iinc (v := (-8)) (lv' := [(2, .int (-8)), (0, .ref h0), (1, .int p0)]) hx hb dX11_feedNumber_42 hl (k := 0) rfl (by decide) (by decide) rfl (fun ls hl => ?_)
  refine lv_goto (tgt := 3) hx hb dX11_feedNumber_45 (by decide) ?_
  refine lv_iload_n hx hb dX11_feedNumber_3 rfl (lv_at hl 0 rfl) ?_
  refine lv_if_lt (tgt := 48) hx hb dX11_feedNumber_4 (by decide) (fun _ => ?_) (fun c9 => absurd c9 (by decide))
  have hP9 := hP.sub (ws' := [(h0, .inr (11, [.ref x_studio, .ref x_script, .ref x_teller, .ref x_planner, .ref x_plan, .ref x_drifts, .ref x_floor, .ref x_trial, .ref x_tape, .int 4, .int (-1)])), (x_tape, .inl (cT 1, 400, .inl f_15))]) [0, 1] rfl
  have hD9 := hD.sub (ws' := [(h0, .inr (11, [.ref x_studio, .ref x_script, .ref x_teller, .ref x_planner, .ref x_plan, .ref x_drifts, .ref x_floor, .ref x_trial, .ref x_tape, .int 4, .int (-1)])), (x_tape, .inl (cT 1, 400, .inl f_15))]) [0, 1] (by decide) rfl
  exact W.vret hx hb hr (fun t ht hW => ⟨⟨(), rfl, trivial, ⟨f_15, by rw [ht]; exact hP9, hD9⟩⟩, hS.F ht⟩) hS.2.2 dX11_feedNumber_48
set_option maxHeartbeats 4000000 in
set_option maxRecDepth 100000 in
theorem c_X11_feedNumber_4 (l : Launch) (D : va_G) (cT : Nat → ClassId) (h0 : Nat) (p0 : Int32) (x_studio : Nat) (x_script : Nat) (x_teller : Nat) (x_planner : Nat) (x_plan : Nat) (x_drifts : Nat) (x_floor : Nat) (x_trial : Nat) (x_tape : Nat) (fta : Nat → Int32) (sz : Nat)  : Met l yX11_feedNumber wsX11_feedNumber ({ frames := 8, cells := 0, slots := 0, locals := 160 }) (va_Pc [.ref h0, .int p0] (PW D cT [(h0, .inr (11, [.ref x_studio, .ref x_script, .ref x_teller, .ref x_planner, .ref x_plan, .ref x_drifts, .ref x_floor, .ref x_trial, .ref x_tape, .int 4, .int (-1)])), (x_tape, .inl (cT 1, 400, .inl fta))] sz)) (va_Qv (fun _ : Unit => True) (fun (_ : Unit) (t : State) => ∃ (fta2 : Nat → Int32), va_P D vwCl [(h0, .inr (11, [.ref x_studio, .ref x_script, .ref x_teller, .ref x_planner, .ref x_plan, .ref x_drifts, .ref x_floor, .ref x_trial, .ref x_tape, .int 8, .int (-1)])), (x_tape, .inl (cT 1, 400, .inl fta2))] t.heap ∧ va_D (va_A [(h0, .inr (11, [.ref x_studio, .ref x_script, .ref x_teller, .ref x_planner, .ref x_plan, .ref x_drifts, .ref x_floor, .ref x_trial, .ref x_tape, .int 4, .int (-1)])), (x_tape, .inl (cT 1, 400, .inl fta))] sz) [(h0, .inr (11, [.ref x_studio, .ref x_script, .ref x_teller, .ref x_planner, .ref x_plan, .ref x_drifts, .ref x_floor, .ref x_trial, .ref x_tape, .int 8, .int (-1)])), (x_tape, .inl (cT 1, 400, .inl fta2))]) (va_A [(h0, .inr (11, [.ref x_studio, .ref x_script, .ref x_teller, .ref x_planner, .ref x_plan, .ref x_drifts, .ref x_floor, .ref x_trial, .ref x_tape, .int 4, .int (-1)])), (x_tape, .inl (cT 1, 400, .inl fta))] sz)) 0 0 (va_A [(h0, .inr (11, [.ref x_studio, .ref x_script, .ref x_teller, .ref x_planner, .ref x_plan, .ref x_drifts, .ref x_floor, .ref x_trial, .ref x_tape, .int 4, .int (-1)])), (x_tape, .inl (cT 1, 400, .inl fta))] sz) := by
  refine Met.ofW (cc := cX11_feedNumber) (maxL := 3) (ret := none) (by decide) rfl ?_
  intro p e s m args below meth c s₁ B hml hv
  obtain ⟨rfl, hsz, hP, hK, hD0, hG⟩ := hv
  have hx := B.exec
  have hb := B.bytes
  have hr := B.returns
  have hts := atoms_spec (ws := wsX11_feedNumber) B.pre
  have hown : s.vm.findClass RX11 = some m.cls := findClass_of_methodNamed B.named
  have hlocks := B.notSynchronized
  subst hsz
  have hD := hD0.self (sz := s.heap.size)
  generalize hAe : va_A [(h0, .inr (11, [.ref x_studio, .ref x_script, .ref x_teller, .ref x_planner, .ref x_plan, .ref x_drifts, .ref x_floor, .ref x_trial, .ref x_tape, .int 4, .int (-1)])), (x_tape, .inl (cT 1, 400, .inl fta))] s.heap.size = A at hD ⊢
  have hA : ∀ q : Nat, s.heap.size ≤ q → A q := fun q h => by rw [← hAe]; exact Or.inr h
  have hS : va_S A s.heap s.heap [] := va_S.rf
  have hP : va_P D vwCl [(h0, .inr (11, [.ref x_studio, .ref x_script, .ref x_teller, .ref x_planner, .ref x_plan, .ref x_drifts, .ref x_floor, .ref x_trial, .ref x_tape, .int 4, .int (-1)])), (x_tape, .inl (cT 1, 400, .inl fta))] s.heap := hP
  have hl := lv_entry ([.ref h0, .int p0]) (n := 3) (Nat.le_of_ble_eq_true rfl)
  rw [lg_entry_eq]
  generalize (lg_sl ([.ref h0, .int p0]) ++ List.replicate (3 - (lg_sl ([.ref h0, .int p0])).length) Slot.unset).toArray = ls at hl ⊢
  have hl : lv_has ls 3 [(0, .ref h0), (1, .int p0)] := hl
  refine lv_bipush (v := 24) hx hb dX11_feedNumber_0 (by decide) ?_
  refine lv_istore_n (lv' := [(2, .int 24), (0, .ref h0), (1, .int p0)]) hx hb dX11_feedNumber_2 rfl hl (by decide) rfl (fun ls hl => ?_)
  refine lv_iload_n hx hb dX11_feedNumber_3 rfl (lv_at hl 0 rfl) ?_
  refine lv_if_lt (tgt := 48) hx hb dX11_feedNumber_4 (by decide) (fun c9 => absurd c9 (by decide)) (fun _ => ?_)
  refine lv_aload_n hx hb dX11_feedNumber_7 rfl (lv_at hl 1 rfl) ?_
  refine va_get (D := D) (ci := 11) (v := .int 4) (C := RX11) (T := TX11) (N := 11) hx hb hts (fun _ h => List.mem_cons_of_mem _ (List.mem_append_right _ h)) hown hK hP 0 rfl rfl 9 (by decide) (hts (.fieldLink RX11 125 "PuppetFilm" "taped" "I") (List.mem_of_getElem? (i := 1) (by decide +kernel))) (fun _ h9 => h9) rfl dX11_feedNumber_8 ?_
  refine lv_aload_n hx hb dX11_feedNumber_11 rfl (lv_at hl 1 rfl) ?_
  refine va_get (D := D) (ci := 11) (v := .ref x_tape) (C := RX11) (T := TX11) (N := 11) hx hb hts (fun _ h => List.mem_cons_of_mem _ (List.mem_append_right _ h)) hown hK hP 0 rfl rfl 8 (by decide) (hts (.fieldLink RX11 67 "PuppetFilm" "tape" "[B") (List.mem_of_getElem? (i := 2) (by decide +kernel))) (fun _ h9 => h9) rfl dX11_feedNumber_12 ?_
  refine va_alen (v := 400) hx hb hK hP 1 1 rfl rfl rfl dX11_feedNumber_15 ?_
  refine lv_icmp_ge (tgt := 42) hx hb dX11_feedNumber_16 (by decide) (fun c9 => absurd c9 (by decide)) (fun _ => ?_)
  refine lv_aload_n hx hb dX11_feedNumber_19 rfl (lv_at hl 1 rfl) ?_
  refine va_get (D := D) (ci := 11) (v := .ref x_tape) (C := RX11) (T := TX11) (N := 11) hx hb hts (fun _ h => List.mem_cons_of_mem _ (List.mem_append_right _ h)) hown hK hP 0 rfl rfl 8 (by decide) (hts (.fieldLink RX11 67 "PuppetFilm" "tape" "[B") (List.mem_of_getElem? (i := 2) (by decide +kernel))) (fun _ h9 => h9) rfl dX11_feedNumber_20 ?_
  refine lv_aload_n hx hb dX11_feedNumber_23 rfl (lv_at hl 1 rfl) ?_
  refine va_get (D := D) (ci := 11) (v := .int 4) (C := RX11) (T := TX11) (N := 11) hx hb hts (fun _ h => List.mem_cons_of_mem _ (List.mem_append_right _ h)) hown hK hP 0 rfl rfl 9 (by decide) (hts (.fieldLink RX11 125 "PuppetFilm" "taped" "I") (List.mem_of_getElem? (i := 1) (by decide +kernel))) (fun _ h9 => h9) rfl dX11_feedNumber_24 ?_
  refine lv_iload_n hx hb dX11_feedNumber_27 rfl (lv_at hl 2 rfl) ?_
  refine lv_iload_n hx hb dX11_feedNumber_28 rfl (lv_at hl 0 rfl) ?_
  refine lv_ishr hx hb dX11_feedNumber_29 ?_
  refine lv_topi (fun x_1 ex_1 => ?_)
  obtain ⟨x_2, ex_2⟩ : ∃ y : Int32, y = (x_1).toInt8.toInt32 := ⟨_, rfl⟩
  refine lv_i2b (v := x_2) hx hb dX11_feedNumber_30 ex_2.symm ?_
  refine va_bast hx hb hK hP hD hS 1 1 rfl rfl (by unfold vp_in; decide) dX11_feedNumber_31 (fun H locs hP hD hS => ?_)
  generalize upd fta (Int32.toNatClampNeg 4) (vp_nar .byte x_2) = f_3 at hP hD
  have hP : va_P D vwCl [(h0, .inr (11, [.ref x_studio, .ref x_script, .ref x_teller, .ref x_planner, .ref x_plan, .ref x_drifts, .ref x_floor, .ref x_trial, .ref x_tape, .int 4, .int (-1)])), (x_tape, .inl (cT 1, 400, .inl f_3))] _ := hP
  have hD : va_D A [(h0, .inr (11, [.ref x_studio, .ref x_script, .ref x_teller, .ref x_planner, .ref x_plan, .ref x_drifts, .ref x_floor, .ref x_trial, .ref x_tape, .int 4, .int (-1)])), (x_tape, .inl (cT 1, 400, .inl f_3))] := hD
  refine lv_aload_n hx hb dX11_feedNumber_32 rfl (lv_at hl 1 rfl) ?_
  refine lv_dup hx hb dX11_feedNumber_33 rfl ?_
  refine va_get (D := D) (ci := 11) (v := .int 4) (C := RX11) (T := TX11) (N := 11) hx hb hts (fun _ h => List.mem_cons_of_mem _ (List.mem_append_right _ h)) hown hK hP 0 rfl rfl 9 (by decide) (hts (.fieldLink RX11 125 "PuppetFilm" "taped" "I") (List.mem_of_getElem? (i := 1) (by decide +kernel))) (fun _ h9 => h9) rfl dX11_feedNumber_34 ?_
  refine lv_iconst (v := 1) hx hb dX11_feedNumber_37 (by decide) ?_
  refine lv_iadd hx hb dX11_feedNumber_38 ?_
  refine lv_topi (fun z_4 ez_4 => ?_)
  obtain rfl : z_4 = 5 := ez_4.trans (by decide)
  refine va_put (D := D) (ci := 11) (v := .int 5) (ty := .int) (C := RX11) (T := TX11) (N := 11) hx hb hts (fun _ h => List.mem_cons_of_mem _ (List.mem_append_right _ h)) tyX11 tyX11_ok nmX11 hown hK hP hD hS 0 rfl rfl 9 (by decide) (hts (.fieldLink RX11 125 "PuppetFilm" "taped" "I") (List.mem_of_getElem? (i := 1) (by decide +kernel))) (fun _ h9 => h9) rfl (by decide +kernel) rfl rfl (Nat.le_of_ble_eq_true rfl) dX11_feedNumber_39 (fun H locs hP hD hS => ?_)
  have hP : va_P D vwCl [(h0, .inr (11, [.ref x_studio, .ref x_script, .ref x_teller, .ref x_planner, .ref x_plan, .ref x_drifts, .ref x_floor, .ref x_trial, .ref x_tape, .int 5, .int (-1)])), (x_tape, .inl (cT 1, 400, .inl f_3))] _ := hP
  have hD : va_D A [(h0, .inr (11, [.ref x_studio, .ref x_script, .ref x_teller, .ref x_planner, .ref x_plan, .ref x_drifts, .ref x_floor, .ref x_trial, .ref x_tape, .int 5, .int (-1)])), (x_tape, .inl (cT 1, 400, .inl f_3))] := hD
  refine lv_iinc (v := 16) (lv' := [(2, .int 16), (0, .ref h0), (1, .int p0)]) hx hb dX11_feedNumber_42 hl (k := 0) rfl (by decide) (by decide) rfl (fun ls hl => ?_)
  refine lv_goto (tgt := 3) hx hb dX11_feedNumber_45 (by decide) ?_
  refine lv_iload_n hx hb dX11_feedNumber_3 rfl (lv_at hl 0 rfl) ?_
  refine lv_if_lt (tgt := 48) hx hb dX11_feedNumber_4 (by decide) (fun c9 => absurd c9 (by decide)) (fun _ => ?_)
  refine lv_aload_n hx hb dX11_feedNumber_7 rfl (lv_at hl 1 rfl) ?_
  refine va_get (D := D) (ci := 11) (v := .int 5) (C := RX11) (T := TX11) (N := 11) hx hb hts (fun _ h => List.mem_cons_of_mem _ (List.mem_append_right _ h)) hown hK hP 0 rfl rfl 9 (by decide) (hts (.fieldLink RX11 125 "PuppetFilm" "taped" "I") (List.mem_of_getElem? (i := 1) (by decide +kernel))) (fun _ h9 => h9) rfl dX11_feedNumber_8 ?_
  refine lv_aload_n hx hb dX11_feedNumber_11 rfl (lv_at hl 1 rfl) ?_
  refine va_get (D := D) (ci := 11) (v := .ref x_tape) (C := RX11) (T := TX11) (N := 11) hx hb hts (fun _ h => List.mem_cons_of_mem _ (List.mem_append_right _ h)) hown hK hP 0 rfl rfl 8 (by decide) (hts (.fieldLink RX11 67 "PuppetFilm" "tape" "[B") (List.mem_of_getElem? (i := 2) (by decide +kernel))) (fun _ h9 => h9) rfl dX11_feedNumber_12 ?_
  refine va_alen (v := 400) hx hb hK hP 1 1 rfl rfl rfl dX11_feedNumber_15 ?_
  refine lv_icmp_ge (tgt := 42) hx hb dX11_feedNumber_16 (by decide) (fun c9 => absurd c9 (by decide)) (fun _ => ?_)
  refine lv_aload_n hx hb dX11_feedNumber_19 rfl (lv_at hl 1 rfl) ?_
  refine va_get (D := D) (ci := 11) (v := .ref x_tape) (C := RX11) (T := TX11) (N := 11) hx hb hts (fun _ h => List.mem_cons_of_mem _ (List.mem_append_right _ h)) hown hK hP 0 rfl rfl 8 (by decide) (hts (.fieldLink RX11 67 "PuppetFilm" "tape" "[B") (List.mem_of_getElem? (i := 2) (by decide +kernel))) (fun _ h9 => h9) rfl dX11_feedNumber_20 ?_
  refine lv_aload_n hx hb dX11_feedNumber_23 rfl (lv_at hl 1 rfl) ?_
  refine va_get (D := D) (ci := 11) (v := .int 5) (C := RX11) (T := TX11) (N := 11) hx hb hts (fun _ h => List.mem_cons_of_mem _ (List.mem_append_right _ h)) hown hK hP 0 rfl rfl 9 (by decide) (hts (.fieldLink RX11 125 "PuppetFilm" "taped" "I") (List.mem_of_getElem? (i := 1) (by decide +kernel))) (fun _ h9 => h9) rfl dX11_feedNumber_24 ?_
  refine lv_iload_n hx hb dX11_feedNumber_27 rfl (lv_at hl 2 rfl) ?_
  refine lv_iload_n hx hb dX11_feedNumber_28 rfl (lv_at hl 0 rfl) ?_
  refine lv_ishr hx hb dX11_feedNumber_29 ?_
  refine lv_topi (fun x_5 ex_5 => ?_)
  obtain ⟨x_6, ex_6⟩ : ∃ y : Int32, y = (x_5).toInt8.toInt32 := ⟨_, rfl⟩
  refine lv_i2b (v := x_6) hx hb dX11_feedNumber_30 ex_6.symm ?_
  refine va_bast hx hb hK hP hD hS 1 1 rfl rfl (by unfold vp_in; decide) dX11_feedNumber_31 (fun H locs hP hD hS => ?_)
  generalize upd f_3 (Int32.toNatClampNeg 5) (vp_nar .byte x_6) = f_7 at hP hD
  have hP : va_P D vwCl [(h0, .inr (11, [.ref x_studio, .ref x_script, .ref x_teller, .ref x_planner, .ref x_plan, .ref x_drifts, .ref x_floor, .ref x_trial, .ref x_tape, .int 5, .int (-1)])), (x_tape, .inl (cT 1, 400, .inl f_7))] _ := hP
  have hD : va_D A [(h0, .inr (11, [.ref x_studio, .ref x_script, .ref x_teller, .ref x_planner, .ref x_plan, .ref x_drifts, .ref x_floor, .ref x_trial, .ref x_tape, .int 5, .int (-1)])), (x_tape, .inl (cT 1, 400, .inl f_7))] := hD
  refine lv_aload_n hx hb dX11_feedNumber_32 rfl (lv_at hl 1 rfl) ?_
  refine lv_dup hx hb dX11_feedNumber_33 rfl ?_
  refine va_get (D := D) (ci := 11) (v := .int 5) (C := RX11) (T := TX11) (N := 11) hx hb hts (fun _ h => List.mem_cons_of_mem _ (List.mem_append_right _ h)) hown hK hP 0 rfl rfl 9 (by decide) (hts (.fieldLink RX11 125 "PuppetFilm" "taped" "I") (List.mem_of_getElem? (i := 1) (by decide +kernel))) (fun _ h9 => h9) rfl dX11_feedNumber_34 ?_
  refine lv_iconst (v := 1) hx hb dX11_feedNumber_37 (by decide) ?_
  refine lv_iadd hx hb dX11_feedNumber_38 ?_
  refine lv_topi (fun z_8 ez_8 => ?_)
  obtain rfl : z_8 = 6 := ez_8.trans (by decide)
  refine va_put (D := D) (ci := 11) (v := .int 6) (ty := .int) (C := RX11) (T := TX11) (N := 11) hx hb hts (fun _ h => List.mem_cons_of_mem _ (List.mem_append_right _ h)) tyX11 tyX11_ok nmX11 hown hK hP hD hS 0 rfl rfl 9 (by decide) (hts (.fieldLink RX11 125 "PuppetFilm" "taped" "I") (List.mem_of_getElem? (i := 1) (by decide +kernel))) (fun _ h9 => h9) rfl (by decide +kernel) rfl rfl (Nat.le_of_ble_eq_true rfl) dX11_feedNumber_39 (fun H locs hP hD hS => ?_)
  have hP : va_P D vwCl [(h0, .inr (11, [.ref x_studio, .ref x_script, .ref x_teller, .ref x_planner, .ref x_plan, .ref x_drifts, .ref x_floor, .ref x_trial, .ref x_tape, .int 6, .int (-1)])), (x_tape, .inl (cT 1, 400, .inl f_7))] _ := hP
  have hD : va_D A [(h0, .inr (11, [.ref x_studio, .ref x_script, .ref x_teller, .ref x_planner, .ref x_plan, .ref x_drifts, .ref x_floor, .ref x_trial, .ref x_tape, .int 6, .int (-1)])), (x_tape, .inl (cT 1, 400, .inl f_7))] := hD
  refine lv_iinc (v := 8) (lv' := [(2, .int 8), (0, .ref h0), (1, .int p0)]) hx hb dX11_feedNumber_42 hl (k := 0) rfl (by decide) (by decide) rfl (fun ls hl => ?_)
  refine lv_goto (tgt := 3) hx hb dX11_feedNumber_45 (by decide) ?_
  refine lv_iload_n hx hb dX11_feedNumber_3 rfl (lv_at hl 0 rfl) ?_
  refine lv_if_lt (tgt := 48) hx hb dX11_feedNumber_4 (by decide) (fun c9 => absurd c9 (by decide)) (fun _ => ?_)
  refine lv_aload_n hx hb dX11_feedNumber_7 rfl (lv_at hl 1 rfl) ?_
  refine va_get (D := D) (ci := 11) (v := .int 6) (C := RX11) (T := TX11) (N := 11) hx hb hts (fun _ h => List.mem_cons_of_mem _ (List.mem_append_right _ h)) hown hK hP 0 rfl rfl 9 (by decide) (hts (.fieldLink RX11 125 "PuppetFilm" "taped" "I") (List.mem_of_getElem? (i := 1) (by decide +kernel))) (fun _ h9 => h9) rfl dX11_feedNumber_8 ?_
  refine lv_aload_n hx hb dX11_feedNumber_11 rfl (lv_at hl 1 rfl) ?_
  refine va_get (D := D) (ci := 11) (v := .ref x_tape) (C := RX11) (T := TX11) (N := 11) hx hb hts (fun _ h => List.mem_cons_of_mem _ (List.mem_append_right _ h)) hown hK hP 0 rfl rfl 8 (by decide) (hts (.fieldLink RX11 67 "PuppetFilm" "tape" "[B") (List.mem_of_getElem? (i := 2) (by decide +kernel))) (fun _ h9 => h9) rfl dX11_feedNumber_12 ?_
  refine va_alen (v := 400) hx hb hK hP 1 1 rfl rfl rfl dX11_feedNumber_15 ?_
  refine lv_icmp_ge (tgt := 42) hx hb dX11_feedNumber_16 (by decide) (fun c9 => absurd c9 (by decide)) (fun _ => ?_)
  refine lv_aload_n hx hb dX11_feedNumber_19 rfl (lv_at hl 1 rfl) ?_
  refine va_get (D := D) (ci := 11) (v := .ref x_tape) (C := RX11) (T := TX11) (N := 11) hx hb hts (fun _ h => List.mem_cons_of_mem _ (List.mem_append_right _ h)) hown hK hP 0 rfl rfl 8 (by decide) (hts (.fieldLink RX11 67 "PuppetFilm" "tape" "[B") (List.mem_of_getElem? (i := 2) (by decide +kernel))) (fun _ h9 => h9) rfl dX11_feedNumber_20 ?_
  refine lv_aload_n hx hb dX11_feedNumber_23 rfl (lv_at hl 1 rfl) ?_
  refine va_get (D := D) (ci := 11) (v := .int 6) (C := RX11) (T := TX11) (N := 11) hx hb hts (fun _ h => List.mem_cons_of_mem _ (List.mem_append_right _ h)) hown hK hP 0 rfl rfl 9 (by decide) (hts (.fieldLink RX11 125 "PuppetFilm" "taped" "I") (List.mem_of_getElem? (i := 1) (by decide +kernel))) (fun _ h9 => h9) rfl dX11_feedNumber_24 ?_
  refine lv_iload_n hx hb dX11_feedNumber_27 rfl (lv_at hl 2 rfl) ?_
  refine lv_iload_n hx hb dX11_feedNumber_28 rfl (lv_at hl 0 rfl) ?_
  refine lv_ishr hx hb dX11_feedNumber_29 ?_
  refine lv_topi (fun x_9 ex_9 => ?_)
  obtain ⟨x_10, ex_10⟩ : ∃ y : Int32, y = (x_9).toInt8.toInt32 := ⟨_, rfl⟩
  refine lv_i2b (v := x_10) hx hb dX11_feedNumber_30 ex_10.symm ?_
  refine va_bast hx hb hK hP hD hS 1 1 rfl rfl (by unfold vp_in; decide) dX11_feedNumber_31 (fun H locs hP hD hS => ?_)
  generalize upd f_7 (Int32.toNatClampNeg 6) (vp_nar .byte x_10) = f_11 at hP hD
  have hP : va_P D vwCl [(h0, .inr (11, [.ref x_studio, .ref x_script, .ref x_teller, .ref x_planner, .ref x_plan, .ref x_drifts, .ref x_floor, .ref x_trial, .ref x_tape, .int 6, .int (-1)])), (x_tape, .inl (cT 1, 400, .inl f_11))] _ := hP
  have hD : va_D A [(h0, .inr (11, [.ref x_studio, .ref x_script, .ref x_teller, .ref x_planner, .ref x_plan, .ref x_drifts, .ref x_floor, .ref x_trial, .ref x_tape, .int 6, .int (-1)])), (x_tape, .inl (cT 1, 400, .inl f_11))] := hD
  refine lv_aload_n hx hb dX11_feedNumber_32 rfl (lv_at hl 1 rfl) ?_
  refine lv_dup hx hb dX11_feedNumber_33 rfl ?_
  refine va_get (D := D) (ci := 11) (v := .int 6) (C := RX11) (T := TX11) (N := 11) hx hb hts (fun _ h => List.mem_cons_of_mem _ (List.mem_append_right _ h)) hown hK hP 0 rfl rfl 9 (by decide) (hts (.fieldLink RX11 125 "PuppetFilm" "taped" "I") (List.mem_of_getElem? (i := 1) (by decide +kernel))) (fun _ h9 => h9) rfl dX11_feedNumber_34 ?_
  refine lv_iconst (v := 1) hx hb dX11_feedNumber_37 (by decide) ?_
  refine lv_iadd hx hb dX11_feedNumber_38 ?_
  refine lv_topi (fun z_12 ez_12 => ?_)
  obtain rfl : z_12 = 7 := ez_12.trans (by decide)
  refine va_put (D := D) (ci := 11) (v := .int 7) (ty := .int) (C := RX11) (T := TX11) (N := 11) hx hb hts (fun _ h => List.mem_cons_of_mem _ (List.mem_append_right _ h)) tyX11 tyX11_ok nmX11 hown hK hP hD hS 0 rfl rfl 9 (by decide) (hts (.fieldLink RX11 125 "PuppetFilm" "taped" "I") (List.mem_of_getElem? (i := 1) (by decide +kernel))) (fun _ h9 => h9) rfl (by decide +kernel) rfl rfl (Nat.le_of_ble_eq_true rfl) dX11_feedNumber_39 (fun H locs hP hD hS => ?_)
  have hP : va_P D vwCl [(h0, .inr (11, [.ref x_studio, .ref x_script, .ref x_teller, .ref x_planner, .ref x_plan, .ref x_drifts, .ref x_floor, .ref x_trial, .ref x_tape, .int 7, .int (-1)])), (x_tape, .inl (cT 1, 400, .inl f_11))] _ := hP
  have hD : va_D A [(h0, .inr (11, [.ref x_studio, .ref x_script, .ref x_teller, .ref x_planner, .ref x_plan, .ref x_drifts, .ref x_floor, .ref x_trial, .ref x_tape, .int 7, .int (-1)])), (x_tape, .inl (cT 1, 400, .inl f_11))] := hD
  refine lv_iinc (v := 0) (lv' := [(2, .int 0), (0, .ref h0), (1, .int p0)]) hx hb dX11_feedNumber_42 hl (k := 0) rfl (by decide) (by decide) rfl (fun ls hl => ?_)
  refine lv_goto (tgt := 3) hx hb dX11_feedNumber_45 (by decide) ?_
  refine lv_iload_n hx hb dX11_feedNumber_3 rfl (lv_at hl 0 rfl) ?_
  refine lv_if_lt (tgt := 48) hx hb dX11_feedNumber_4 (by decide) (fun c9 => absurd c9 (by decide)) (fun _ => ?_)
  refine lv_aload_n hx hb dX11_feedNumber_7 rfl (lv_at hl 1 rfl) ?_
  refine va_get (D := D) (ci := 11) (v := .int 7) (C := RX11) (T := TX11) (N := 11) hx hb hts (fun _ h => List.mem_cons_of_mem _ (List.mem_append_right _ h)) hown hK hP 0 rfl rfl 9 (by decide) (hts (.fieldLink RX11 125 "PuppetFilm" "taped" "I") (List.mem_of_getElem? (i := 1) (by decide +kernel))) (fun _ h9 => h9) rfl dX11_feedNumber_8 ?_
  refine lv_aload_n hx hb dX11_feedNumber_11 rfl (lv_at hl 1 rfl) ?_
  refine va_get (D := D) (ci := 11) (v := .ref x_tape) (C := RX11) (T := TX11) (N := 11) hx hb hts (fun _ h => List.mem_cons_of_mem _ (List.mem_append_right _ h)) hown hK hP 0 rfl rfl 8 (by decide) (hts (.fieldLink RX11 67 "PuppetFilm" "tape" "[B") (List.mem_of_getElem? (i := 2) (by decide +kernel))) (fun _ h9 => h9) rfl dX11_feedNumber_12 ?_
  refine va_alen (v := 400) hx hb hK hP 1 1 rfl rfl rfl dX11_feedNumber_15 ?_
  refine lv_icmp_ge (tgt := 42) hx hb dX11_feedNumber_16 (by decide) (fun c9 => absurd c9 (by decide)) (fun _ => ?_)
  refine lv_aload_n hx hb dX11_feedNumber_19 rfl (lv_at hl 1 rfl) ?_
  refine va_get (D := D) (ci := 11) (v := .ref x_tape) (C := RX11) (T := TX11) (N := 11) hx hb hts (fun _ h => List.mem_cons_of_mem _ (List.mem_append_right _ h)) hown hK hP 0 rfl rfl 8 (by decide) (hts (.fieldLink RX11 67 "PuppetFilm" "tape" "[B") (List.mem_of_getElem? (i := 2) (by decide +kernel))) (fun _ h9 => h9) rfl dX11_feedNumber_20 ?_
  refine lv_aload_n hx hb dX11_feedNumber_23 rfl (lv_at hl 1 rfl) ?_
  refine va_get (D := D) (ci := 11) (v := .int 7) (C := RX11) (T := TX11) (N := 11) hx hb hts (fun _ h => List.mem_cons_of_mem _ (List.mem_append_right _ h)) hown hK hP 0 rfl rfl 9 (by decide) (hts (.fieldLink RX11 125 "PuppetFilm" "taped" "I") (List.mem_of_getElem? (i := 1) (by decide +kernel))) (fun _ h9 => h9) rfl dX11_feedNumber_24 ?_
  refine lv_iload_n hx hb dX11_feedNumber_27 rfl (lv_at hl 2 rfl) ?_
  refine lv_iload_n hx hb dX11_feedNumber_28 rfl (lv_at hl 0 rfl) ?_
  refine lv_ishr hx hb dX11_feedNumber_29 ?_
  refine lv_topi (fun x_13 ex_13 => ?_)
  obtain ⟨x_14, ex_14⟩ : ∃ y : Int32, y = (x_13).toInt8.toInt32 := ⟨_, rfl⟩
  refine lv_i2b (v := x_14) hx hb dX11_feedNumber_30 ex_14.symm ?_
  refine va_bast hx hb hK hP hD hS 1 1 rfl rfl (by unfold vp_in; decide) dX11_feedNumber_31 (fun H locs hP hD hS => ?_)
  generalize upd f_11 (Int32.toNatClampNeg 7) (vp_nar .byte x_14) = f_15 at hP hD
  have hP : va_P D vwCl [(h0, .inr (11, [.ref x_studio, .ref x_script, .ref x_teller, .ref x_planner, .ref x_plan, .ref x_drifts, .ref x_floor, .ref x_trial, .ref x_tape, .int 7, .int (-1)])), (x_tape, .inl (cT 1, 400, .inl f_15))] _ := hP
  have hD : va_D A [(h0, .inr (11, [.ref x_studio, .ref x_script, .ref x_teller, .ref x_planner, .ref x_plan, .ref x_drifts, .ref x_floor, .ref x_trial, .ref x_tape, .int 7, .int (-1)])), (x_tape, .inl (cT 1, 400, .inl f_15))] := hD
  refine lv_aload_n hx hb dX11_feedNumber_32 rfl (lv_at hl 1 rfl) ?_
  refine lv_dup hx hb dX11_feedNumber_33 rfl ?_
  refine va_get (D := D) (ci := 11) (v := .int 7) (C := RX11) (T := TX11) (N := 11) hx hb hts (fun _ h => List.mem_cons_of_mem _ (List.mem_append_right _ h)) hown hK hP 0 rfl rfl 9 (by decide) (hts (.fieldLink RX11 125 "PuppetFilm" "taped" "I") (List.mem_of_getElem? (i := 1) (by decide +kernel))) (fun _ h9 => h9) rfl dX11_feedNumber_34 ?_
  refine lv_iconst (v := 1) hx hb dX11_feedNumber_37 (by decide) ?_
  refine lv_iadd hx hb dX11_feedNumber_38 ?_
  refine lv_topi (fun z_16 ez_16 => ?_)
  obtain rfl : z_16 = 8 := ez_16.trans (by decide)
  refine va_put (D := D) (ci := 11) (v := .int 8) (ty := .int) (C := RX11) (T := TX11) (N := 11) hx hb hts (fun _ h => List.mem_cons_of_mem _ (List.mem_append_right _ h)) tyX11 tyX11_ok nmX11 hown hK hP hD hS 0 rfl rfl 9 (by decide) (hts (.fieldLink RX11 125 "PuppetFilm" "taped" "I") (List.mem_of_getElem? (i := 1) (by decide +kernel))) (fun _ h9 => h9) rfl (by decide +kernel) rfl rfl (Nat.le_of_ble_eq_true rfl) dX11_feedNumber_39 (fun H locs hP hD hS => ?_)
  have hP : va_P D vwCl [(h0, .inr (11, [.ref x_studio, .ref x_script, .ref x_teller, .ref x_planner, .ref x_plan, .ref x_drifts, .ref x_floor, .ref x_trial, .ref x_tape, .int 8, .int (-1)])), (x_tape, .inl (cT 1, 400, .inl f_15))] _ := hP
  have hD : va_D A [(h0, .inr (11, [.ref x_studio, .ref x_script, .ref x_teller, .ref x_planner, .ref x_plan, .ref x_drifts, .ref x_floor, .ref x_trial, .ref x_tape, .int 8, .int (-1)])), (x_tape, .inl (cT 1, 400, .inl f_15))] := hD
  refine lv_iinc (v := (-8)) (lv' := [(2, .int (-8)), (0, .ref h0), (1, .int p0)]) hx hb dX11_feedNumber_42 hl (k := 0) rfl (by decide) (by decide) rfl (fun ls hl => ?_)
  refine lv_goto (tgt := 3) hx hb dX11_feedNumber_45 (by decide) ?_
  refine lv_iload_n hx hb dX11_feedNumber_3 rfl (lv_at hl 0 rfl) ?_
  refine lv_if_lt (tgt := 48) hx hb dX11_feedNumber_4 (by decide) (fun _ => ?_) (fun c9 => absurd c9 (by decide))
  have hP9 := hP.sub (ws' := [(h0, .inr (11, [.ref x_studio, .ref x_script, .ref x_teller, .ref x_planner, .ref x_plan, .ref x_drifts, .ref x_floor, .ref x_trial, .ref x_tape, .int 8, .int (-1)])), (x_tape, .inl (cT 1, 400, .inl f_15))]) [0, 1] rfl
  have hD9 := hD.sub (ws' := [(h0, .inr (11, [.ref x_studio, .ref x_script, .ref x_teller, .ref x_planner, .ref x_plan, .ref x_drifts, .ref x_floor, .ref x_trial, .ref x_tape, .int 8, .int (-1)])), (x_tape, .inl (cT 1, 400, .inl f_15))]) [0, 1] (by decide) rfl
  exact W.vret hx hb hr (fun t ht hW => ⟨⟨(), rfl, trivial, ⟨f_15, by rw [ht]; exact hP9, hD9⟩⟩, hS.F ht⟩) hS.2.2 dX11_feedNumber_48
set_option maxHeartbeats 4000000 in
set_option maxRecDepth 100000 in
theorem c_X11_feedNumber_8 (l : Launch) (D : va_G) (cT : Nat → ClassId) (h0 : Nat) (p0 : Int32) (x_studio : Nat) (x_script : Nat) (x_teller : Nat) (x_planner : Nat) (x_plan : Nat) (x_drifts : Nat) (x_floor : Nat) (x_trial : Nat) (x_tape : Nat) (fta : Nat → Int32) (sz : Nat)  : Met l yX11_feedNumber wsX11_feedNumber ({ frames := 8, cells := 0, slots := 0, locals := 160 }) (va_Pc [.ref h0, .int p0] (PW D cT [(h0, .inr (11, [.ref x_studio, .ref x_script, .ref x_teller, .ref x_planner, .ref x_plan, .ref x_drifts, .ref x_floor, .ref x_trial, .ref x_tape, .int 8, .int (-1)])), (x_tape, .inl (cT 1, 400, .inl fta))] sz)) (va_Qv (fun _ : Unit => True) (fun (_ : Unit) (t : State) => ∃ (fta2 : Nat → Int32), va_P D vwCl [(h0, .inr (11, [.ref x_studio, .ref x_script, .ref x_teller, .ref x_planner, .ref x_plan, .ref x_drifts, .ref x_floor, .ref x_trial, .ref x_tape, .int 12, .int (-1)])), (x_tape, .inl (cT 1, 400, .inl fta2))] t.heap ∧ va_D (va_A [(h0, .inr (11, [.ref x_studio, .ref x_script, .ref x_teller, .ref x_planner, .ref x_plan, .ref x_drifts, .ref x_floor, .ref x_trial, .ref x_tape, .int 8, .int (-1)])), (x_tape, .inl (cT 1, 400, .inl fta))] sz) [(h0, .inr (11, [.ref x_studio, .ref x_script, .ref x_teller, .ref x_planner, .ref x_plan, .ref x_drifts, .ref x_floor, .ref x_trial, .ref x_tape, .int 12, .int (-1)])), (x_tape, .inl (cT 1, 400, .inl fta2))]) (va_A [(h0, .inr (11, [.ref x_studio, .ref x_script, .ref x_teller, .ref x_planner, .ref x_plan, .ref x_drifts, .ref x_floor, .ref x_trial, .ref x_tape, .int 8, .int (-1)])), (x_tape, .inl (cT 1, 400, .inl fta))] sz)) 0 0 (va_A [(h0, .inr (11, [.ref x_studio, .ref x_script, .ref x_teller, .ref x_planner, .ref x_plan, .ref x_drifts, .ref x_floor, .ref x_trial, .ref x_tape, .int 8, .int (-1)])), (x_tape, .inl (cT 1, 400, .inl fta))] sz) := by
  refine Met.ofW (cc := cX11_feedNumber) (maxL := 3) (ret := none) (by decide) rfl ?_
  intro p e s m args below meth c s₁ B hml hv
  obtain ⟨rfl, hsz, hP, hK, hD0, hG⟩ := hv
  have hx := B.exec
  have hb := B.bytes
  have hr := B.returns
  have hts := atoms_spec (ws := wsX11_feedNumber) B.pre
  have hown : s.vm.findClass RX11 = some m.cls := findClass_of_methodNamed B.named
  have hlocks := B.notSynchronized
  subst hsz
  have hD := hD0.self (sz := s.heap.size)
  generalize hAe : va_A [(h0, .inr (11, [.ref x_studio, .ref x_script, .ref x_teller, .ref x_planner, .ref x_plan, .ref x_drifts, .ref x_floor, .ref x_trial, .ref x_tape, .int 8, .int (-1)])), (x_tape, .inl (cT 1, 400, .inl fta))] s.heap.size = A at hD ⊢
  have hA : ∀ q : Nat, s.heap.size ≤ q → A q := fun q h => by rw [← hAe]; exact Or.inr h
  have hS : va_S A s.heap s.heap [] := va_S.rf
  have hP : va_P D vwCl [(h0, .inr (11, [.ref x_studio, .ref x_script, .ref x_teller, .ref x_planner, .ref x_plan, .ref x_drifts, .ref x_floor, .ref x_trial, .ref x_tape, .int 8, .int (-1)])), (x_tape, .inl (cT 1, 400, .inl fta))] s.heap := hP
  have hl := lv_entry ([.ref h0, .int p0]) (n := 3) (Nat.le_of_ble_eq_true rfl)
  rw [lg_entry_eq]
  generalize (lg_sl ([.ref h0, .int p0]) ++ List.replicate (3 - (lg_sl ([.ref h0, .int p0])).length) Slot.unset).toArray = ls at hl ⊢
  have hl : lv_has ls 3 [(0, .ref h0), (1, .int p0)] := hl
  refine lv_bipush (v := 24) hx hb dX11_feedNumber_0 (by decide) ?_
  refine lv_istore_n (lv' := [(2, .int 24), (0, .ref h0), (1, .int p0)]) hx hb dX11_feedNumber_2 rfl hl (by decide) rfl (fun ls hl => ?_)
  refine lv_iload_n hx hb dX11_feedNumber_3 rfl (lv_at hl 0 rfl) ?_
  refine lv_if_lt (tgt := 48) hx hb dX11_feedNumber_4 (by decide) (fun c9 => absurd c9 (by decide)) (fun _ => ?_)
  refine lv_aload_n hx hb dX11_feedNumber_7 rfl (lv_at hl 1 rfl) ?_
  refine va_get (D := D) (ci := 11) (v := .int 8) (C := RX11) (T := TX11) (N := 11) hx hb hts (fun _ h => List.mem_cons_of_mem _ (List.mem_append_right _ h)) hown hK hP 0 rfl rfl 9 (by decide) (hts (.fieldLink RX11 125 "PuppetFilm" "taped" "I") (List.mem_of_getElem? (i := 1) (by decide +kernel))) (fun _ h9 => h9) rfl dX11_feedNumber_8 ?_
  refine lv_aload_n hx hb dX11_feedNumber_11 rfl (lv_at hl 1 rfl) ?_
  refine va_get (D := D) (ci := 11) (v := .ref x_tape) (C := RX11) (T := TX11) (N := 11) hx hb hts (fun _ h => List.mem_cons_of_mem _ (List.mem_append_right _ h)) hown hK hP 0 rfl rfl 8 (by decide) (hts (.fieldLink RX11 67 "PuppetFilm" "tape" "[B") (List.mem_of_getElem? (i := 2) (by decide +kernel))) (fun _ h9 => h9) rfl dX11_feedNumber_12 ?_
  refine va_alen (v := 400) hx hb hK hP 1 1 rfl rfl rfl dX11_feedNumber_15 ?_
  refine lv_icmp_ge (tgt := 42) hx hb dX11_feedNumber_16 (by decide) (fun c9 => absurd c9 (by decide)) (fun _ => ?_)
  refine lv_aload_n hx hb dX11_feedNumber_19 rfl (lv_at hl 1 rfl) ?_
  refine va_get (D := D) (ci := 11) (v := .ref x_tape) (C := RX11) (T := TX11) (N := 11) hx hb hts (fun _ h => List.mem_cons_of_mem _ (List.mem_append_right _ h)) hown hK hP 0 rfl rfl 8 (by decide) (hts (.fieldLink RX11 67 "PuppetFilm" "tape" "[B") (List.mem_of_getElem? (i := 2) (by decide +kernel))) (fun _ h9 => h9) rfl dX11_feedNumber_20 ?_
  refine lv_aload_n hx hb dX11_feedNumber_23 rfl (lv_at hl 1 rfl) ?_
  refine va_get (D := D) (ci := 11) (v := .int 8) (C := RX11) (T := TX11) (N := 11) hx hb hts (fun _ h => List.mem_cons_of_mem _ (List.mem_append_right _ h)) hown hK hP 0 rfl rfl 9 (by decide) (hts (.fieldLink RX11 125 "PuppetFilm" "taped" "I") (List.mem_of_getElem? (i := 1) (by decide +kernel))) (fun _ h9 => h9) rfl dX11_feedNumber_24 ?_
  refine lv_iload_n hx hb dX11_feedNumber_27 rfl (lv_at hl 2 rfl) ?_
  refine lv_iload_n hx hb dX11_feedNumber_28 rfl (lv_at hl 0 rfl) ?_
  refine lv_ishr hx hb dX11_feedNumber_29 ?_
  refine lv_topi (fun x_1 ex_1 => ?_)
  obtain ⟨x_2, ex_2⟩ : ∃ y : Int32, y = (x_1).toInt8.toInt32 := ⟨_, rfl⟩
  refine lv_i2b (v := x_2) hx hb dX11_feedNumber_30 ex_2.symm ?_
  refine va_bast hx hb hK hP hD hS 1 1 rfl rfl (by unfold vp_in; decide) dX11_feedNumber_31 (fun H locs hP hD hS => ?_)
  generalize upd fta (Int32.toNatClampNeg 8) (vp_nar .byte x_2) = f_3 at hP hD
  have hP : va_P D vwCl [(h0, .inr (11, [.ref x_studio, .ref x_script, .ref x_teller, .ref x_planner, .ref x_plan, .ref x_drifts, .ref x_floor, .ref x_trial, .ref x_tape, .int 8, .int (-1)])), (x_tape, .inl (cT 1, 400, .inl f_3))] _ := hP
  have hD : va_D A [(h0, .inr (11, [.ref x_studio, .ref x_script, .ref x_teller, .ref x_planner, .ref x_plan, .ref x_drifts, .ref x_floor, .ref x_trial, .ref x_tape, .int 8, .int (-1)])), (x_tape, .inl (cT 1, 400, .inl f_3))] := hD
  refine lv_aload_n hx hb dX11_feedNumber_32 rfl (lv_at hl 1 rfl) ?_
  refine lv_dup hx hb dX11_feedNumber_33 rfl ?_
  refine va_get (D := D) (ci := 11) (v := .int 8) (C := RX11) (T := TX11) (N := 11) hx hb hts (fun _ h => List.mem_cons_of_mem _ (List.mem_append_right _ h)) hown hK hP 0 rfl rfl 9 (by decide) (hts (.fieldLink RX11 125 "PuppetFilm" "taped" "I") (List.mem_of_getElem? (i := 1) (by decide +kernel))) (fun _ h9 => h9) rfl dX11_feedNumber_34 ?_
  refine lv_iconst (v := 1) hx hb dX11_feedNumber_37 (by decide) ?_
  refine lv_iadd hx hb dX11_feedNumber_38 ?_
  refine lv_topi (fun z_4 ez_4 => ?_)
  obtain rfl : z_4 = 9 := ez_4.trans (by decide)
  refine va_put (D := D) (ci := 11) (v := .int 9) (ty := .int) (C := RX11) (T := TX11) (N := 11) hx hb hts (fun _ h => List.mem_cons_of_mem _ (List.mem_append_right _ h)) tyX11 tyX11_ok nmX11 hown hK hP hD hS 0 rfl rfl 9 (by decide) (hts (.fieldLink RX11 125 "PuppetFilm" "taped" "I") (List.mem_of_getElem? (i := 1) (by decide +kernel))) (fun _ h9 => h9) rfl (by decide +kernel) rfl rfl (Nat.le_of_ble_eq_true rfl) dX11_feedNumber_39 (fun H locs hP hD hS => ?_)
  have hP : va_P D vwCl [(h0, .inr (11, [.ref x_studio, .ref x_script, .ref x_teller, .ref x_planner, .ref x_plan, .ref x_drifts, .ref x_floor, .ref x_trial, .ref x_tape, .int 9, .int (-1)])), (x_tape, .inl (cT 1, 400, .inl f_3))] _ := hP
  have hD : va_D A [(h0, .inr (11, [.ref x_studio, .ref x_script, .ref x_teller, .ref x_planner, .ref x_plan, .ref x_drifts, .ref x_floor, .ref x_trial, .ref x_tape, .int 9, .int (-1)])), (x_tape, .inl (cT 1, 400, .inl f_3))] := hD
  refine lv_iinc (v := 16) (lv' := [(2, .int 16), (0, .ref h0), (1, .int p0)]) hx hb dX11_feedNumber_42 hl (k := 0) rfl (by decide) (by decide) rfl (fun ls hl => ?_)
  refine lv_goto (tgt := 3) hx hb dX11_feedNumber_45 (by decide) ?_
  refine lv_iload_n hx hb dX11_feedNumber_3 rfl (lv_at hl 0 rfl) ?_
  refine lv_if_lt (tgt := 48) hx hb dX11_feedNumber_4 (by decide) (fun c9 => absurd c9 (by decide)) (fun _ => ?_)
  refine lv_aload_n hx hb dX11_feedNumber_7 rfl (lv_at hl 1 rfl) ?_
  refine va_get (D := D) (ci := 11) (v := .int 9) (C := RX11) (T := TX11) (N := 11) hx hb hts (fun _ h => List.mem_cons_of_mem _ (List.mem_append_right _ h)) hown hK hP 0 rfl rfl 9 (by decide) (hts (.fieldLink RX11 125 "PuppetFilm" "taped" "I") (List.mem_of_getElem? (i := 1) (by decide +kernel))) (fun _ h9 => h9) rfl dX11_feedNumber_8 ?_
  refine lv_aload_n hx hb dX11_feedNumber_11 rfl (lv_at hl 1 rfl) ?_
  refine va_get (D := D) (ci := 11) (v := .ref x_tape) (C := RX11) (T := TX11) (N := 11) hx hb hts (fun _ h => List.mem_cons_of_mem _ (List.mem_append_right _ h)) hown hK hP 0 rfl rfl 8 (by decide) (hts (.fieldLink RX11 67 "PuppetFilm" "tape" "[B") (List.mem_of_getElem? (i := 2) (by decide +kernel))) (fun _ h9 => h9) rfl dX11_feedNumber_12 ?_
  refine va_alen (v := 400) hx hb hK hP 1 1 rfl rfl rfl dX11_feedNumber_15 ?_
  refine lv_icmp_ge (tgt := 42) hx hb dX11_feedNumber_16 (by decide) (fun c9 => absurd c9 (by decide)) (fun _ => ?_)
  refine lv_aload_n hx hb dX11_feedNumber_19 rfl (lv_at hl 1 rfl) ?_
  refine va_get (D := D) (ci := 11) (v := .ref x_tape) (C := RX11) (T := TX11) (N := 11) hx hb hts (fun _ h => List.mem_cons_of_mem _ (List.mem_append_right _ h)) hown hK hP 0 rfl rfl 8 (by decide) (hts (.fieldLink RX11 67 "PuppetFilm" "tape" "[B") (List.mem_of_getElem? (i := 2) (by decide +kernel))) (fun _ h9 => h9) rfl dX11_feedNumber_20 ?_
  refine lv_aload_n hx hb dX11_feedNumber_23 rfl (lv_at hl 1 rfl) ?_
  refine va_get (D := D) (ci := 11) (v := .int 9) (C := RX11) (T := TX11) (N := 11) hx hb hts (fun _ h => List.mem_cons_of_mem _ (List.mem_append_right _ h)) hown hK hP 0 rfl rfl 9 (by decide) (hts (.fieldLink RX11 125 "PuppetFilm" "taped" "I") (List.mem_of_getElem? (i := 1) (by decide +kernel))) (fun _ h9 => h9) rfl dX11_feedNumber_24 ?_
  refine lv_iload_n hx hb dX11_feedNumber_27 rfl (lv_at hl 2 rfl) ?_
  refine lv_iload_n hx hb dX11_feedNumber_28 rfl (lv_at hl 0 rfl) ?_
  refine lv_ishr hx hb dX11_feedNumber_29 ?_
  refine lv_topi (fun x_5 ex_5 => ?_)
  obtain ⟨x_6, ex_6⟩ : ∃ y : Int32, y = (x_5).toInt8.toInt32 := ⟨_, rfl⟩
  refine lv_i2b (v := x_6) hx hb dX11_feedNumber_30 ex_6.symm ?_
  refine va_bast hx hb hK hP hD hS 1 1 rfl rfl (by unfold vp_in; decide) dX11_feedNumber_31 (fun H locs hP hD hS => ?_)
  generalize upd f_3 (Int32.toNatClampNeg 9) (vp_nar .byte x_6) = f_7 at hP hD
  have hP : va_P D vwCl [(h0, .inr (11, [.ref x_studio, .ref x_script, .ref x_teller, .ref x_planner, .ref x_plan, .ref x_drifts, .ref x_floor, .ref x_trial, .ref x_tape, .int 9, .int (-1)])), (x_tape, .inl (cT 1, 400, .inl f_7))] _ := hP
  have hD : va_D A [(h0, .inr (11, [.ref x_studio, .ref x_script, .ref x_teller, .ref x_planner, .ref x_plan, .ref x_drifts, .ref x_floor, .ref x_trial, .ref x_tape, .int 9, .int (-1)])), (x_tape, .inl (cT 1, 400, .inl f_7))] := hD
  refine lv_aload_n hx hb dX11_feedNumber_32 rfl (lv_at hl 1 rfl) ?_
  refine lv_dup hx hb dX11_feedNumber_33 rfl ?_
  refine va_get (D := D) (ci := 11) (v := .int 9) (C := RX11) (T := TX11) (N := 11) hx hb hts (fun _ h => List.mem_cons_of_mem _ (List.mem_append_right _ h)) hown hK hP 0 rfl rfl 9 (by decide) (hts (.fieldLink RX11 125 "PuppetFilm" "taped" "I") (List.mem_of_getElem? (i := 1) (by decide +kernel))) (fun _ h9 => h9) rfl dX11_feedNumber_34 ?_
  refine lv_iconst (v := 1) hx hb dX11_feedNumber_37 (by decide) ?_
  refine lv_iadd hx hb dX11_feedNumber_38 ?_
  refine lv_topi (fun z_8 ez_8 => ?_)
  obtain rfl : z_8 = 10 := ez_8.trans (by decide)
  refine va_put (D := D) (ci := 11) (v := .int 10) (ty := .int) (C := RX11) (T := TX11) (N := 11) hx hb hts (fun _ h => List.mem_cons_of_mem _ (List.mem_append_right _ h)) tyX11 tyX11_ok nmX11 hown hK hP hD hS 0 rfl rfl 9 (by decide) (hts (.fieldLink RX11 125 "PuppetFilm" "taped" "I") (List.mem_of_getElem? (i := 1) (by decide +kernel))) (fun _ h9 => h9) rfl (by decide +kernel) rfl rfl (Nat.le_of_ble_eq_true rfl) dX11_feedNumber_39 (fun H locs hP hD hS => ?_)
  have hP : va_P D vwCl [(h0, .inr (11, [.ref x_studio, .ref x_script, .ref x_teller, .ref x_planner, .ref x_plan, .ref x_drifts, .ref x_floor, .ref x_trial, .ref x_tape, .int 10, .int (-1)])), (x_tape, .inl (cT 1, 400, .inl f_7))] _ := hP
  have hD : va_D A [(h0, .inr (11, [.ref x_studio, .ref x_script, .ref x_teller, .ref x_planner, .ref x_plan, .ref x_drifts, .ref x_floor, .ref x_trial, .ref x_tape, .int 10, .int (-1)])), (x_tape, .inl (cT 1, 400, .inl f_7))] := hD
  refine lv_iinc (v := 8) (lv' := [(2, .int 8), (0, .ref h0), (1, .int p0)]) hx hb dX11_feedNumber_42 hl (k := 0) rfl (by decide) (by decide) rfl (fun ls hl => ?_)
  refine lv_goto (tgt := 3) hx hb dX11_feedNumber_45 (by decide) ?_
  refine lv_iload_n hx hb dX11_feedNumber_3 rfl (lv_at hl 0 rfl) ?_
  refine lv_if_lt (tgt := 48) hx hb dX11_feedNumber_4 (by decide) (fun c9 => absurd c9 (by decide)) (fun _ => ?_)
  refine lv_aload_n hx hb dX11_feedNumber_7 rfl (lv_at hl 1 rfl) ?_
  refine va_get (D := D) (ci := 11) (v := .int 10) (C := RX11) (T := TX11) (N := 11) hx hb hts (fun _ h => List.mem_cons_of_mem _ (List.mem_append_right _ h)) hown hK hP 0 rfl rfl 9 (by decide) (hts (.fieldLink RX11 125 "PuppetFilm" "taped" "I") (List.mem_of_getElem? (i := 1) (by decide +kernel))) (fun _ h9 => h9) rfl dX11_feedNumber_8 ?_
  refine lv_aload_n hx hb dX11_feedNumber_11 rfl (lv_at hl 1 rfl) ?_
  refine va_get (D := D) (ci := 11) (v := .ref x_tape) (C := RX11) (T := TX11) (N := 11) hx hb hts (fun _ h => List.mem_cons_of_mem _ (List.mem_append_right _ h)) hown hK hP 0 rfl rfl 8 (by decide) (hts (.fieldLink RX11 67 "PuppetFilm" "tape" "[B") (List.mem_of_getElem? (i := 2) (by decide +kernel))) (fun _ h9 => h9) rfl dX11_feedNumber_12 ?_
  refine va_alen (v := 400) hx hb hK hP 1 1 rfl rfl rfl dX11_feedNumber_15 ?_
  refine lv_icmp_ge (tgt := 42) hx hb dX11_feedNumber_16 (by decide) (fun c9 => absurd c9 (by decide)) (fun _ => ?_)
  refine lv_aload_n hx hb dX11_feedNumber_19 rfl (lv_at hl 1 rfl) ?_
  refine va_get (D := D) (ci := 11) (v := .ref x_tape) (C := RX11) (T := TX11) (N := 11) hx hb hts (fun _ h => List.mem_cons_of_mem _ (List.mem_append_right _ h)) hown hK hP 0 rfl rfl 8 (by decide) (hts (.fieldLink RX11 67 "PuppetFilm" "tape" "[B") (List.mem_of_getElem? (i := 2) (by decide +kernel))) (fun _ h9 => h9) rfl dX11_feedNumber_20 ?_
  refine lv_aload_n hx hb dX11_feedNumber_23 rfl (lv_at hl 1 rfl) ?_
  refine va_get (D := D) (ci := 11) (v := .int 10) (C := RX11) (T := TX11) (N := 11) hx hb hts (fun _ h => List.mem_cons_of_mem _ (List.mem_append_right _ h)) hown hK hP 0 rfl rfl 9 (by decide) (hts (.fieldLink RX11 125 "PuppetFilm" "taped" "I") (List.mem_of_getElem? (i := 1) (by decide +kernel))) (fun _ h9 => h9) rfl dX11_feedNumber_24 ?_
  refine lv_iload_n hx hb dX11_feedNumber_27 rfl (lv_at hl 2 rfl) ?_
  refine lv_iload_n hx hb dX11_feedNumber_28 rfl (lv_at hl 0 rfl) ?_
  refine lv_ishr hx hb dX11_feedNumber_29 ?_
  refine lv_topi (fun x_9 ex_9 => ?_)
  obtain ⟨x_10, ex_10⟩ : ∃ y : Int32, y = (x_9).toInt8.toInt32 := ⟨_, rfl⟩
  refine lv_i2b (v := x_10) hx hb dX11_feedNumber_30 ex_10.symm ?_
  refine va_bast hx hb hK hP hD hS 1 1 rfl rfl (by unfold vp_in; decide) dX11_feedNumber_31 (fun H locs hP hD hS => ?_)
  generalize upd f_7 (Int32.toNatClampNeg 10) (vp_nar .byte x_10) = f_11 at hP hD
  have hP : va_P D vwCl [(h0, .inr (11, [.ref x_studio, .ref x_script, .ref x_teller, .ref x_planner, .ref x_plan, .ref x_drifts, .ref x_floor, .ref x_trial, .ref x_tape, .int 10, .int (-1)])), (x_tape, .inl (cT 1, 400, .inl f_11))] _ := hP
  have hD : va_D A [(h0, .inr (11, [.ref x_studio, .ref x_script, .ref x_teller, .ref x_planner, .ref x_plan, .ref x_drifts, .ref x_floor, .ref x_trial, .ref x_tape, .int 10, .int (-1)])), (x_tape, .inl (cT 1, 400, .inl f_11))] := hD
  refine lv_aload_n hx hb dX11_feedNumber_32 rfl (lv_at hl 1 rfl) ?_
  refine lv_dup hx hb dX11_feedNumber_33 rfl ?_
  refine va_get (D := D) (ci := 11) (v := .int 10) (C := RX11) (T := TX11) (N := 11) hx hb hts (fun _ h => List.mem_cons_of_mem _ (List.mem_append_right _ h)) hown hK hP 0 rfl rfl 9 (by decide) (hts (.fieldLink RX11 125 "PuppetFilm" "taped" "I") (List.mem_of_getElem? (i := 1) (by decide +kernel))) (fun _ h9 => h9) rfl dX11_feedNumber_34 ?_
  refine lv_iconst (v := 1) hx hb dX11_feedNumber_37 (by decide) ?_
  refine lv_iadd hx hb dX11_feedNumber_38 ?_
  refine lv_topi (fun z_12 ez_12 => ?_)
  obtain rfl : z_12 = 11 := ez_12.trans (by decide)
  refine va_put (D := D) (ci := 11) (v := .int 11) (ty := .int) (C := RX11) (T := TX11) (N := 11) hx hb hts (fun _ h => List.mem_cons_of_mem _ (List.mem_append_right _ h)) tyX11 tyX11_ok nmX11 hown hK hP hD hS 0 rfl rfl 9 (by decide) (hts (.fieldLink RX11 125 "PuppetFilm" "taped" "I") (List.mem_of_getElem? (i := 1) (by decide +kernel))) (fun _ h9 => h9) rfl (by decide +kernel) rfl rfl (Nat.le_of_ble_eq_true rfl) dX11_feedNumber_39 (fun H locs hP hD hS => ?_)
  have hP : va_P D vwCl [(h0, .inr (11, [.ref x_studio, .ref x_script, .ref x_teller, .ref x_planner, .ref x_plan, .ref x_drifts, .ref x_floor, .ref x_trial, .ref x_tape, .int 11, .int (-1)])), (x_tape, .inl (cT 1, 400, .inl f_11))] _ := hP
  have hD : va_D A [(h0, .inr (11, [.ref x_studio, .ref x_script, .ref x_teller, .ref x_planner, .ref x_plan, .ref x_drifts, .ref x_floor, .ref x_trial, .ref x_tape, .int 11, .int (-1)])), (x_tape, .inl (cT 1, 400, .inl f_11))] := hD
  refine lv_iinc (v := 0) (lv' := [(2, .int 0), (0, .ref h0), (1, .int p0)]) hx hb dX11_feedNumber_42 hl (k := 0) rfl (by decide) (by decide) rfl (fun ls hl => ?_)
  refine lv_goto (tgt := 3) hx hb dX11_feedNumber_45 (by decide) ?_
  refine lv_iload_n hx hb dX11_feedNumber_3 rfl (lv_at hl 0 rfl) ?_
  refine lv_if_lt (tgt := 48) hx hb dX11_feedNumber_4 (by decide) (fun c9 => absurd c9 (by decide)) (fun _ => ?_)
  refine lv_aload_n hx hb dX11_feedNumber_7 rfl (lv_at hl 1 rfl) ?_
  refine va_get (D := D) (ci := 11) (v := .int 11) (C := RX11) (T := TX11) (N := 11) hx hb hts (fun _ h => List.mem_cons_of_mem _ (List.mem_append_right _ h)) hown hK hP 0 rfl rfl 9 (by decide) (hts (.fieldLink RX11 125 "PuppetFilm" "taped" "I") (List.mem_of_getElem? (i := 1) (by decide +kernel))) (fun _ h9 => h9) rfl dX11_feedNumber_8 ?_
  refine lv_aload_n hx hb dX11_feedNumber_11 rfl (lv_at hl 1 rfl) ?_
  refine va_get (D := D) (ci := 11) (v := .ref x_tape) (C := RX11) (T := TX11) (N := 11) hx hb hts (fun _ h => List.mem_cons_of_mem _ (List.mem_append_right _ h)) hown hK hP 0 rfl rfl 8 (by decide) (hts (.fieldLink RX11 67 "PuppetFilm" "tape" "[B") (List.mem_of_getElem? (i := 2) (by decide +kernel))) (fun _ h9 => h9) rfl dX11_feedNumber_12 ?_
  refine va_alen (v := 400) hx hb hK hP 1 1 rfl rfl rfl dX11_feedNumber_15 ?_
  refine lv_icmp_ge (tgt := 42) hx hb dX11_feedNumber_16 (by decide) (fun c9 => absurd c9 (by decide)) (fun _ => ?_)
  refine lv_aload_n hx hb dX11_feedNumber_19 rfl (lv_at hl 1 rfl) ?_
  refine va_get (D := D) (ci := 11) (v := .ref x_tape) (C := RX11) (T := TX11) (N := 11) hx hb hts (fun _ h => List.mem_cons_of_mem _ (List.mem_append_right _ h)) hown hK hP 0 rfl rfl 8 (by decide) (hts (.fieldLink RX11 67 "PuppetFilm" "tape" "[B") (List.mem_of_getElem? (i := 2) (by decide +kernel))) (fun _ h9 => h9) rfl dX11_feedNumber_20 ?_
  refine lv_aload_n hx hb dX11_feedNumber_23 rfl (lv_at hl 1 rfl) ?_
  refine va_get (D := D) (ci := 11) (v := .int 11) (C := RX11) (T := TX11) (N := 11) hx hb hts (fun _ h => List.mem_cons_of_mem _ (List.mem_append_right _ h)) hown hK hP 0 rfl rfl 9 (by decide) (hts (.fieldLink RX11 125 "PuppetFilm" "taped" "I") (List.mem_of_getElem? (i := 1) (by decide +kernel))) (fun _ h9 => h9) rfl dX11_feedNumber_24 ?_
  refine lv_iload_n hx hb dX11_feedNumber_27 rfl (lv_at hl 2 rfl) ?_
  refine lv_iload_n hx hb dX11_feedNumber_28 rfl (lv_at hl 0 rfl) ?_
  refine lv_ishr hx hb dX11_feedNumber_29 ?_
  refine lv_topi (fun x_13 ex_13 => ?_)
  obtain ⟨x_14, ex_14⟩ : ∃ y : Int32, y = (x_13).toInt8.toInt32 := ⟨_, rfl⟩
  refine lv_i2b (v := x_14) hx hb dX11_feedNumber_30 ex_14.symm ?_
  refine va_bast hx hb hK hP hD hS 1 1 rfl rfl (by unfold vp_in; decide) dX11_feedNumber_31 (fun H locs hP hD hS => ?_)
  generalize upd f_11 (Int32.toNatClampNeg 11) (vp_nar .byte x_14) = f_15 at hP hD
  have hP : va_P D vwCl [(h0, .inr (11, [.ref x_studio, .ref x_script, .ref x_teller, .ref x_planner, .ref x_plan, .ref x_drifts, .ref x_floor, .ref x_trial, .ref x_tape, .int 11, .int (-1)])), (x_tape, .inl (cT 1, 400, .inl f_15))] _ := hP
  have hD : va_D A [(h0, .inr (11, [.ref x_studio, .ref x_script, .ref x_teller, .ref x_planner, .ref x_plan, .ref x_drifts, .ref x_floor, .ref x_trial, .ref x_tape, .int 11, .int (-1)])), (x_tape, .inl (cT 1, 400, .inl f_15))] := hD
  refine lv_aload_n hx hb dX11_feedNumber_32 rfl (lv_at hl 1 rfl) ?_
  refine lv_dup hx hb dX11_feedNumber_33 rfl ?_
  refine va_get (D := D) (ci := 11) (v := .int 11) (C := RX11) (T := TX11) (N := 11) hx hb hts (fun _ h => List.mem_cons_of_mem _ (List.mem_append_right _ h)) hown hK hP 0 rfl rfl 9 (by decide) (hts (.fieldLink RX11 125 "PuppetFilm" "taped" "I") (List.mem_of_getElem? (i := 1) (by decide +kernel))) (fun _ h9 => h9) rfl dX11_feedNumber_34 ?_
  refine lv_iconst (v := 1) hx hb dX11_feedNumber_37 (by decide) ?_
  refine lv_iadd hx hb dX11_feedNumber_38 ?_
  refine lv_topi (fun z_16 ez_16 => ?_)
  obtain rfl : z_16 = 12 := ez_16.trans (by decide)
  refine va_put (D := D) (ci := 11) (v := .int 12) (ty := .int) (C := RX11) (T := TX11) (N := 11) hx hb hts (fun _ h => List.mem_cons_of_mem _ (List.mem_append_right _ h)) tyX11 tyX11_ok nmX11 hown hK hP hD hS 0 rfl rfl 9 (by decide) (hts (.fieldLink RX11 125 "PuppetFilm" "taped" "I") (List.mem_of_getElem? (i := 1) (by decide +kernel))) (fun _ h9 => h9) rfl (by decide +kernel) rfl rfl (Nat.le_of_ble_eq_true rfl) dX11_feedNumber_39 (fun H locs hP hD hS => ?_)
  have hP : va_P D vwCl [(h0, .inr (11, [.ref x_studio, .ref x_script, .ref x_teller, .ref x_planner, .ref x_plan, .ref x_drifts, .ref x_floor, .ref x_trial, .ref x_tape, .int 12, .int (-1)])), (x_tape, .inl (cT 1, 400, .inl f_15))] _ := hP
  have hD : va_D A [(h0, .inr (11, [.ref x_studio, .ref x_script, .ref x_teller, .ref x_planner, .ref x_plan, .ref x_drifts, .ref x_floor, .ref x_trial, .ref x_tape, .int 12, .int (-1)])), (x_tape, .inl (cT 1, 400, .inl f_15))] := hD
  refine lv_iinc (v := (-8)) (lv' := [(2, .int (-8)), (0, .ref h0), (1, .int p0)]) hx hb dX11_feedNumber_42 hl (k := 0) rfl (by decide) (by decide) rfl (fun ls hl => ?_)
  refine lv_goto (tgt := 3) hx hb dX11_feedNumber_45 (by decide) ?_
  refine lv_iload_n hx hb dX11_feedNumber_3 rfl (lv_at hl 0 rfl) ?_
  refine lv_if_lt (tgt := 48) hx hb dX11_feedNumber_4 (by decide) (fun _ => ?_) (fun c9 => absurd c9 (by decide))
  have hP9 := hP.sub (ws' := [(h0, .inr (11, [.ref x_studio, .ref x_script, .ref x_teller, .ref x_planner, .ref x_plan, .ref x_drifts, .ref x_floor, .ref x_trial, .ref x_tape, .int 12, .int (-1)])), (x_tape, .inl (cT 1, 400, .inl f_15))]) [0, 1] rfl
  have hD9 := hD.sub (ws' := [(h0, .inr (11, [.ref x_studio, .ref x_script, .ref x_teller, .ref x_planner, .ref x_plan, .ref x_drifts, .ref x_floor, .ref x_trial, .ref x_tape, .int 12, .int (-1)])), (x_tape, .inl (cT 1, 400, .inl f_15))]) [0, 1] (by decide) rfl
  exact W.vret hx hb hr (fun t ht hW => ⟨⟨(), rfl, trivial, ⟨f_15, by rw [ht]; exact hP9, hD9⟩⟩, hS.F ht⟩) hS.2.2 dX11_feedNumber_48
set_option maxHeartbeats 4000000 in
set_option maxRecDepth 100000 in
theorem c_X11_feedNumber_12 (l : Launch) (D : va_G) (cT : Nat → ClassId) (h0 : Nat) (p0 : Int32) (x_studio : Nat) (x_script : Nat) (x_teller : Nat) (x_planner : Nat) (x_plan : Nat) (x_drifts : Nat) (x_floor : Nat) (x_trial : Nat) (x_tape : Nat) (fta : Nat → Int32) (sz : Nat)  : Met l yX11_feedNumber wsX11_feedNumber ({ frames := 8, cells := 0, slots := 0, locals := 160 }) (va_Pc [.ref h0, .int p0] (PW D cT [(h0, .inr (11, [.ref x_studio, .ref x_script, .ref x_teller, .ref x_planner, .ref x_plan, .ref x_drifts, .ref x_floor, .ref x_trial, .ref x_tape, .int 12, .int (-1)])), (x_tape, .inl (cT 1, 400, .inl fta))] sz)) (va_Qv (fun _ : Unit => True) (fun (_ : Unit) (t : State) => ∃ (fta2 : Nat → Int32), va_P D vwCl [(h0, .inr (11, [.ref x_studio, .ref x_script, .ref x_teller, .ref x_planner, .ref x_plan, .ref x_drifts, .ref x_floor, .ref x_trial, .ref x_tape, .int 16, .int (-1)])), (x_tape, .inl (cT 1, 400, .inl fta2))] t.heap ∧ va_D (va_A [(h0, .inr (11, [.ref x_studio, .ref x_script, .ref x_teller, .ref x_planner, .ref x_plan, .ref x_drifts, .ref x_floor, .ref x_trial, .ref x_tape, .int 12, .int (-1)])), (x_tape, .inl (cT 1, 400, .inl fta))] sz) [(h0, .inr (11, [.ref x_studio, .ref x_script, .ref x_teller, .ref x_planner, .ref x_plan, .ref x_drifts, .ref x_floor, .ref x_trial, .ref x_tape, .int 16, .int (-1)])), (x_tape, .inl (cT 1, 400, .inl fta2))]) (va_A [(h0, .inr (11, [.ref x_studio, .ref x_script, .ref x_teller, .ref x_planner, .ref x_plan, .ref x_drifts, .ref x_floor, .ref x_trial, .ref x_tape, .int 12, .int (-1)])), (x_tape, .inl (cT 1, 400, .inl fta))] sz)) 0 0 (va_A [(h0, .inr (11, [.ref x_studio, .ref x_script, .ref x_teller, .ref x_planner, .ref x_plan, .ref x_drifts, .ref x_floor, .ref x_trial, .ref x_tape, .int 12, .int (-1)])), (x_tape, .inl (cT 1, 400, .inl fta))] sz) := by
  refine Met.ofW (cc := cX11_feedNumber) (maxL := 3) (ret := none) (by decide) rfl ?_
  intro p e s m args below meth c s₁ B hml hv
  obtain ⟨rfl, hsz, hP, hK, hD0, hG⟩ := hv
  have hx := B.exec
  have hb := B.bytes
  have hr := B.returns
  have hts := atoms_spec (ws := wsX11_feedNumber) B.pre
  have hown : s.vm.findClass RX11 = some m.cls := findClass_of_methodNamed B.named
  have hlocks := B.notSynchronized
  subst hsz
  have hD := hD0.self (sz := s.heap.size)
  generalize hAe : va_A [(h0, .inr (11, [.ref x_studio, .ref x_script, .ref x_teller, .ref x_planner, .ref x_plan, .ref x_drifts, .ref x_floor, .ref x_trial, .ref x_tape, .int 12, .int (-1)])), (x_tape, .inl (cT 1, 400, .inl fta))] s.heap.size = A at hD ⊢
  have hA : ∀ q : Nat, s.heap.size ≤ q → A q := fun q h => by rw [← hAe]; exact Or.inr h
  have hS : va_S A s.heap s.heap [] := va_S.rf
  have hP : va_P D vwCl [(h0, .inr (11, [.ref x_studio, .ref x_script, .ref x_teller, .ref x_planner, .ref x_plan, .ref x_drifts, .ref x_floor, .ref x_trial, .ref x_tape, .int 12, .int (-1)])), (x_tape, .inl (cT 1, 400, .inl fta))] s.heap := hP
  have hl := lv_entry ([.ref h0, .int p0]) (n := 3) (Nat.le_of_ble_eq_true rfl)
  rw [lg_entry_eq]
  generalize (lg_sl ([.ref h0, .int p0]) ++ List.replicate (3 - (lg_sl ([.ref h0, .int p0])).length) Slot.unset).toArray = ls at hl ⊢
  have hl : lv_has ls 3 [(0, .ref h0), (1, .int p0)] := hl
  refine lv_bipush (v := 24) hx hb dX11_feedNumber_0 (by decide) ?_
  refine lv_istore_n (lv' := [(2, .int 24), (0, .ref h0), (1, .int p0)]) hx hb dX11_feedNumber_2 rfl hl (by decide) rfl (fun ls hl => ?_)
  refine lv_iload_n hx hb dX11_feedNumber_3 rfl (lv_at hl 0 rfl) ?_
  refine lv_if_lt (tgt := 48) hx hb dX11_feedNumber_4 (by decide) (fun c9 => absurd c9 (by decide)) (fun _ => ?_)
  refine lv_aload_n hx hb dX11_feedNumber_7 rfl (lv_at hl 1 rfl) ?_
  refine va_get (D := D) (ci := 11) (v := .int 12) (C := RX11) (T := TX11) (N := 11) hx hb hts (fun _ h => List.mem_cons_of_mem _ (List.mem_append_right _ h)) hown hK hP 0 rfl rfl 9 (by decide) (hts (.fieldLink RX11 125 "PuppetFilm" "taped" "I") (List.mem_of_getElem? (i := 1) (by decide +kernel))) (fun _ h9 => h9) rfl dX11_feedNumber_8 ?_
  refine lv_aload_n hx hb dX11_feedNumber_11 rfl (lv_at hl 1 rfl) ?_
  refine va_get (D := D) (ci := 11) (v := .ref x_tape) (C := RX11) (T := TX11) (N := 11) hx hb hts (fun _ h => List.mem_cons_of_mem _ (List.mem_append_right _ h)) hown hK hP 0 rfl rfl 8 (by decide) (hts (.fieldLink RX11 67 "PuppetFilm" "tape" "[B") (List.mem_of_getElem? (i := 2) (by decide +kernel))) (fun _ h9 => h9) rfl dX11_feedNumber_12 ?_
  refine va_alen (v := 400) hx hb hK hP 1 1 rfl rfl rfl dX11_feedNumber_15 ?_
  refine lv_icmp_ge (tgt := 42) hx hb dX11_feedNumber_16 (by decide) (fun c9 => absurd c9 (by decide)) (fun _ => ?_)
  refine lv_aload_n hx hb dX11_feedNumber_19 rfl (lv_at hl 1 rfl) ?_
  refine va_get (D := D) (ci := 11) (v := .ref x_tape) (C := RX11) (T := TX11) (N := 11) hx hb hts (fun _ h => List.mem_cons_of_mem _ (List.mem_append_right _ h)) hown hK hP 0 rfl rfl 8 (by decide) (hts (.fieldLink RX11 67 "PuppetFilm" "tape" "[B") (List.mem_of_getElem? (i := 2) (by decide +kernel))) (fun _ h9 => h9) rfl dX11_feedNumber_20 ?_
  refine lv_aload_n hx hb dX11_feedNumber_23 rfl (lv_at hl 1 rfl) ?_
  refine va_get (D := D) (ci := 11) (v := .int 12) (C := RX11) (T := TX11) (N := 11) hx hb hts (fun _ h => List.mem_cons_of_mem _ (List.mem_append_right _ h)) hown hK hP 0 rfl rfl 9 (by decide) (hts (.fieldLink RX11 125 "PuppetFilm" "taped" "I") (List.mem_of_getElem? (i := 1) (by decide +kernel))) (fun _ h9 => h9) rfl dX11_feedNumber_24 ?_
  refine lv_iload_n hx hb dX11_feedNumber_27 rfl (lv_at hl 2 rfl) ?_
  refine lv_iload_n hx hb dX11_feedNumber_28 rfl (lv_at hl 0 rfl) ?_
  refine lv_ishr hx hb dX11_feedNumber_29 ?_
  refine lv_topi (fun x_1 ex_1 => ?_)
  obtain ⟨x_2, ex_2⟩ : ∃ y : Int32, y = (x_1).toInt8.toInt32 := ⟨_, rfl⟩
  refine lv_i2b (v := x_2) hx hb dX11_feedNumber_30 ex_2.symm ?_
  refine va_bast hx hb hK hP hD hS 1 1 rfl rfl (by unfold vp_in; decide) dX11_feedNumber_31 (fun H locs hP hD hS => ?_)
  generalize upd fta (Int32.toNatClampNeg 12) (vp_nar .byte x_2) = f_3 at hP hD
  have hP : va_P D vwCl [(h0, .inr (11, [.ref x_studio, .ref x_script, .ref x_teller, .ref x_planner, .ref x_plan, .ref x_drifts, .ref x_floor, .ref x_trial, .ref x_tape, .int 12, .int (-1)])), (x_tape, .inl (cT 1, 400, .inl f_3))] _ := hP
  have hD : va_D A [(h0, .inr (11, [.ref x_studio, .ref x_script, .ref x_teller, .ref x_planner, .ref x_plan, .ref x_drifts, .ref x_floor, .ref x_trial, .ref x_tape, .int 12, .int (-1)])), (x_tape, .inl (cT 1, 400, .inl f_3))] := hD
  refine lv_aload_n hx hb dX11_feedNumber_32 rfl (lv_at hl 1 rfl) ?_
  refine lv_dup hx hb dX11_feedNumber_33 rfl ?_
  refine va_get (D := D) (ci := 11) (v := .int 12) (C := RX11) (T := TX11) (N := 11) hx hb hts (fun _ h => List.mem_cons_of_mem _ (List.mem_append_right _ h)) hown hK hP 0 rfl rfl 9 (by decide) (hts (.fieldLink RX11 125 "PuppetFilm" "taped" "I") (List.mem_of_getElem? (i := 1) (by decide +kernel))) (fun _ h9 => h9) rfl dX11_feedNumber_34 ?_
  refine lv_iconst (v := 1) hx hb dX11_feedNumber_37 (by decide) ?_
  refine lv_iadd hx hb dX11_feedNumber_38 ?_
  refine lv_topi (fun z_4 ez_4 => ?_)
  obtain rfl : z_4 = 13 := ez_4.trans (by decide)
  refine va_put (D := D) (ci := 11) (v := .int 13) (ty := .int) (C := RX11) (T := TX11) (N := 11) hx hb hts (fun _ h => List.mem_cons_of_mem _ (List.mem_append_right _ h)) tyX11 tyX11_ok nmX11 hown hK hP hD hS 0 rfl rfl 9 (by decide) (hts (.fieldLink RX11 125 "PuppetFilm" "taped" "I") (List.mem_of_getElem? (i := 1) (by decide +kernel))) (fun _ h9 => h9) rfl (by decide +kernel) rfl rfl (Nat.le_of_ble_eq_true rfl) dX11_feedNumber_39 (fun H locs hP hD hS => ?_)
  have hP : va_P D vwCl [(h0, .inr (11, [.ref x_studio, .ref x_script, .ref x_teller, .ref x_planner, .ref x_plan, .ref x_drifts, .ref x_floor, .ref x_trial, .ref x_tape, .int 13, .int (-1)])), (x_tape, .inl (cT 1, 400, .inl f_3))] _ := hP
  have hD : va_D A [(h0, .inr (11, [.ref x_studio, .ref x_script, .ref x_teller, .ref x_planner, .ref x_plan, .ref x_drifts, .ref x_floor, .ref x_trial, .ref x_tape, .int 13, .int (-1)])), (x_tape, .inl (cT 1, 400, .inl f_3))] := hD
  refine lv_iinc (v := 16) (lv' := [(2, .int 16), (0, .ref h0), (1, .int p0)]) hx hb dX11_feedNumber_42 hl (k := 0) rfl (by decide) (by decide) rfl (fun ls hl => ?_)
  refine lv_goto (tgt := 3) hx hb dX11_feedNumber_45 (by decide) ?_
  refine lv_iload_n hx hb dX11_feedNumber_3 rfl (lv_at hl 0 rfl) ?_
  refine lv_if_lt (tgt := 48) hx hb dX11_feedNumber_4 (by decide) (fun c9 => absurd c9 (by decide)) (fun _ => ?_)
  refine lv_aload_n hx hb dX11_feedNumber_7 rfl (lv_at hl 1 rfl) ?_
  refine va_get (D := D) (ci := 11) (v := .int 13) (C := RX11) (T := TX11) (N := 11) hx hb hts (fun _ h => List.mem_cons_of_mem _ (List.mem_append_right _ h)) hown hK hP 0 rfl rfl 9 (by decide) (hts (.fieldLink RX11 125 "PuppetFilm" "taped" "I") (List.mem_of_getElem? (i := 1) (by decide +kernel))) (fun _ h9 => h9) rfl dX11_feedNumber_8 ?_
  refine lv_aload_n hx hb dX11_feedNumber_11 rfl (lv_at hl 1 rfl) ?_
  refine va_get (D := D) (ci := 11) (v := .ref x_tape) (C := RX11) (T := TX11) (N := 11) hx hb hts (fun _ h => List.mem_cons_of_mem _ (List.mem_append_right _ h)) hown hK hP 0 rfl rfl 8 (by decide) (hts (.fieldLink RX11 67 "PuppetFilm" "tape" "[B") (List.mem_of_getElem? (i := 2) (by decide +kernel))) (fun _ h9 => h9) rfl dX11_feedNumber_12 ?_
  refine va_alen (v := 400) hx hb hK hP 1 1 rfl rfl rfl dX11_feedNumber_15 ?_
  refine lv_icmp_ge (tgt := 42) hx hb dX11_feedNumber_16 (by decide) (fun c9 => absurd c9 (by decide)) (fun _ => ?_)
  refine lv_aload_n hx hb dX11_feedNumber_19 rfl (lv_at hl 1 rfl) ?_
  refine va_get (D := D) (ci := 11) (v := .ref x_tape) (C := RX11) (T := TX11) (N := 11) hx hb hts (fun _ h => List.mem_cons_of_mem _ (List.mem_append_right _ h)) hown hK hP 0 rfl rfl 8 (by decide) (hts (.fieldLink RX11 67 "PuppetFilm" "tape" "[B") (List.mem_of_getElem? (i := 2) (by decide +kernel))) (fun _ h9 => h9) rfl dX11_feedNumber_20 ?_
  refine lv_aload_n hx hb dX11_feedNumber_23 rfl (lv_at hl 1 rfl) ?_
  refine va_get (D := D) (ci := 11) (v := .int 13) (C := RX11) (T := TX11) (N := 11) hx hb hts (fun _ h => List.mem_cons_of_mem _ (List.mem_append_right _ h)) hown hK hP 0 rfl rfl 9 (by decide) (hts (.fieldLink RX11 125 "PuppetFilm" "taped" "I") (List.mem_of_getElem? (i := 1) (by decide +kernel))) (fun _ h9 => h9) rfl dX11_feedNumber_24 ?_
  refine lv_iload_n hx hb dX11_feedNumber_27 rfl (lv_at hl 2 rfl) ?_
  refine lv_iload_n hx hb dX11_feedNumber_28 rfl (lv_at hl 0 rfl) ?_
  refine lv_ishr hx hb dX11_feedNumber_29 ?_
  refine lv_topi (fun x_5 ex_5 => ?_)
  obtain ⟨x_6, ex_6⟩ : ∃ y : Int32, y = (x_5).toInt8.toInt32 := ⟨_, rfl⟩
  refine lv_i2b (v := x_6) hx hb dX11_feedNumber_30 ex_6.symm ?_
  refine va_bast hx hb hK hP hD hS 1 1 rfl rfl (by unfold vp_in; decide) dX11_feedNumber_31 (fun H locs hP hD hS => ?_)
  generalize upd f_3 (Int32.toNatClampNeg 13) (vp_nar .byte x_6) = f_7 at hP hD
  have hP : va_P D vwCl [(h0, .inr (11, [.ref x_studio, .ref x_script, .ref x_teller, .ref x_planner, .ref x_plan, .ref x_drifts, .ref x_floor, .ref x_trial, .ref x_tape, .int 13, .int (-1)])), (x_tape, .inl (cT 1, 400, .inl f_7))] _ := hP
  have hD : va_D A [(h0, .inr (11, [.ref x_studio, .ref x_script, .ref x_teller, .ref x_planner, .ref x_plan, .ref x_drifts, .ref x_floor, .ref x_trial, .ref x_tape, .int 13, .int (-1)])), (x_tape, .inl (cT 1, 400, .inl f_7))] := hD
  refine lv_aload_n hx hb dX11_feedNumber_32 rfl (lv_at hl 1 rfl) ?_
  refine lv_dup hx hb dX11_feedNumber_33 rfl ?_
  refine va_get (D := D) (ci := 11) (v := .int 13) (C := RX11) (T := TX11) (N := 11) hx hb hts (fun _ h => List.mem_cons_of_mem _ (List.mem_append_right _ h)) hown hK hP 0 rfl rfl 9 (by decide) (hts (.fieldLink RX11 125 "PuppetFilm" "taped" "I") (List.mem_of_getElem? (i := 1) (by decide +kernel))) (fun _ h9 => h9) rfl dX11_feedNumber_34 ?_
  refine lv_iconst (v := 1) hx hb dX11_feedNumber_37 (by decide) ?_
  refine lv_iadd hx hb dX11_feedNumber_38 ?_
  refine lv_topi (fun z_8 ez_8 => ?_)
  obtain rfl : z_8 = 14 := ez_8.trans (by decide)
  refine va_put (D := D) (ci := 11) (v := .int 14) (ty := .int) (C := RX11) (T := TX11) (N := 11) hx hb hts (fun _ h => List.mem_cons_of_mem _ (List.mem_append_right _ h)) tyX11 tyX11_ok nmX11 hown hK hP hD hS 0 rfl rfl 9 (by decide) (hts (.fieldLink RX11 125 "PuppetFilm" "taped" "I") (List.mem_of_getElem? (i := 1) (by decide +kernel))) (fun _ h9 => h9) rfl (by decide +kernel) rfl rfl (Nat.le_of_ble_eq_true rfl) dX11_feedNumber_39 (fun H locs hP hD hS => ?_)
  have hP : va_P D vwCl [(h0, .inr (11, [.ref x_studio, .ref x_script, .ref x_teller, .ref x_planner, .ref x_plan, .ref x_drifts, .ref x_floor, .ref x_trial, .ref x_tape, .int 14, .int (-1)])), (x_tape, .inl (cT 1, 400, .inl f_7))] _ := hP
  have hD : va_D A [(h0, .inr (11, [.ref x_studio, .ref x_script, .ref x_teller, .ref x_planner, .ref x_plan, .ref x_drifts, .ref x_floor, .ref x_trial, .ref x_tape, .int 14, .int (-1)])), (x_tape, .inl (cT 1, 400, .inl f_7))] := hD
  refine lv_iinc (v := 8) (lv' := [(2, .int 8), (0, .ref h0), (1, .int p0)]) hx hb dX11_feedNumber_42 hl (k := 0) rfl (by decide) (by decide) rfl (fun ls hl => ?_)
  refine lv_goto (tgt := 3) hx hb dX11_feedNumber_45 (by decide) ?_
  refine lv_iload_n hx hb dX11_feedNumber_3 rfl (lv_at hl 0 rfl) ?_
  refine lv_if_lt (tgt := 48) hx hb dX11_feedNumber_4 (by decide) (fun c9 => absurd c9 (by decide)) (fun _ => ?_)
  refine lv_aload_n hx hb dX11_feedNumber_7 rfl (lv_at hl 1 rfl) ?_
  refine va_get (D := D) (ci := 11) (v := .int 14) (C := RX11) (T := TX11) (N := 11) hx hb hts (fun _ h => List.mem_cons_of_mem _ (List.mem_append_right _ h)) hown hK hP 0 rfl rfl 9 (by decide) (hts (.fieldLink RX11 125 "PuppetFilm" "taped" "I") (List.mem_of_getElem? (i := 1) (by decide +kernel))) (fun _ h9 => h9) rfl dX11_feedNumber_8 ?_
  refine lv_aload_n hx hb dX11_feedNumber_11 rfl (lv_at hl 1 rfl) ?_
  refine va_get (D := D) (ci := 11) (v := .ref x_tape) (C := RX11) (T := TX11) (N := 11) hx hb hts (fun _ h => List.mem_cons_of_mem _ (List.mem_append_right _ h)) hown hK hP 0 rfl rfl 8 (by decide) (hts (.fieldLink RX11 67 "PuppetFilm" "tape" "[B") (List.mem_of_getElem? (i := 2) (by decide +kernel))) (fun _ h9 => h9) rfl dX11_feedNumber_12 ?_
  refine va_alen (v := 400) hx hb hK hP 1 1 rfl rfl rfl dX11_feedNumber_15 ?_
  refine lv_icmp_ge (tgt := 42) hx hb dX11_feedNumber_16 (by decide) (fun c9 => absurd c9 (by decide)) (fun _ => ?_)
  refine lv_aload_n hx hb dX11_feedNumber_19 rfl (lv_at hl 1 rfl) ?_
  refine va_get (D := D) (ci := 11) (v := .ref x_tape) (C := RX11) (T := TX11) (N := 11) hx hb hts (fun _ h => List.mem_cons_of_mem _ (List.mem_append_right _ h)) hown hK hP 0 rfl rfl 8 (by decide) (hts (.fieldLink RX11 67 "PuppetFilm" "tape" "[B") (List.mem_of_getElem? (i := 2) (by decide +kernel))) (fun _ h9 => h9) rfl dX11_feedNumber_20 ?_
  refine lv_aload_n hx hb dX11_feedNumber_23 rfl (lv_at hl 1 rfl) ?_
  refine va_get (D := D) (ci := 11) (v := .int 14) (C := RX11) (T := TX11) (N := 11) hx hb hts (fun _ h => List.mem_cons_of_mem _ (List.mem_append_right _ h)) hown hK hP 0 rfl rfl 9 (by decide) (hts (.fieldLink RX11 125 "PuppetFilm" "taped" "I") (List.mem_of_getElem? (i := 1) (by decide +kernel))) (fun _ h9 => h9) rfl dX11_feedNumber_24 ?_
  refine lv_iload_n hx hb dX11_feedNumber_27 rfl (lv_at hl 2 rfl) ?_
  refine lv_iload_n hx hb dX11_feedNumber_28 rfl (lv_at hl 0 rfl) ?_
  refine lv_ishr hx hb dX11_feedNumber_29 ?_
  refine lv_topi (fun x_9 ex_9 => ?_)
  obtain ⟨x_10, ex_10⟩ : ∃ y : Int32, y = (x_9).toInt8.toInt32 := ⟨_, rfl⟩
  refine lv_i2b (v := x_10) hx hb dX11_feedNumber_30 ex_10.symm ?_
  refine va_bast hx hb hK hP hD hS 1 1 rfl rfl (by unfold vp_in; decide) dX11_feedNumber_31 (fun H locs hP hD hS => ?_)
  generalize upd f_7 (Int32.toNatClampNeg 14) (vp_nar .byte x_10) = f_11 at hP hD
  have hP : va_P D vwCl [(h0, .inr (11, [.ref x_studio, .ref x_script, .ref x_teller, .ref x_planner, .ref x_plan, .ref x_drifts, .ref x_floor, .ref x_trial, .ref x_tape, .int 14, .int (-1)])), (x_tape, .inl (cT 1, 400, .inl f_11))] _ := hP
  have hD : va_D A [(h0, .inr (11, [.ref x_studio, .ref x_script, .ref x_teller, .ref x_planner, .ref x_plan, .ref x_drifts, .ref x_floor, .ref x_trial, .ref x_tape, .int 14, .int (-1)])), (x_tape, .inl (cT 1, 400, .inl f_11))] := hD
  refine lv_aload_n hx hb dX11_feedNumber_32 rfl (lv_at hl 1 rfl) ?_
  refine lv_dup hx hb dX11_feedNumber_33 rfl ?_
  refine va_get (D := D) (ci := 11) (v := .int 14) (C := RX11) (T := TX11) (N := 11) hx hb hts (fun _ h => List.mem_cons_of_mem _ (List.mem_append_right _ h)) hown hK hP 0 rfl rfl 9 (by decide) (hts (.fieldLink RX11 125 "PuppetFilm" "taped" "I") (List.mem_of_getElem? (i := 1) (by decide +kernel))) (fun _ h9 => h9) rfl dX11_feedNumber_34 ?_
  refine lv_iconst (v := 1) hx hb dX11_feedNumber_37 (by decide) ?_
  refine lv_iadd hx hb dX11_feedNumber_38 ?_
  refine lv_topi (fun z_12 ez_12 => ?_)
  obtain rfl : z_12 = 15 := ez_12.trans (by decide)
  refine va_put (D := D) (ci := 11) (v := .int 15) (ty := .int) (C := RX11) (T := TX11) (N := 11) hx hb hts (fun _ h => List.mem_cons_of_mem _ (List.mem_append_right _ h)) tyX11 tyX11_ok nmX11 hown hK hP hD hS 0 rfl rfl 9 (by decide) (hts (.fieldLink RX11 125 "PuppetFilm" "taped" "I") (List.mem_of_getElem? (i := 1) (by decide +kernel))) (fun _ h9 => h9) rfl (by decide +kernel) rfl rfl (Nat.le_of_ble_eq_true rfl) dX11_feedNumber_39 (fun H locs hP hD hS => ?_)
  have hP : va_P D vwCl [(h0, .inr (11, [.ref x_studio, .ref x_script, .ref x_teller, .ref x_planner, .ref x_plan, .ref x_drifts, .ref x_floor, .ref x_trial, .ref x_tape, .int 15, .int (-1)])), (x_tape, .inl (cT 1, 400, .inl f_11))] _ := hP
  have hD : va_D A [(h0, .inr (11, [.ref x_studio, .ref x_script, .ref x_teller, .ref x_planner, .ref x_plan, .ref x_drifts, .ref x_floor, .ref x_trial, .ref x_tape, .int 15, .int (-1)])), (x_tape, .inl (cT 1, 400, .inl f_11))] := hD
  refine lv_iinc (v := 0) (lv' := [(2, .int 0), (0, .ref h0), (1, .int p0)]) hx hb dX11_feedNumber_42 hl (k := 0) rfl (by decide) (by decide) rfl (fun ls hl => ?_)
  refine lv_goto (tgt := 3) hx hb dX11_feedNumber_45 (by decide) ?_
  refine lv_iload_n hx hb dX11_feedNumber_3 rfl (lv_at hl 0 rfl) ?_
  refine lv_if_lt (tgt := 48) hx hb dX11_feedNumber_4 (by decide) (fun c9 => absurd c9 (by decide)) (fun _ => ?_)
  refine lv_aload_n hx hb dX11_feedNumber_7 rfl (lv_at hl 1 rfl) ?_
  refine va_get (D := D) (ci := 11) (v := .int 15) (C := RX11) (T := TX11) (N := 11) hx hb hts (fun _ h => List.mem_cons_of_mem _ (List.mem_append_right _ h)) hown hK hP 0 rfl rfl 9 (by decide) (hts (.fieldLink RX11 125 "PuppetFilm" "taped" "I") (List.mem_of_getElem? (i := 1) (by decide +kernel))) (fun _ h9 => h9) rfl dX11_feedNumber_8 ?_
  refine lv_aload_n hx hb dX11_feedNumber_11 rfl (lv_at hl 1 rfl) ?_
  refine va_get (D := D) (ci := 11) (v := .ref x_tape) (C := RX11) (T := TX11) (N := 11) hx hb hts (fun _ h => List.mem_cons_of_mem _ (List.mem_append_right _ h)) hown hK hP 0 rfl rfl 8 (by decide) (hts (.fieldLink RX11 67 "PuppetFilm" "tape" "[B") (List.mem_of_getElem? (i := 2) (by decide +kernel))) (fun _ h9 => h9) rfl dX11_feedNumber_12 ?_
  refine va_alen (v := 400) hx hb hK hP 1 1 rfl rfl rfl dX11_feedNumber_15 ?_
  refine lv_icmp_ge (tgt := 42) hx hb dX11_feedNumber_16 (by decide) (fun c9 => absurd c9 (by decide)) (fun _ => ?_)
  refine lv_aload_n hx hb dX11_feedNumber_19 rfl (lv_at hl 1 rfl) ?_
  refine va_get (D := D) (ci := 11) (v := .ref x_tape) (C := RX11) (T := TX11) (N := 11) hx hb hts (fun _ h => List.mem_cons_of_mem _ (List.mem_append_right _ h)) hown hK hP 0 rfl rfl 8 (by decide) (hts (.fieldLink RX11 67 "PuppetFilm" "tape" "[B") (List.mem_of_getElem? (i := 2) (by decide +kernel))) (fun _ h9 => h9) rfl dX11_feedNumber_20 ?_
  refine lv_aload_n hx hb dX11_feedNumber_23 rfl (lv_at hl 1 rfl) ?_
  refine va_get (D := D) (ci := 11) (v := .int 15) (C := RX11) (T := TX11) (N := 11) hx hb hts (fun _ h => List.mem_cons_of_mem _ (List.mem_append_right _ h)) hown hK hP 0 rfl rfl 9 (by decide) (hts (.fieldLink RX11 125 "PuppetFilm" "taped" "I") (List.mem_of_getElem? (i := 1) (by decide +kernel))) (fun _ h9 => h9) rfl dX11_feedNumber_24 ?_
  refine lv_iload_n hx hb dX11_feedNumber_27 rfl (lv_at hl 2 rfl) ?_
  refine lv_iload_n hx hb dX11_feedNumber_28 rfl (lv_at hl 0 rfl) ?_
  refine lv_ishr hx hb dX11_feedNumber_29 ?_
  refine lv_topi (fun x_13 ex_13 => ?_)
  obtain ⟨x_14, ex_14⟩ : ∃ y : Int32, y = (x_13).toInt8.toInt32 := ⟨_, rfl⟩
  refine lv_i2b (v := x_14) hx hb dX11_feedNumber_30 ex_14.symm ?_
  refine va_bast hx hb hK hP hD hS 1 1 rfl rfl (by unfold vp_in; decide) dX11_feedNumber_31 (fun H locs hP hD hS => ?_)
  generalize upd f_11 (Int32.toNatClampNeg 15) (vp_nar .byte x_14) = f_15 at hP hD
  have hP : va_P D vwCl [(h0, .inr (11, [.ref x_studio, .ref x_script, .ref x_teller, .ref x_planner, .ref x_plan, .ref x_drifts, .ref x_floor, .ref x_trial, .ref x_tape, .int 15, .int (-1)])), (x_tape, .inl (cT 1, 400, .inl f_15))] _ := hP
  have hD : va_D A [(h0, .inr (11, [.ref x_studio, .ref x_script, .ref x_teller, .ref x_planner, .ref x_plan, .ref x_drifts, .ref x_floor, .ref x_trial, .ref x_tape, .int 15, .int (-1)])), (x_tape, .inl (cT 1, 400, .inl f_15))] := hD
  refine lv_aload_n hx hb dX11_feedNumber_32 rfl (lv_at hl 1 rfl) ?_
  refine lv_dup hx hb dX11_feedNumber_33 rfl ?_
  refine va_get (D := D) (ci := 11) (v := .int 15) (C := RX11) (T := TX11) (N := 11) hx hb hts (fun _ h => List.mem_cons_of_mem _ (List.mem_append_right _ h)) hown hK hP 0 rfl rfl 9 (by decide) (hts (.fieldLink RX11 125 "PuppetFilm" "taped" "I") (List.mem_of_getElem? (i := 1) (by decide +kernel))) (fun _ h9 => h9) rfl dX11_feedNumber_34 ?_
  refine lv_iconst (v := 1) hx hb dX11_feedNumber_37 (by decide) ?_
  refine lv_iadd hx hb dX11_feedNumber_38 ?_
  refine lv_topi (fun z_16 ez_16 => ?_)
  obtain rfl : z_16 = 16 := ez_16.trans (by decide)
  refine va_put (D := D) (ci := 11) (v := .int 16) (ty := .int) (C := RX11) (T := TX11) (N := 11) hx hb hts (fun _ h => List.mem_cons_of_mem _ (List.mem_append_right _ h)) tyX11 tyX11_ok nmX11 hown hK hP hD hS 0 rfl rfl 9 (by decide) (hts (.fieldLink RX11 125 "PuppetFilm" "taped" "I") (List.mem_of_getElem? (i := 1) (by decide +kernel))) (fun _ h9 => h9) rfl (by decide +kernel) rfl rfl (Nat.le_of_ble_eq_true rfl) dX11_feedNumber_39 (fun H locs hP hD hS => ?_)
  have hP : va_P D vwCl [(h0, .inr (11, [.ref x_studio, .ref x_script, .ref x_teller, .ref x_planner, .ref x_plan, .ref x_drifts, .ref x_floor, .ref x_trial, .ref x_tape, .int 16, .int (-1)])), (x_tape, .inl (cT 1, 400, .inl f_15))] _ := hP
  have hD : va_D A [(h0, .inr (11, [.ref x_studio, .ref x_script, .ref x_teller, .ref x_planner, .ref x_plan, .ref x_drifts, .ref x_floor, .ref x_trial, .ref x_tape, .int 16, .int (-1)])), (x_tape, .inl (cT 1, 400, .inl f_15))] := hD
  refine lv_iinc (v := (-8)) (lv' := [(2, .int (-8)), (0, .ref h0), (1, .int p0)]) hx hb dX11_feedNumber_42 hl (k := 0) rfl (by decide) (by decide) rfl (fun ls hl => ?_)
  refine lv_goto (tgt := 3) hx hb dX11_feedNumber_45 (by decide) ?_
  refine lv_iload_n hx hb dX11_feedNumber_3 rfl (lv_at hl 0 rfl) ?_
  refine lv_if_lt (tgt := 48) hx hb dX11_feedNumber_4 (by decide) (fun _ => ?_) (fun c9 => absurd c9 (by decide))
  have hP9 := hP.sub (ws' := [(h0, .inr (11, [.ref x_studio, .ref x_script, .ref x_teller, .ref x_planner, .ref x_plan, .ref x_drifts, .ref x_floor, .ref x_trial, .ref x_tape, .int 16, .int (-1)])), (x_tape, .inl (cT 1, 400, .inl f_15))]) [0, 1] rfl
  have hD9 := hD.sub (ws' := [(h0, .inr (11, [.ref x_studio, .ref x_script, .ref x_teller, .ref x_planner, .ref x_plan, .ref x_drifts, .ref x_floor, .ref x_trial, .ref x_tape, .int 16, .int (-1)])), (x_tape, .inl (cT 1, 400, .inl f_15))]) [0, 1] (by decide) rfl
  exact W.vret hx hb hr (fun t ht hW => ⟨⟨(), rfl, trivial, ⟨f_15, by rw [ht]; exact hP9, hD9⟩⟩, hS.F ht⟩) hS.2.2 dX11_feedNumber_48
set_option maxHeartbeats 4000000 in
set_option maxRecDepth 100000 in
theorem c_X11_feedNumber_16 (l : Launch) (D : va_G) (cT : Nat → ClassId) (h0 : Nat) (p0 : Int32) (x_studio : Nat) (x_script : Nat) (x_teller : Nat) (x_planner : Nat) (x_plan : Nat) (x_drifts : Nat) (x_floor : Nat) (x_trial : Nat) (x_tape : Nat) (fta : Nat → Int32) (sz : Nat)  : Met l yX11_feedNumber wsX11_feedNumber ({ frames := 8, cells := 0, slots := 0, locals := 160 }) (va_Pc [.ref h0, .int p0] (PW D cT [(h0, .inr (11, [.ref x_studio, .ref x_script, .ref x_teller, .ref x_planner, .ref x_plan, .ref x_drifts, .ref x_floor, .ref x_trial, .ref x_tape, .int 16, .int (-1)])), (x_tape, .inl (cT 1, 400, .inl fta))] sz)) (va_Qv (fun _ : Unit => True) (fun (_ : Unit) (t : State) => ∃ (fta2 : Nat → Int32), va_P D vwCl [(h0, .inr (11, [.ref x_studio, .ref x_script, .ref x_teller, .ref x_planner, .ref x_plan, .ref x_drifts, .ref x_floor, .ref x_trial, .ref x_tape, .int 20, .int (-1)])), (x_tape, .inl (cT 1, 400, .inl fta2))] t.heap ∧ va_D (va_A [(h0, .inr (11, [.ref x_studio, .ref x_script, .ref x_teller, .ref x_planner, .ref x_plan, .ref x_drifts, .ref x_floor, .ref x_trial, .ref x_tape, .int 16, .int (-1)])), (x_tape, .inl (cT 1, 400, .inl fta))] sz) [(h0, .inr (11, [.ref x_studio, .ref x_script, .ref x_teller, .ref x_planner, .ref x_plan, .ref x_drifts, .ref x_floor, .ref x_trial, .ref x_tape, .int 20, .int (-1)])), (x_tape, .inl (cT 1, 400, .inl fta2))]) (va_A [(h0, .inr (11, [.ref x_studio, .ref x_script, .ref x_teller, .ref x_planner, .ref x_plan, .ref x_drifts, .ref x_floor, .ref x_trial, .ref x_tape, .int 16, .int (-1)])), (x_tape, .inl (cT 1, 400, .inl fta))] sz)) 0 0 (va_A [(h0, .inr (11, [.ref x_studio, .ref x_script, .ref x_teller, .ref x_planner, .ref x_plan, .ref x_drifts, .ref x_floor, .ref x_trial, .ref x_tape, .int 16, .int (-1)])), (x_tape, .inl (cT 1, 400, .inl fta))] sz) := by
  refine Met.ofW (cc := cX11_feedNumber) (maxL := 3) (ret := none) (by decide) rfl ?_
  intro p e s m args below meth c s₁ B hml hv
  obtain ⟨rfl, hsz, hP, hK, hD0, hG⟩ := hv
  have hx := B.exec
  have hb := B.bytes
  have hr := B.returns
  have hts := atoms_spec (ws := wsX11_feedNumber) B.pre
  have hown : s.vm.findClass RX11 = some m.cls := findClass_of_methodNamed B.named
  have hlocks := B.notSynchronized
  subst hsz
  have hD := hD0.self (sz := s.heap.size)
  generalize hAe : va_A [(h0, .inr (11, [.ref x_studio, .ref x_script, .ref x_teller, .ref x_planner, .ref x_plan, .ref x_drifts, .ref x_floor, .ref x_trial, .ref x_tape, .int 16, .int (-1)])), (x_tape, .inl (cT 1, 400, .inl fta))] s.heap.size = A at hD ⊢
  have hA : ∀ q : Nat, s.heap.size ≤ q → A q := fun q h => by rw [← hAe]; exact Or.inr h
  have hS : va_S A s.heap s.heap [] := va_S.rf
  have hP : va_P D vwCl [(h0, .inr (11, [.ref x_studio, .ref x_script, .ref x_teller, .ref x_planner, .ref x_plan, .ref x_drifts, .ref x_floor, .ref x_trial, .ref x_tape, .int 16, .int (-1)])), (x_tape, .inl (cT 1, 400, .inl fta))] s.heap := hP
  have hl := lv_entry ([.ref h0, .int p0]) (n := 3) (Nat.le_of_ble_eq_true rfl)
  rw [lg_entry_eq]
  generalize (lg_sl ([.ref h0, .int p0]) ++ List.replicate (3 - (lg_sl ([.ref h0, .int p0])).length) Slot.unset).toArray = ls at hl ⊢
  have hl : lv_has ls 3 [(0, .ref h0), (1, .int p0)] := hl
  refine lv_bipush (v := 24) hx hb dX11_feedNumber_0 (by decide) ?_
  refine lv_istore_n (lv' := [(2, .int 24), (0, .ref h0), (1, .int p0)]) hx hb dX11_feedNumber_2 rfl hl (by decide) rfl (fun ls hl => ?_)
  refine lv_iload_n hx hb dX11_feedNumber_3 rfl (lv_at hl 0 rfl) ?_
  refine lv_if_lt (tgt := 48) hx hb dX11_feedNumber_4 (by decide) (fun c9 => absurd c9 (by decide)) (fun _ => ?_)
  refine lv_aload_n hx hb dX11_feedNumber_7 rfl (lv_at hl 1 rfl) ?_
  refine va_get (D := D) (ci := 11) (v := .int 16) (C := RX11) (T := TX11) (N := 11) hx hb hts (fun _ h => List.mem_cons_of_mem _ (List.mem_append_right _ h)) hown hK hP 0 rfl rfl 9 (by decide) (hts (.fieldLink RX11 125 "PuppetFilm" "taped" "I") (List.mem_of_getElem? (i := 1) (by decide +kernel))) (fun _ h9 => h9) rfl dX11_feedNumber_8 ?_
  refine lv_aload_n hx hb dX11_feedNumber_11 rfl (lv_at hl 1 rfl) ?_
  refine va_get (D := D) (ci := 11) (v := .ref x_tape) (C := RX11) (T := TX11) (N := 11) hx hb hts (fun _ h => List.mem_cons_of_mem _ (List.mem_append_right _ h)) hown hK hP 0 rfl rfl 8 (by decide) (hts (.fieldLink RX11 67 "PuppetFilm" "tape" "[B") (List.mem_of_getElem? (i := 2) (by decide +kernel))) (fun _ h9 => h9) rfl dX11_feedNumber_12 ?_
  refine va_alen (v := 400) hx hb hK hP 1 1 rfl rfl rfl dX11_feedNumber_15 ?_
  refine lv_icmp_ge (tgt := 42) hx hb dX11_feedNumber_16 (by decide) (fun c9 => absurd c9 (by decide)) (fun _ => ?_)
  refine lv_aload_n hx hb dX11_feedNumber_19 rfl (lv_at hl 1 rfl) ?_
  refine va_get (D := D) (ci := 11) (v := .ref x_tape) (C := RX11) (T := TX11) (N := 11) hx hb hts (fun _ h => List.mem_cons_of_mem _ (List.mem_append_right _ h)) hown hK hP 0 rfl rfl 8 (by decide) (hts (.fieldLink RX11 67 "PuppetFilm" "tape" "[B") (List.mem_of_getElem? (i := 2) (by decide +kernel))) (fun _ h9 => h9) rfl dX11_feedNumber_20 ?_
  refine lv_aload_n hx hb dX11_feedNumber_23 rfl (lv_at hl 1 rfl) ?_
  refine va_get (D := D) (ci := 11) (v := .int 16) (C := RX11) (T := TX11) (N := 11) hx hb hts (fun _ h => List.mem_cons_of_mem _ (List.mem_append_right _ h)) hown hK hP 0 rfl rfl 9 (by decide) (hts (.fieldLink RX11 125 "PuppetFilm" "taped" "I") (List.mem_of_getElem? (i := 1) (by decide +kernel))) (fun _ h9 => h9) rfl dX11_feedNumber_24 ?_
  refine lv_iload_n hx hb dX11_feedNumber_27 rfl (lv_at hl 2 rfl) ?_
  refine lv_iload_n hx hb dX11_feedNumber_28 rfl (lv_at hl 0 rfl) ?_
  refine lv_ishr hx hb dX11_feedNumber_29 ?_
  refine lv_topi (fun x_1 ex_1 => ?_)
  obtain ⟨x_2, ex_2⟩ : ∃ y : Int32, y = (x_1).toInt8.toInt32 := ⟨_, rfl⟩
  refine lv_i2b (v := x_2) hx hb dX11_feedNumber_30 ex_2.symm ?_
  refine va_bast hx hb hK hP hD hS 1 1 rfl rfl (by unfold vp_in; decide) dX11_feedNumber_31 (fun H locs hP hD hS => ?_)
  generalize upd fta (Int32.toNatClampNeg 16) (vp_nar .byte x_2) = f_3 at hP hD
  have hP : va_P D vwCl [(h0, .inr (11, [.ref x_studio, .ref x_script, .ref x_teller, .ref x_planner, .ref x_plan, .ref x_drifts, .ref x_floor, .ref x_trial, .ref x_tape, .int 16, .int (-1)])), (x_tape, .inl (cT 1, 400, .inl f_3))] _ := hP
  have hD : va_D A [(h0, .inr (11, [.ref x_studio, .ref x_script, .ref x_teller, .ref x_planner, .ref x_plan, .ref x_drifts, .ref x_floor, .ref x_trial, .ref x_tape, .int 16, .int (-1)])), (x_tape, .inl (cT 1, 400, .inl f_3))] := hD
  refine lv_aload_n hx hb dX11_feedNumber_32 rfl (lv_at hl 1 rfl) ?_
  refine lv_dup hx hb dX11_feedNumber_33 rfl ?_
  refine va_get (D := D) (ci := 11) (v := .int 16) (C := RX11) (T := TX11) (N := 11) hx hb hts (fun _ h => List.mem_cons_of_mem _ (List.mem_append_right _ h)) hown hK hP 0 rfl rfl 9 (by decide) (hts (.fieldLink RX11 125 "PuppetFilm" "taped" "I") (List.mem_of_getElem? (i := 1) (by decide +kernel))) (fun _ h9 => h9) rfl dX11_feedNumber_34 ?_
  refine lv_iconst (v := 1) hx hb dX11_feedNumber_37 (by decide) ?_
  refine lv_iadd hx hb dX11_feedNumber_38 ?_
  refine lv_topi (fun z_4 ez_4 => ?_)
  obtain rfl : z_4 = 17 := ez_4.trans (by decide)
  refine va_put (D := D) (ci := 11) (v := .int 17) (ty := .int) (C := RX11) (T := TX11) (N := 11) hx hb hts (fun _ h => List.mem_cons_of_mem _ (List.mem_append_right _ h)) tyX11 tyX11_ok nmX11 hown hK hP hD hS 0 rfl rfl 9 (by decide) (hts (.fieldLink RX11 125 "PuppetFilm" "taped" "I") (List.mem_of_getElem? (i := 1) (by decide +kernel))) (fun _ h9 => h9) rfl (by decide +kernel) rfl rfl (Nat.le_of_ble_eq_true rfl) dX11_feedNumber_39 (fun H locs hP hD hS => ?_)
  have hP : va_P D vwCl [(h0, .inr (11, [.ref x_studio, .ref x_script, .ref x_teller, .ref x_planner, .ref x_plan, .ref x_drifts, .ref x_floor, .ref x_trial, .ref x_tape, .int 17, .int (-1)])), (x_tape, .inl (cT 1, 400, .inl f_3))] _ := hP
  have hD : va_D A [(h0, .inr (11, [.ref x_studio, .ref x_script, .ref x_teller, .ref x_planner, .ref x_plan, .ref x_drifts, .ref x_floor, .ref x_trial, .ref x_tape, .int 17, .int (-1)])), (x_tape, .inl (cT 1, 400, .inl f_3))] := hD
  refine lv_iinc (v := 16) (lv' := [(2, .int 16), (0, .ref h0), (1, .int p0)]) hx hb dX11_feedNumber_42 hl (k := 0) rfl (by decide) (by decide) rfl (fun ls hl => ?_)
  refine lv_goto (tgt := 3) hx hb dX11_feedNumber_45 (by decide) ?_
  refine lv_iload_n hx hb dX11_feedNumber_3 rfl (lv_at hl 0 rfl) ?_
  refine lv_if_lt (tgt := 48) hx hb dX11_feedNumber_4 (by decide) (fun c9 => absurd c9 (by decide)) (fun _ => ?_)
  refine lv_aload_n hx hb dX11_feedNumber_7 rfl (lv_at hl 1 rfl) ?_
  refine va_get (D := D) (ci := 11) (v := .int 17) (C := RX11) (T := TX11) (N := 11) hx hb hts (fun _ h => List.mem_cons_of_mem _ (List.mem_append_right _ h)) hown hK hP 0 rfl rfl 9 (by decide) (hts (.fieldLink RX11 125 "PuppetFilm" "taped" "I") (List.mem_of_getElem? (i := 1) (by decide +kernel))) (fun _ h9 => h9) rfl dX11_feedNumber_8 ?_
  refine lv_aload_n hx hb dX11_feedNumber_11 rfl (lv_at hl 1 rfl) ?_
  refine va_get (D := D) (ci := 11) (v := .ref x_tape) (C := RX11) (T := TX11) (N := 11) hx hb hts (fun _ h => List.mem_cons_of_mem _ (List.mem_append_right _ h)) hown hK hP 0 rfl rfl 8 (by decide) (hts (.fieldLink RX11 67 "PuppetFilm" "tape" "[B") (List.mem_of_getElem? (i := 2) (by decide +kernel))) (fun _ h9 => h9) rfl dX11_feedNumber_12 ?_
  refine va_alen (v := 400) hx hb hK hP 1 1 rfl rfl rfl dX11_feedNumber_15 ?_
  refine lv_icmp_ge (tgt := 42) hx hb dX11_feedNumber_16 (by decide) (fun c9 => absurd c9 (by decide)) (fun _ => ?_)
  refine lv_aload_n hx hb dX11_feedNumber_19 rfl (lv_at hl 1 rfl) ?_
  refine va_get (D := D) (ci := 11) (v := .ref x_tape) (C := RX11) (T := TX11) (N := 11) hx hb hts (fun _ h => List.mem_cons_of_mem _ (List.mem_append_right _ h)) hown hK hP 0 rfl rfl 8 (by decide) (hts (.fieldLink RX11 67 "PuppetFilm" "tape" "[B") (List.mem_of_getElem? (i := 2) (by decide +kernel))) (fun _ h9 => h9) rfl dX11_feedNumber_20 ?_
  refine lv_aload_n hx hb dX11_feedNumber_23 rfl (lv_at hl 1 rfl) ?_
  refine va_get (D := D) (ci := 11) (v := .int 17) (C := RX11) (T := TX11) (N := 11) hx hb hts (fun _ h => List.mem_cons_of_mem _ (List.mem_append_right _ h)) hown hK hP 0 rfl rfl 9 (by decide) (hts (.fieldLink RX11 125 "PuppetFilm" "taped" "I") (List.mem_of_getElem? (i := 1) (by decide +kernel))) (fun _ h9 => h9) rfl dX11_feedNumber_24 ?_
  refine lv_iload_n hx hb dX11_feedNumber_27 rfl (lv_at hl 2 rfl) ?_
  refine lv_iload_n hx hb dX11_feedNumber_28 rfl (lv_at hl 0 rfl) ?_
  refine lv_ishr hx hb dX11_feedNumber_29 ?_
  refine lv_topi (fun x_5 ex_5 => ?_)
  obtain ⟨x_6, ex_6⟩ : ∃ y : Int32, y = (x_5).toInt8.toInt32 := ⟨_, rfl⟩
  refine lv_i2b (v := x_6) hx hb dX11_feedNumber_30 ex_6.symm ?_
  refine va_bast hx hb hK hP hD hS 1 1 rfl rfl (by unfold vp_in; decide) dX11_feedNumber_31 (fun H locs hP hD hS => ?_)
  generalize upd f_3 (Int32.toNatClampNeg 17) (vp_nar .byte x_6) = f_7 at hP hD
  have hP : va_P D vwCl [(h0, .inr (11, [.ref x_studio, .ref x_script, .ref x_teller, .ref x_planner, .ref x_plan, .ref x_drifts, .ref x_floor, .ref x_trial, .ref x_tape, .int 17, .int (-1)])), (x_tape, .inl (cT 1, 400, .inl f_7))] _ := hP
  have hD : va_D A [(h0, .inr (11, [.ref x_studio, .ref x_script, .ref x_teller, .ref x_planner, .ref x_plan, .ref x_drifts, .ref x_floor, .ref x_trial, .ref x_tape, .int 17, .int (-1)])), (x_tape, .inl (cT 1, 400, .inl f_7))] := hD
  refine lv_aload_n hx hb dX11_feedNumber_32 rfl (lv_at hl 1 rfl) ?_
  refine lv_dup hx hb dX11_feedNumber_33 rfl ?_
  refine va_get (D := D) (ci := 11) (v := .int 17) (C := RX11) (T := TX11) (N := 11) hx hb hts (fun _ h => List.mem_cons_of_mem _ (List.mem_append_right _ h)) hown hK hP 0 rfl rfl 9 (by decide) (hts (.fieldLink RX11 125 "PuppetFilm" "taped" "I") (List.mem_of_getElem? (i := 1) (by decide +kernel))) (fun _ h9 => h9) rfl dX11_feedNumber_34 ?_
  refine lv_iconst (v := 1) hx hb dX11_feedNumber_37 (by decide) ?_
  refine lv_iadd hx hb dX11_feedNumber_38 ?_
  refine lv_topi (fun z_8 ez_8 => ?_)
  obtain rfl : z_8 = 18 := ez_8.trans (by decide)
  refine va_put (D := D) (ci := 11) (v := .int 18) (ty := .int) (C := RX11) (T := TX11) (N := 11) hx hb hts (fun _ h => List.mem_cons_of_mem _ (List.mem_append_right _ h)) tyX11 tyX11_ok nmX11 hown hK hP hD hS 0 rfl rfl 9 (by decide) (hts (.fieldLink RX11 125 "PuppetFilm" "taped" "I") (List.mem_of_getElem? (i := 1) (by decide +kernel))) (fun _ h9 => h9) rfl (by decide +kernel) rfl rfl (Nat.le_of_ble_eq_true rfl) dX11_feedNumber_39 (fun H locs hP hD hS => ?_)
  have hP : va_P D vwCl [(h0, .inr (11, [.ref x_studio, .ref x_script, .ref x_teller, .ref x_planner, .ref x_plan, .ref x_drifts, .ref x_floor, .ref x_trial, .ref x_tape, .int 18, .int (-1)])), (x_tape, .inl (cT 1, 400, .inl f_7))] _ := hP
  have hD : va_D A [(h0, .inr (11, [.ref x_studio, .ref x_script, .ref x_teller, .ref x_planner, .ref x_plan, .ref x_drifts, .ref x_floor, .ref x_trial, .ref x_tape, .int 18, .int (-1)])), (x_tape, .inl (cT 1, 400, .inl f_7))] := hD
  refine lv_iinc (v := 8) (lv' := [(2, .int 8), (0, .ref h0), (1, .int p0)]) hx hb dX11_feedNumber_42 hl (k := 0) rfl (by decide) (by decide) rfl (fun ls hl => ?_)
  refine lv_goto (tgt := 3) hx hb dX11_feedNumber_45 (by decide) ?_
  refine lv_iload_n hx hb dX11_feedNumber_3 rfl (lv_at hl 0 rfl) ?_
  refine lv_if_lt (tgt := 48) hx hb dX11_feedNumber_4 (by decide) (fun c9 => absurd c9 (by decide)) (fun _ => ?_)
  refine lv_aload_n hx hb dX11_feedNumber_7 rfl (lv_at hl 1 rfl) ?_
  refine va_get (D := D) (ci := 11) (v := .int 18) (C := RX11) (T := TX11) (N := 11) hx hb hts (fun _ h => List.mem_cons_of_mem _ (List.mem_append_right _ h)) hown hK hP 0 rfl rfl 9 (by decide) (hts (.fieldLink RX11 125 "PuppetFilm" "taped" "I") (List.mem_of_getElem? (i := 1) (by decide +kernel))) (fun _ h9 => h9) rfl dX11_feedNumber_8 ?_
  refine lv_aload_n hx hb dX11_feedNumber_11 rfl (lv_at hl 1 rfl) ?_
  refine va_get (D := D) (ci := 11) (v := .ref x_tape) (C := RX11) (T := TX11) (N := 11) hx hb hts (fun _ h => List.mem_cons_of_mem _ (List.mem_append_right _ h)) hown hK hP 0 rfl rfl 8 (by decide) (hts (.fieldLink RX11 67 "PuppetFilm" "tape" "[B") (List.mem_of_getElem? (i := 2) (by decide +kernel))) (fun _ h9 => h9) rfl dX11_feedNumber_12 ?_
  refine va_alen (v := 400) hx hb hK hP 1 1 rfl rfl rfl dX11_feedNumber_15 ?_
  refine lv_icmp_ge (tgt := 42) hx hb dX11_feedNumber_16 (by decide) (fun c9 => absurd c9 (by decide)) (fun _ => ?_)
  refine lv_aload_n hx hb dX11_feedNumber_19 rfl (lv_at hl 1 rfl) ?_
  refine va_get (D := D) (ci := 11) (v := .ref x_tape) (C := RX11) (T := TX11) (N := 11) hx hb hts (fun _ h => List.mem_cons_of_mem _ (List.mem_append_right _ h)) hown hK hP 0 rfl rfl 8 (by decide) (hts (.fieldLink RX11 67 "PuppetFilm" "tape" "[B") (List.mem_of_getElem? (i := 2) (by decide +kernel))) (fun _ h9 => h9) rfl dX11_feedNumber_20 ?_
  refine lv_aload_n hx hb dX11_feedNumber_23 rfl (lv_at hl 1 rfl) ?_
  refine va_get (D := D) (ci := 11) (v := .int 18) (C := RX11) (T := TX11) (N := 11) hx hb hts (fun _ h => List.mem_cons_of_mem _ (List.mem_append_right _ h)) hown hK hP 0 rfl rfl 9 (by decide) (hts (.fieldLink RX11 125 "PuppetFilm" "taped" "I") (List.mem_of_getElem? (i := 1) (by decide +kernel))) (fun _ h9 => h9) rfl dX11_feedNumber_24 ?_
  refine lv_iload_n hx hb dX11_feedNumber_27 rfl (lv_at hl 2 rfl) ?_
  refine lv_iload_n hx hb dX11_feedNumber_28 rfl (lv_at hl 0 rfl) ?_
  refine lv_ishr hx hb dX11_feedNumber_29 ?_
  refine lv_topi (fun x_9 ex_9 => ?_)
  obtain ⟨x_10, ex_10⟩ : ∃ y : Int32, y = (x_9).toInt8.toInt32 := ⟨_, rfl⟩
  refine lv_i2b (v := x_10) hx hb dX11_feedNumber_30 ex_10.symm ?_
  refine va_bast hx hb hK hP hD hS 1 1 rfl rfl (by unfold vp_in; decide) dX11_feedNumber_31 (fun H locs hP hD hS => ?_)
  generalize upd f_7 (Int32.toNatClampNeg 18) (vp_nar .byte x_10) = f_11 at hP hD
  have hP : va_P D vwCl [(h0, .inr (11, [.ref x_studio, .ref x_script, .ref x_teller, .ref x_planner, .ref x_plan, .ref x_drifts, .ref x_floor, .ref x_trial, .ref x_tape, .int 18, .int (-1)])), (x_tape, .inl (cT 1, 400, .inl f_11))] _ := hP
  have hD : va_D A [(h0, .inr (11, [.ref x_studio, .ref x_script, .ref x_teller, .ref x_planner, .ref x_plan, .ref x_drifts, .ref x_floor, .ref x_trial, .ref x_tape, .int 18, .int (-1)])), (x_tape, .inl (cT 1, 400, .inl f_11))] := hD
  refine lv_aload_n hx hb dX11_feedNumber_32 rfl (lv_at hl 1 rfl) ?_
  refine lv_dup hx hb dX11_feedNumber_33 rfl ?_
  refine va_get (D := D) (ci := 11) (v := .int 18) (C := RX11) (T := TX11) (N := 11) hx hb hts (fun _ h => List.mem_cons_of_mem _ (List.mem_append_right _ h)) hown hK hP 0 rfl rfl 9 (by decide) (hts (.fieldLink RX11 125 "PuppetFilm" "taped" "I") (List.mem_of_getElem? (i := 1) (by decide +kernel))) (fun _ h9 => h9) rfl dX11_feedNumber_34 ?_
  refine lv_iconst (v := 1) hx hb dX11_feedNumber_37 (by decide) ?_
  refine lv_iadd hx hb dX11_feedNumber_38 ?_
  refine lv_topi (fun z_12 ez_12 => ?_)
  obtain rfl : z_12 = 19 := ez_12.trans (by decide)
  refine va_put (D := D) (ci := 11) (v := .int 19) (ty := .int) (C := RX11) (T := TX11) (N := 11) hx hb hts (fun _ h => List.mem_cons_of_mem _ (List.mem_append_right _ h)) tyX11 tyX11_ok nmX11 hown hK hP hD hS 0 rfl rfl 9 (by decide) (hts (.fieldLink RX11 125 "PuppetFilm" "taped" "I") (List.mem_of_getElem? (i := 1) (by decide +kernel))) (fun _ h9 => h9) rfl (by decide +kernel) rfl rfl (Nat.le_of_ble_eq_true rfl) dX11_feedNumber_39 (fun H locs hP hD hS => ?_)
  have hP : va_P D vwCl [(h0, .inr (11, [.ref x_studio, .ref x_script, .ref x_teller, .ref x_planner, .ref x_plan, .ref x_drifts, .ref x_floor, .ref x_trial, .ref x_tape, .int 19, .int (-1)])), (x_tape, .inl (cT 1, 400, .inl f_11))] _ := hP
  have hD : va_D A [(h0, .inr (11, [.ref x_studio, .ref x_script, .ref x_teller, .ref x_planner, .ref x_plan, .ref x_drifts, .ref x_floor, .ref x_trial, .ref x_tape, .int 19, .int (-1)])), (x_tape, .inl (cT 1, 400, .inl f_11))] := hD
  refine lv_iinc (v := 0) (lv' := [(2, .int 0), (0, .ref h0), (1, .int p0)]) hx hb dX11_feedNumber_42 hl (k := 0) rfl (by decide) (by decide) rfl (fun ls hl => ?_)
  refine lv_goto (tgt := 3) hx hb dX11_feedNumber_45 (by decide) ?_
  refine lv_iload_n hx hb dX11_feedNumber_3 rfl (lv_at hl 0 rfl) ?_
  refine lv_if_lt (tgt := 48) hx hb dX11_feedNumber_4 (by decide) (fun c9 => absurd c9 (by decide)) (fun _ => ?_)
  refine lv_aload_n hx hb dX11_feedNumber_7 rfl (lv_at hl 1 rfl) ?_
  refine va_get (D := D) (ci := 11) (v := .int 19) (C := RX11) (T := TX11) (N := 11) hx hb hts (fun _ h => List.mem_cons_of_mem _ (List.mem_append_right _ h)) hown hK hP 0 rfl rfl 9 (by decide) (hts (.fieldLink RX11 125 "PuppetFilm" "taped" "I") (List.mem_of_getElem? (i := 1) (by decide +kernel))) (fun _ h9 => h9) rfl dX11_feedNumber_8 ?_
  refine lv_aload_n hx hb dX11_feedNumber_11 rfl (lv_at hl 1 rfl) ?_
  refine va_get (D := D) (ci := 11) (v := .ref x_tape) (C := RX11) (T := TX11) (N := 11) hx hb hts (fun _ h => List.mem_cons_of_mem _ (List.mem_append_right _ h)) hown hK hP 0 rfl rfl 8 (by decide) (hts (.fieldLink RX11 67 "PuppetFilm" "tape" "[B") (List.mem_of_getElem? (i := 2) (by decide +kernel))) (fun _ h9 => h9) rfl dX11_feedNumber_12 ?_
  refine va_alen (v := 400) hx hb hK hP 1 1 rfl rfl rfl dX11_feedNumber_15 ?_
  refine lv_icmp_ge (tgt := 42) hx hb dX11_feedNumber_16 (by decide) (fun c9 => absurd c9 (by decide)) (fun _ => ?_)
  refine lv_aload_n hx hb dX11_feedNumber_19 rfl (lv_at hl 1 rfl) ?_
  refine va_get (D := D) (ci := 11) (v := .ref x_tape) (C := RX11) (T := TX11) (N := 11) hx hb hts (fun _ h => List.mem_cons_of_mem _ (List.mem_append_right _ h)) hown hK hP 0 rfl rfl 8 (by decide) (hts (.fieldLink RX11 67 "PuppetFilm" "tape" "[B") (List.mem_of_getElem? (i := 2) (by decide +kernel))) (fun _ h9 => h9) rfl dX11_feedNumber_20 ?_
  refine lv_aload_n hx hb dX11_feedNumber_23 rfl (lv_at hl 1 rfl) ?_
  refine va_get (D := D) (ci := 11) (v := .int 19) (C := RX11) (T := TX11) (N := 11) hx hb hts (fun _ h => List.mem_cons_of_mem _ (List.mem_append_right _ h)) hown hK hP 0 rfl rfl 9 (by decide) (hts (.fieldLink RX11 125 "PuppetFilm" "taped" "I") (List.mem_of_getElem? (i := 1) (by decide +kernel))) (fun _ h9 => h9) rfl dX11_feedNumber_24 ?_
  refine lv_iload_n hx hb dX11_feedNumber_27 rfl (lv_at hl 2 rfl) ?_
  refine lv_iload_n hx hb dX11_feedNumber_28 rfl (lv_at hl 0 rfl) ?_
  refine lv_ishr hx hb dX11_feedNumber_29 ?_
  refine lv_topi (fun x_13 ex_13 => ?_)
  obtain ⟨x_14, ex_14⟩ : ∃ y : Int32, y = (x_13).toInt8.toInt32 := ⟨_, rfl⟩
  refine lv_i2b (v := x_14) hx hb dX11_feedNumber_30 ex_14.symm ?_
  refine va_bast hx hb hK hP hD hS 1 1 rfl rfl (by unfold vp_in; decide) dX11_feedNumber_31 (fun H locs hP hD hS => ?_)
  generalize upd f_11 (Int32.toNatClampNeg 19) (vp_nar .byte x_14) = f_15 at hP hD
  have hP : va_P D vwCl [(h0, .inr (11, [.ref x_studio, .ref x_script, .ref x_teller, .ref x_planner, .ref x_plan, .ref x_drifts, .ref x_floor, .ref x_trial, .ref x_tape, .int 19, .int (-1)])), (x_tape, .inl (cT 1, 400, .inl f_15))] _ := hP
  have hD : va_D A [(h0, .inr (11, [.ref x_studio, .ref x_script, .ref x_teller, .ref x_planner, .ref x_plan, .ref x_drifts, .ref x_floor, .ref x_trial, .ref x_tape, .int 19, .int (-1)])), (x_tape, .inl (cT 1, 400, .inl f_15))] := hD
  refine lv_aload_n hx hb dX11_feedNumber_32 rfl (lv_at hl 1 rfl) ?_
  refine lv_dup hx hb dX11_feedNumber_33 rfl ?_
  refine va_get (D := D) (ci := 11) (v := .int 19) (C := RX11) (T := TX11) (N := 11) hx hb hts (fun _ h => List.mem_cons_of_mem _ (List.mem_append_right _ h)) hown hK hP 0 rfl rfl 9 (by decide) (hts (.fieldLink RX11 125 "PuppetFilm" "taped" "I") (List.mem_of_getElem? (i := 1) (by decide +kernel))) (fun _ h9 => h9) rfl dX11_feedNumber_34 ?_
  refine lv_iconst (v := 1) hx hb dX11_feedNumber_37 (by decide) ?_
  refine lv_iadd hx hb dX11_feedNumber_38 ?_
  refine lv_topi (fun z_16 ez_16 => ?_)
  obtain rfl : z_16 = 20 := ez_16.trans (by decide)
  refine va_put (D := D) (ci := 11) (v := .int 20) (ty := .int) (C := RX11) (T := TX11) (N := 11) hx hb hts (fun _ h => List.mem_cons_of_mem _ (List.mem_append_right _ h)) tyX11 tyX11_ok nmX11 hown hK hP hD hS 0 rfl rfl 9 (by decide) (hts (.fieldLink RX11 125 "PuppetFilm" "taped" "I") (List.mem_of_getElem? (i := 1) (by decide +kernel))) (fun _ h9 => h9) rfl (by decide +kernel) rfl rfl (Nat.le_of_ble_eq_true rfl) dX11_feedNumber_39 (fun H locs hP hD hS => ?_)
  have hP : va_P D vwCl [(h0, .inr (11, [.ref x_studio, .ref x_script, .ref x_teller, .ref x_planner, .ref x_plan, .ref x_drifts, .ref x_floor, .ref x_trial, .ref x_tape, .int 20, .int (-1)])), (x_tape, .inl (cT 1, 400, .inl f_15))] _ := hP
  have hD : va_D A [(h0, .inr (11, [.ref x_studio, .ref x_script, .ref x_teller, .ref x_planner, .ref x_plan, .ref x_drifts, .ref x_floor, .ref x_trial, .ref x_tape, .int 20, .int (-1)])), (x_tape, .inl (cT 1, 400, .inl f_15))] := hD
  refine lv_iinc (v := (-8)) (lv' := [(2, .int (-8)), (0, .ref h0), (1, .int p0)]) hx hb dX11_feedNumber_42 hl (k := 0) rfl (by decide) (by decide) rfl (fun ls hl => ?_)
  refine lv_goto (tgt := 3) hx hb dX11_feedNumber_45 (by decide) ?_
  refine lv_iload_n hx hb dX11_feedNumber_3 rfl (lv_at hl 0 rfl) ?_
  refine lv_if_lt (tgt := 48) hx hb dX11_feedNumber_4 (by decide) (fun _ => ?_) (fun c9 => absurd c9 (by decide))
  have hP9 := hP.sub (ws' := [(h0, .inr (11, [.ref x_studio, .ref x_script, .ref x_teller, .ref x_planner, .ref x_plan, .ref x_drifts, .ref x_floor, .ref x_trial, .ref x_tape, .int 20, .int (-1)])), (x_tape, .inl (cT 1, 400, .inl f_15))]) [0, 1] rfl
  have hD9 := hD.sub (ws' := [(h0, .inr (11, [.ref x_studio, .ref x_script, .ref x_teller, .ref x_planner, .ref x_plan, .ref x_drifts, .ref x_floor, .ref x_trial, .ref x_tape, .int 20, .int (-1)])), (x_tape, .inl (cT 1, 400, .inl f_15))]) [0, 1] (by decide) rfl
  exact W.vret hx hb hr (fun t ht hW => ⟨⟨(), rfl, trivial, ⟨f_15, by rw [ht]; exact hP9, hD9⟩⟩, hS.F ht⟩) hS.2.2 dX11_feedNumber_48
theorem dX11_feed_0 : decode cX11_feed 0 = .ok (.aload_n 0, 1) := by decide +kernel
theorem dX11_feed_1 : decode cX11_feed 1 = .ok (.getfield 125, 3) := by decide +kernel
theorem dX11_feed_10 : decode cX11_feed 10 = .ok (.if_icmp .le 5, 3) := by decide +kernel
theorem dX11_feed_15 : decode cX11_feed 15 = .ok (.aload_n 0, 1) := by decide +kernel
theorem dX11_feed_16 : decode cX11_feed 16 = .ok (.iload_n 1, 1) := by decide +kernel
theorem dX11_feed_17 : decode cX11_feed 17 = .ok (.invokevirtual 128, 3) := by decide +kernel
theorem dX11_feed_20 : decode cX11_feed 20 = .ok (.aload_n 0, 1) := by decide +kernel
theorem dX11_feed_21 : decode cX11_feed 21 = .ok (.iload_n 2, 1) := by decide +kernel
theorem dX11_feed_22 : decode cX11_feed 22 = .ok (.invokevirtual 128, 3) := by decide +kernel
theorem dX11_feed_25 : decode cX11_feed 25 = .ok (.aload_n 0, 1) := by decide +kernel
theorem dX11_feed_26 : decode cX11_feed 26 = .ok (.iload_n 3, 1) := by decide +kernel
theorem dX11_feed_27 : decode cX11_feed 27 = .ok (.invokevirtual 128, 3) := by decide +kernel
theorem dX11_feed_30 : decode cX11_feed 30 = .ok (.aload_n 0, 1) := by decide +kernel
theorem dX11_feed_31 : decode cX11_feed 31 = .ok (.iload 4, 2) := by decide +kernel
theorem dX11_feed_33 : decode cX11_feed 33 = .ok (.invokevirtual 128, 3) := by decide +kernel
theorem dX11_feed_36 : decode cX11_feed 36 = .ok (.aload_n 0, 1) := by decide +kernel
theorem dX11_feed_37 : decode cX11_feed 37 = .ok (.iload 5, 2) := by decide +kernel
theorem dX11_feed_39 : decode cX11_feed 39 = .ok (.invokevirtual 128, 3) := by decide +kernel
theorem dX11_feed_4 : decode cX11_feed 4 = .ok (.bipush 20, 2) := by decide +kernel
theorem dX11_feed_42 : decode cX11_feed 42 = .ok (.aload_n 0, 1) := by decide +kernel
theorem dX11_feed_43 : decode cX11_feed 43 = .ok (.getfield 125, 3) := by decide +kernel
theorem dX11_feed_46 : decode cX11_feed 46 = .ok (.ireturn, 1) := by decide +kernel
theorem dX11_feed_6 : decode cX11_feed 6 = .ok (.iadd, 1) := by decide +kernel
theorem dX11_feed_7 : decode cX11_feed 7 = .ok (.sipush 400, 3) := by decide +kernel
set_option maxRecDepth 20000 in
theorem ggX11_feed_X11_feedNumber : GoodIn wsX11_feed wsX11_feedNumber := goodIn_r _ [6, 1, 7, 8, 9, 10, 11, 12, 13, 14, 15, 16, 17, 18] (by decide +kernel) (by decide +kernel)
set_option maxRecDepth 20000 in
theorem gX11_feed_X11_feedNumber : GoodIn wsX11_feed (wsV RX11 128 RX11 yX11_feedNumber wsX11_feedNumber) := goodIn_app (goodIn_of _ (by decide +kernel)) ggX11_feed_X11_feedNumber
set_option maxHeartbeats 4000000 in
set_option maxRecDepth 100000 in
theorem c_X11_feed (l : Launch) (D : va_G) (cT : Nat → ClassId) (h0 : Nat) (p0 : Int32) (p1 : Int32) (p2 : Int32) (p3 : Int32) (p4 : Int32) (x_studio : Nat) (x_script : Nat) (x_teller : Nat) (x_planner : Nat) (x_plan : Nat) (x_drifts : Nat) (x_floor : Nat) (x_trial : Nat) (x_tape : Nat) (fta : Nat → Int32) (sz : Nat)  : Met l yX11_feed wsX11_feed ({ frames := 9, cells := 0, slots := 0, locals := 220 }) (va_Pc [.ref h0, .int p0, .int p1, .int p2, .int p3, .int p4] (PW D cT [(h0, .inr (11, [.ref x_studio, .ref x_script, .ref x_teller, .ref x_planner, .ref x_plan, .ref x_drifts, .ref x_floor, .ref x_trial, .ref x_tape, .int 0, .int (-1)])), (x_tape, .inl (cT 1, 400, .inl fta))] sz)) (va_Qi (fun (r : Int32) (_ : Unit) => r = 20) (fun (_ : Unit) (_ : State) => True) (va_A [(h0, .inr (11, [.ref x_studio, .ref x_script, .ref x_teller, .ref x_planner, .ref x_plan, .ref x_drifts, .ref x_floor, .ref x_trial, .ref x_tape, .int 0, .int (-1)])), (x_tape, .inl (cT 1, 400, .inl fta))] sz)) 0 0 (va_A [(h0, .inr (11, [.ref x_studio, .ref x_script, .ref x_teller, .ref x_planner, .ref x_plan, .ref x_drifts, .ref x_floor, .ref x_trial, .ref x_tape, .int 0, .int (-1)])), (x_tape, .inl (cT 1, 400, .inl fta))] sz) := by
  refine Met.ofW (cc := cX11_feed) (maxL := 6) (ret := (some .int)) (by decide) rfl ?_
  intro p e s m args below meth c s₁ B hml hv
  obtain ⟨rfl, hsz, hP, hK, hD0, hG⟩ := hv
  have hx := B.exec
  have hb := B.bytes
  have hr := B.returns
  have hts := atoms_spec (ws := wsX11_feed) B.pre
  have hown : s.vm.findClass RX11 = some m.cls := findClass_of_methodNamed B.named
  have hlocks := B.notSynchronized
  subst hsz
  have hD := hD0.self (sz := s.heap.size)
  generalize hAe : va_A [(h0, .inr (11, [.ref x_studio, .ref x_script, .ref x_teller, .ref x_planner, .ref x_plan, .ref x_drifts, .ref x_floor, .ref x_trial, .ref x_tape, .int 0, .int (-1)])), (x_tape, .inl (cT 1, 400, .inl fta))] s.heap.size = A at hD ⊢
  have hA : ∀ q : Nat, s.heap.size ≤ q → A q := fun q h => by rw [← hAe]; exact Or.inr h
  have hS : va_S A s.heap s.heap [] := va_S.rf
  have hP : va_P D vwCl [(h0, .inr (11, [.ref x_studio, .ref x_script, .ref x_teller, .ref x_planner, .ref x_plan, .ref x_drifts, .ref x_floor, .ref x_trial, .ref x_tape, .int 0, .int (-1)])), (x_tape, .inl (cT 1, 400, .inl fta))] s.heap := hP
  have hl := lv_entry ([.ref h0, .int p0, .int p1, .int p2, .int p3, .int p4]) (n := 6) (Nat.le_of_ble_eq_true rfl)
  rw [lg_entry_eq]
  generalize (lg_sl ([.ref h0, .int p0, .int p1, .int p2, .int p3, .int p4]) ++ List.replicate (6 - (lg_sl ([.ref h0, .int p0, .int p1, .int p2, .int p3, .int p4])).length) Slot.unset).toArray = ls at hl ⊢
  have hl : lv_has ls 6 [(0, .ref h0), (1, .int p0), (2, .int p1), (3, .int p2), (4, .int p3), (5, .int p4)] := hl
  refine lv_aload_n hx hb dX11_feed_0 rfl (lv_at hl 0 rfl) ?_
  refine va_get (D := D) (ci := 11) (v := .int 0) (C := RX11) (T := TX11) (N := 11) hx hb hts (fun _ h => List.mem_cons_of_mem _ (List.mem_append_right _ h)) hown hK hP 0 rfl rfl 9 (by decide) (hts (.fieldLink RX11 125 "PuppetFilm" "taped" "I") (List.mem_of_getElem? (i := 1) (by decide +kernel))) (fun _ h9 => h9) rfl dX11_feed_1 ?_
  refine lv_bipush (v := 20) hx hb dX11_feed_4 (by decide) ?_
  refine lv_iadd hx hb dX11_feed_6 ?_
  refine lv_topi (fun z_1 ez_1 => ?_)
  obtain rfl : z_1 = 20 := ez_1.trans (by decide)
  refine lv_sipush (v := 400) hx hb dX11_feed_7 (by decide) ?_
  refine lv_icmp_le (tgt := 15) hx hb dX11_feed_10 (by decide) (fun _ => ?_) (fun c9 => absurd c9 (by decide))
  refine lv_aload_n hx hb dX11_feed_15 rfl (lv_at hl 0 rfl) ?_
  refine lv_iload_n hx hb dX11_feed_16 rfl (lv_at hl 1 rfl) ?_
  have hF := va_free (wc := [(h0, .inr (11, [.ref x_studio, .ref x_script, .ref x_teller, .ref x_planner, .ref x_plan, .ref x_drifts, .ref x_floor, .ref x_trial, .ref x_tape, .int 0, .int (-1)])), (x_tape, .inl (cT 1, 400, .inl fta))]) hD hS hA [0, 1] rfl
  refine va_callv (va_runV (As := [.int p0]) (rest := []) ⟨hx, hb, hml, hown, hts⟩ (c_X11_feedNumber_0 l D cT h0 p0 x_studio x_script x_teller x_planner x_plan x_drifts x_floor x_trial x_tape fta _ ) (cwV 1 hts gX11_feed_X11_feedNumber rfl rfl rfl (by decide +kernel) ⟨Nat.le_of_ble_eq_true rfl, Nat.le_of_ble_eq_true rfl⟩) (pv_w hP hD hK hG [0, 1] rfl rfl rfl 0 rfl rfl) rfl rfl hl.1 rfl (lv_room (Nat.le_of_ble_eq_true rfl)) dX11_feed_17 ⟨Nat.le_of_ble_eq_true rfl, Nat.le_of_ble_eq_true rfl⟩) hS (fun q _ h => hF q h) hF (fun uu9 tt9 H locs ht hvm wr_2 hB hz1 hk1 hS => ?_)
  obtain ⟨fta2_3, hP1, hD1⟩ := hB
  rw [ht] at hP1
  obtain ⟨hP, hD⟩ := va_join (wr := []) (w1 := [(h0, .inr (11, [.ref x_studio, .ref x_script, .ref x_teller, .ref x_planner, .ref x_plan, .ref x_drifts, .ref x_floor, .ref x_trial, .ref x_tape, .int 4, .int (-1)])), (x_tape, .inl (cT 1, 400, .inl fta2_3))]) hP hD [0, 1] [] rfl rfl (by decide) (by decide) hk1 hF hP1 hD1
  have hP : va_P D vwCl [(h0, .inr (11, [.ref x_studio, .ref x_script, .ref x_teller, .ref x_planner, .ref x_plan, .ref x_drifts, .ref x_floor, .ref x_trial, .ref x_tape, .int 4, .int (-1)])), (x_tape, .inl (cT 1, 400, .inl fta2_3))] _ := hP
  have hD : va_D A [(h0, .inr (11, [.ref x_studio, .ref x_script, .ref x_teller, .ref x_planner, .ref x_plan, .ref x_drifts, .ref x_floor, .ref x_trial, .ref x_tape, .int 4, .int (-1)])), (x_tape, .inl (cT 1, 400, .inl fta2_3))] := hD
  refine lv_aload_n hx hb dX11_feed_20 rfl (lv_at hl 0 rfl) ?_
  refine lv_iload_n hx hb dX11_feed_21 rfl (lv_at hl 2 rfl) ?_
  have hF := va_free (wc := [(h0, .inr (11, [.ref x_studio, .ref x_script, .ref x_teller, .ref x_planner, .ref x_plan, .ref x_drifts, .ref x_floor, .ref x_trial, .ref x_tape, .int 4, .int (-1)])), (x_tape, .inl (cT 1, 400, .inl fta2_3))]) hD hS hA [0, 1] rfl
  refine va_callv (va_runV (As := [.int p1]) (rest := []) ⟨hx, hb, hml, hown, hts⟩ (c_X11_feedNumber_4 l D cT h0 p1 x_studio x_script x_teller x_planner x_plan x_drifts x_floor x_trial x_tape fta2_3 _ ) (cwV 1 hts gX11_feed_X11_feedNumber rfl rfl rfl (by decide +kernel) ⟨Nat.le_of_ble_eq_true rfl, Nat.le_of_ble_eq_true rfl⟩) (pv_w hP hD hK hG [0, 1] rfl rfl rfl 0 rfl rfl) rfl rfl hl.1 rfl (lv_room (Nat.le_of_ble_eq_true rfl)) dX11_feed_22 ⟨Nat.le_of_ble_eq_true rfl, Nat.le_of_ble_eq_true rfl⟩) hS (fun q _ h => hF q h) hF (fun uu9 tt9 H locs ht hvm wr_4 hB hz1 hk1 hS => ?_)
  obtain ⟨fta2_5, hP1, hD1⟩ := hB
  rw [ht] at hP1
  obtain ⟨hP, hD⟩ := va_join (wr := []) (w1 := [(h0, .inr (11, [.ref x_studio, .ref x_script, .ref x_teller, .ref x_planner, .ref x_plan, .ref x_drifts, .ref x_floor, .ref x_trial, .ref x_tape, .int 8, .int (-1)])), (x_tape, .inl (cT 1, 400, .inl fta2_5))]) hP hD [0, 1] [] rfl rfl (by decide) (by decide) hk1 hF hP1 hD1
  have hP : va_P D vwCl [(h0, .inr (11, [.ref x_studio, .ref x_script, .ref x_teller, .ref x_planner, .ref x_plan, .ref x_drifts, .ref x_floor, .ref x_trial, .ref x_tape, .int 8, .int (-1)])), (x_tape, .inl (cT 1, 400, .inl fta2_5))] _ := hP
  have hD : va_D A [(h0, .inr (11, [.ref x_studio, .ref x_script, .ref x_teller, .ref x_planner, .ref x_plan, .ref x_drifts, .ref x_floor, .ref x_trial, .ref x_tape, .int 8, .int (-1)])), (x_tape, .inl (cT 1, 400, .inl fta2_5))] := hD
  refine lv_aload_n hx hb dX11_feed_25 rfl (lv_at hl 0 rfl) ?_
  refine lv_iload_n hx hb dX11_feed_26 rfl (lv_at hl 3 rfl) ?_
  have hF := va_free (wc := [(h0, .inr (11, [.ref x_studio, .ref x_script, .ref x_teller, .ref x_planner, .ref x_plan, .ref x_drifts, .ref x_floor, .ref x_trial, .ref x_tape, .int 8, .int (-1)])), (x_tape, .inl (cT 1, 400, .inl fta2_5))]) hD hS hA [0, 1] rfl
  refine va_callv (va_runV (As := [.int p2]) (rest := []) ⟨hx, hb, hml, hown, hts⟩ (c_X11_feedNumber_8 l D cT h0 p2 x_studio x_script x_teller x_planner x_plan x_drifts x_floor x_trial x_tape fta2_5 _ ) (cwV 1 hts gX11_feed_X11_feedNumber rfl rfl rfl (by decide +kernel) ⟨Nat.le_of_ble_eq_true rfl, Nat.le_of_ble_eq_true rfl⟩) (pv_w hP hD hK hG [0, 1] rfl rfl rfl 0 rfl rfl) rfl rfl hl.1 rfl (lv_room (Nat.le_of_ble_eq_true rfl)) dX11_feed_27 ⟨Nat.le_of_ble_eq_true rfl, Nat.le_of_ble_eq_true rfl⟩) hS (fun q _ h => hF q h) hF (fun uu9 tt9 H locs ht hvm wr_6 hB hz1 hk1 hS => ?_)
  obtain ⟨fta2_7, hP1, hD1⟩ := hB
  rw [ht] at hP1
  obtain ⟨hP, hD⟩ := va_join (wr := []) (w1 := [(h0, .inr (11, [.ref x_studio, .ref x_script, .ref x_teller, .ref x_planner, .ref x_plan, .ref x_drifts, .ref x_floor, .ref x_trial, .ref x_tape, .int 12, .int (-1)])), (x_tape, .inl (cT 1, 400, .inl fta2_7))]) hP hD [0, 1] [] rfl rfl (by decide) (by decide) hk1 hF hP1 hD1
  have hP : va_P D vwCl [(h0, .inr (11, [.ref x_studio, .ref x_script, .ref x_teller, .ref x_planner, .ref x_plan, .ref x_drifts, .ref x_floor, .ref x_trial, .ref x_tape, .int 12, .int (-1)])), (x_tape, .inl (cT 1, 400, .inl fta2_7))] _ := hP
  have hD : va_D A [(h0, .inr (11, [.ref x_studio, .ref x_script, .ref x_teller, .ref x_planner, .ref x_plan, .ref x_drifts, .ref x_floor, .ref x_trial, .ref x_tape, .int 12, .int (-1)])), (x_tape, .inl (cT 1, 400, .inl fta2_7))] := hD
  refine lv_aload_n hx hb dX11_feed_30 rfl (lv_at hl 0 rfl) ?_
  refine lv_iload hx hb dX11_feed_31 (lv_at hl 4 rfl) ?_
  have hF := va_free (wc := [(h0, .inr (11, [.ref x_studio, .ref x_script, .ref x_teller, .ref x_planner, .ref x_plan, .ref x_drifts, .ref x_floor, .ref x_trial, .ref x_tape, .int 12, .int (-1)])), (x_tape, .inl (cT 1, 400, .inl fta2_7))]) hD hS hA [0, 1] rfl
  refine va_callv (va_runV (As := [.int p3]) (rest := []) ⟨hx, hb, hml, hown, hts⟩ (c_X11_feedNumber_12 l D cT h0 p3 x_studio x_script x_teller x_planner x_plan x_drifts x_floor x_trial x_tape fta2_7 _ ) (cwV 1 hts gX11_feed_X11_feedNumber rfl rfl rfl (by decide +kernel) ⟨Nat.le_of_ble_eq_true rfl, Nat.le_of_ble_eq_true rfl⟩) (pv_w hP hD hK hG [0, 1] rfl rfl rfl 0 rfl rfl) rfl rfl hl.1 rfl (lv_room (Nat.le_of_ble_eq_true rfl)) dX11_feed_33 ⟨Nat.le_of_ble_eq_true rfl, Nat.le_of_ble_eq_true rfl⟩) hS (fun q _ h => hF q h) hF (fun uu9 tt9 H locs ht hvm wr_8 hB hz1 hk1 hS => ?_)
  obtain ⟨fta2_9, hP1, hD1⟩ := hB
  rw [ht] at hP1
  obtain ⟨hP, hD⟩ := va_join (wr := []) (w1 := [(h0, .inr (11, [.ref x_studio, .ref x_script, .ref x_teller, .ref x_planner, .ref x_plan, .ref x_drifts, .ref x_floor, .ref x_trial, .ref x_tape, .int 16, .int (-1)])), (x_tape, .inl (cT 1, 400, .inl fta2_9))]) hP hD [0, 1] [] rfl rfl (by decide) (by decide) hk1 hF hP1 hD1
  have hP : va_P D vwCl [(h0, .inr (11, [.ref x_studio, .ref x_script, .ref x_teller, .ref x_planner, .ref x_plan, .ref x_drifts, .ref x_floor, .ref x_trial, .ref x_tape, .int 16, .int (-1)])), (x_tape, .inl (cT 1, 400, .inl fta2_9))] _ := hP
  have hD : va_D A [(h0, .inr (11, [.ref x_studio, .ref x_script, .ref x_teller, .ref x_planner, .ref x_plan, .ref x_drifts, .ref x_floor, .ref x_trial, .ref x_tape, .int 16, .int (-1)])), (x_tape, .inl (cT 1, 400, .inl fta2_9))] := hD
  refine lv_aload_n hx hb dX11_feed_36 rfl (lv_at hl 0 rfl) ?_
  refine lv_iload hx hb dX11_feed_37 (lv_at hl 5 rfl) ?_
  have hF := va_free (wc := [(h0, .inr (11, [.ref x_studio, .ref x_script, .ref x_teller, .ref x_planner, .ref x_plan, .ref x_drifts, .ref x_floor, .ref x_trial, .ref x_tape, .int 16, .int (-1)])), (x_tape, .inl (cT 1, 400, .inl fta2_9))]) hD hS hA [0, 1] rfl
  refine va_callv (va_runV (As := [.int p4]) (rest := []) ⟨hx, hb, hml, hown, hts⟩ (c_X11_feedNumber_16 l D cT h0 p4 x_studio x_script x_teller x_planner x_plan x_drifts x_floor x_trial x_tape fta2_9 _ ) (cwV 1 hts gX11_feed_X11_feedNumber rfl rfl rfl (by decide +kernel) ⟨Nat.le_of_ble_eq_true rfl, Nat.le_of_ble_eq_true rfl⟩) (pv_w hP hD hK hG [0, 1] rfl rfl rfl 0 rfl rfl) rfl rfl hl.1 rfl (lv_room (Nat.le_of_ble_eq_true rfl)) dX11_feed_39 ⟨Nat.le_of_ble_eq_true rfl, Nat.le_of_ble_eq_true rfl⟩) hS (fun q _ h => hF q h) hF (fun uu9 tt9 H locs ht hvm wr_10 hB hz1 hk1 hS => ?_)
  obtain ⟨fta2_11, hP1, hD1⟩ := hB
  rw [ht] at hP1
  obtain ⟨hP, hD⟩ := va_join (wr := []) (w1 := [(h0, .inr (11, [.ref x_studio, .ref x_script, .ref x_teller, .ref x_planner, .ref x_plan, .ref x_drifts, .ref x_floor, .ref x_trial, .ref x_tape, .int 20, .int (-1)])), (x_tape, .inl (cT 1, 400, .inl fta2_11))]) hP hD [0, 1] [] rfl rfl (by decide) (by decide) hk1 hF hP1 hD1
  have hP : va_P D vwCl [(h0, .inr (11, [.ref x_studio, .ref x_script, .ref x_teller, .ref x_planner, .ref x_plan, .ref x_drifts, .ref x_floor, .ref x_trial, .ref x_tape, .int 20, .int (-1)])), (x_tape, .inl (cT 1, 400, .inl fta2_11))] _ := hP
  have hD : va_D A [(h0, .inr (11, [.ref x_studio, .ref x_script, .ref x_teller, .ref x_planner, .ref x_plan, .ref x_drifts, .ref x_floor, .ref x_trial, .ref x_tape, .int 20, .int (-1)])), (x_tape, .inl (cT 1, 400, .inl fta2_11))] := hD
  refine lv_aload_n hx hb dX11_feed_42 rfl (lv_at hl 0 rfl) ?_
  refine va_get (D := D) (ci := 11) (v := .int 20) (C := RX11) (T := TX11) (N := 11) hx hb hts (fun _ h => List.mem_cons_of_mem _ (List.mem_append_right _ h)) hown hK hP 0 rfl rfl 9 (by decide) (hts (.fieldLink RX11 125 "PuppetFilm" "taped" "I") (List.mem_of_getElem? (i := 1) (by decide +kernel))) (fun _ h9 => h9) rfl dX11_feed_43 ?_
  exact W.iret (v := 20) hx hb hr (fun t ht hW => ⟨⟨20, (), rfl, rfl, trivial⟩, hS.F ht⟩) hS.2.2 dX11_feed_46
theorem dX11_set_0 : decode cX11_set 0 = .ok (.iload_n 1, 1) := by decide +kernel
theorem dX11_set_1 : decode cX11_set 1 = .ok (.ifCond .ne 43, 3) := by decide +kernel
theorem dX11_set_10 : decode cX11_set 10 = .ok (.ifCond .eq 17, 3) := by decide +kernel
theorem dX11_set_100 : decode cX11_set 100 = .ok (.iload_n 1, 1) := by decide +kernel
theorem dX11_set_101 : decode cX11_set 101 = .ok (.iconst 2, 1) := by decide +kernel
theorem dX11_set_102 : decode cX11_set 102 = .ok (.if_icmp .ne 18, 3) := by decide +kernel
theorem dX11_set_105 : decode cX11_set 105 = .ok (.aload 4, 2) := by decide +kernel
theorem dX11_set_107 : decode cX11_set 107 = .ok (.ifnull 13, 3) := by decide +kernel
theorem dX11_set_120 : decode cX11_set 120 = .ok (.new 192, 3) := by decide +kernel
theorem dX11_set_123 : decode cX11_set 123 = .ok (.dup, 1) := by decide +kernel
theorem dX11_set_124 : decode cX11_set 124 = .ok (.ldc_w 274, 3) := by decide +kernel
theorem dX11_set_127 : decode cX11_set 127 = .ok (.invokespecial 196, 3) := by decide +kernel
theorem dX11_set_13 : decode cX11_set 13 = .ok (.iload_n 3, 1) := by decide +kernel
theorem dX11_set_130 : decode cX11_set 130 = .ok (.athrow, 1) := by decide +kernel
theorem dX11_set_14 : decode cX11_set 14 = .ok (.iconst 1, 1) := by decide +kernel
theorem dX11_set_15 : decode cX11_set 15 = .ok (.bipush 100, 2) := by decide +kernel
theorem dX11_set_17 : decode cX11_set 17 = .ok (.invokestatic 97, 3) := by decide +kernel
theorem dX11_set_20 : decode cX11_set 20 = .ok (.ifCond .eq 7, 3) := by decide +kernel
theorem dX11_set_23 : decode cX11_set 23 = .ok (.iconst 1, 1) := by decide +kernel
theorem dX11_set_24 : decode cX11_set 24 = .ok (.goto 4, 3) := by decide +kernel
theorem dX11_set_27 : decode cX11_set 27 = .ok (.iconst 0, 1) := by decide +kernel
theorem dX11_set_28 : decode cX11_set 28 = .ok (.invokestatic 93, 3) := by decide +kernel
theorem dX11_set_31 : decode cX11_set 31 = .ok (.aload_n 0, 1) := by decide +kernel
theorem dX11_set_32 : decode cX11_set 32 = .ok (.getfield 10, 3) := by decide +kernel
theorem dX11_set_35 : decode cX11_set 35 = .ok (.getfield 265, 3) := by decide +kernel
theorem dX11_set_38 : decode cX11_set 38 = .ok (.iload_n 2, 1) := by decide +kernel
theorem dX11_set_39 : decode cX11_set 39 = .ok (.iload_n 3, 1) := by decide +kernel
theorem dX11_set_4 : decode cX11_set 4 = .ok (.iload_n 2, 1) := by decide +kernel
theorem dX11_set_40 : decode cX11_set 40 = .ok (.invokestatic 121, 3) := by decide +kernel
theorem dX11_set_43 : decode cX11_set 43 = .ok (.ireturn, 1) := by decide +kernel
theorem dX11_set_44 : decode cX11_set 44 = .ok (.iload_n 1, 1) := by decide +kernel
theorem dX11_set_45 : decode cX11_set 45 = .ok (.iconst 1, 1) := by decide +kernel
theorem dX11_set_46 : decode cX11_set 46 = .ok (.if_icmp .ne 44, 3) := by decide +kernel
theorem dX11_set_49 : decode cX11_set 49 = .ok (.iload_n 2, 1) := by decide +kernel
theorem dX11_set_5 : decode cX11_set 5 = .ok (.iconst 0, 1) := by decide +kernel
theorem dX11_set_50 : decode cX11_set 50 = .ok (.iconst 0, 1) := by decide +kernel
theorem dX11_set_51 : decode cX11_set 51 = .ok (.bipush 7, 2) := by decide +kernel
theorem dX11_set_53 : decode cX11_set 53 = .ok (.invokestatic 97, 3) := by decide +kernel
theorem dX11_set_56 : decode cX11_set 56 = .ok (.ifCond .eq 17, 3) := by decide +kernel
theorem dX11_set_59 : decode cX11_set 59 = .ok (.iload_n 3, 1) := by decide +kernel
theorem dX11_set_6 : decode cX11_set 6 = .ok (.iconst 2, 1) := by decide +kernel
theorem dX11_set_60 : decode cX11_set 60 = .ok (.iconst 0, 1) := by decide +kernel
theorem dX11_set_61 : decode cX11_set 61 = .ok (.bipush 20, 2) := by decide +kernel
theorem dX11_set_63 : decode cX11_set 63 = .ok (.invokestatic 97, 3) := by decide +kernel
theorem dX11_set_66 : decode cX11_set 66 = .ok (.ifCond .eq 7, 3) := by decide +kernel
theorem dX11_set_69 : decode cX11_set 69 = .ok (.iconst 1, 1) := by decide +kernel
theorem dX11_set_7 : decode cX11_set 7 = .ok (.invokestatic 97, 3) := by decide +kernel
theorem dX11_set_70 : decode cX11_set 70 = .ok (.goto 4, 3) := by decide +kernel
theorem dX11_set_73 : decode cX11_set 73 = .ok (.iconst 0, 1) := by decide +kernel
theorem dX11_set_74 : decode cX11_set 74 = .ok (.invokestatic 93, 3) := by decide +kernel
theorem dX11_set_77 : decode cX11_set 77 = .ok (.aload_n 0, 1) := by decide +kernel
theorem dX11_set_78 : decode cX11_set 78 = .ok (.getfield 10, 3) := by decide +kernel
theorem dX11_set_81 : decode cX11_set 81 = .ok (.getfield 268, 3) := by decide +kernel
theorem dX11_set_84 : decode cX11_set 84 = .ok (.iload_n 2, 1) := by decide +kernel
theorem dX11_set_85 : decode cX11_set 85 = .ok (.iload_n 3, 1) := by decide +kernel
theorem dX11_set_86 : decode cX11_set 86 = .ok (.invokestatic 121, 3) := by decide +kernel
theorem dX11_set_89 : decode cX11_set 89 = .ok (.ireturn, 1) := by decide +kernel
theorem dX11_set_90 : decode cX11_set 90 = .ok (.aload_n 0, 1) := by decide +kernel
theorem dX11_set_91 : decode cX11_set 91 = .ok (.getfield 10, 3) := by decide +kernel
theorem dX11_set_94 : decode cX11_set 94 = .ok (.iload_n 2, 1) := by decide +kernel
theorem dX11_set_95 : decode cX11_set 95 = .ok (.invokevirtual 271, 3) := by decide +kernel
theorem dX11_set_98 : decode cX11_set 98 = .ok (.astore 4, 2) := by decide +kernel
set_option maxRecDepth 20000 in
theorem ggX11_set_X11_need : GoodIn wsX11_set wsX11_need := goodIn_ca (goodIn_r _ [13, 1, 2] (by decide +kernel) (by decide +kernel)) (goodIn_sub (fun _ h => List.mem_cons_of_mem _ (List.mem_append_right _ h)) (by decide +kernel))
set_option maxRecDepth 20000 in
theorem gX11_set_X11_need : GoodIn wsX11_set (va_wsS RX11 93 yX11_need wsX11_need) := goodIn_app (goodIn_of _ (by decide +kernel)) ggX11_set_X11_need
set_option maxRecDepth 20000 in
theorem ggX11_set_X11_swapIn : GoodIn wsX11_set wsX11_swapIn := goodIn_r _ [16] (by decide +kernel) (by decide +kernel)
set_option maxRecDepth 20000 in
theorem gX11_set_X11_swapIn : GoodIn wsX11_set (va_wsS RX11 121 yX11_swapIn wsX11_swapIn) := goodIn_app (goodIn_of _ (by decide +kernel)) ggX11_set_X11_swapIn
set_option maxRecDepth 20000 in
theorem ggX11_set_X11_within : GoodIn wsX11_set wsX11_within := goodIn_r _ [10] (by decide +kernel) (by decide +kernel)
set_option maxRecDepth 20000 in
theorem gX11_set_X11_within : GoodIn wsX11_set (va_wsS RX11 97 yX11_within wsX11_within) := goodIn_app (goodIn_of _ (by decide +kernel)) ggX11_set_X11_within
set_option maxRecDepth 20000 in
theorem ggX11_set_X8_shotAt : GoodIn wsX11_set wsX8_shotAt := goodIn_r _ [21, 22, 34, 35, 36, 37, 38, 39, 40] (by decide +kernel) (by decide +kernel)
set_option maxRecDepth 20000 in
theorem gX11_set_X8_shotAt : GoodIn wsX11_set (wsV RX11 271 RX8 yX8_shotAt wsX8_shotAt) := goodIn_app (goodIn_of _ (by decide +kernel)) ggX11_set_X8_shotAt
set_option maxHeartbeats 4000000 in
set_option maxRecDepth 100000 in
theorem c_X11_set (l : Launch) (hst : l.stackTraces = false) (D : va_G) (cT : Nat → ClassId) (h0 : Nat) (p0 : Int32) (p1 : Int32) (p2 : Int32) (x_studio : Nat) (x_script : Nat) (x_teller : Nat) (x_planner : Nat) (x_plan : Nat) (x_drifts : Nat) (x_floor : Nat) (x_trial : Nat) (x_tape : Nat) (s_puppets : Nat) (s_shots : Nat) (s_sounds : Nat) (s_rates : Nat) (s_dresses : Nat) (fra : Nat → Int32) (fdr : Nat → Int32) (sz : Nat) (hra : ∀ k, k < 3 → fra k = 10) (hdr : ∀ k, k < 8 → fdr k = 1) : vx_Met l yX11_set wsX11_set ({ frames := 9, cells := 1, slots := 6, locals := 220 }) (va_Pc [.ref h0, .int p0, .int p1, .int p2] (PZ D cT [(h0, .inr (11, [.ref x_studio, .ref x_script, .ref x_teller, .ref x_planner, .ref x_plan, .ref x_drifts, .ref x_floor, .ref x_trial, .ref x_tape, .int 0, .int (-1)])), (x_studio, .inr (8, [.ref s_puppets, .int 0, .ref s_shots, .int 0, .ref s_sounds, .ref s_rates, .ref s_dresses])), (s_shots, .inl (cT 5, 12, .inr (.inr (.inr (.inr (fun _ => none)))))), (s_rates, .inl (cT 0, 3, .inl fra)), (s_dresses, .inl (cT 0, 8, .inl fdr))] sz)) (va_Qi (fun (r : Int32) (_ : Unit) => th_set p0 p1 p2 = 0 ∧ r = vl_set p0) (fun (_ : Unit) (_ : State) => True) (va_A [(h0, .inr (11, [.ref x_studio, .ref x_script, .ref x_teller, .ref x_planner, .ref x_plan, .ref x_drifts, .ref x_floor, .ref x_trial, .ref x_tape, .int 0, .int (-1)])), (x_studio, .inr (8, [.ref s_puppets, .int 0, .ref s_shots, .int 0, .ref s_sounds, .ref s_rates, .ref s_dresses])), (s_shots, .inl (cT 5, 12, .inr (.inr (.inr (.inr (fun _ => none)))))), (s_rates, .inl (cT 0, 3, .inl fra)), (s_dresses, .inl (cT 0, 8, .inl fdr))] sz)) (vx_X (fun _ : Unit => True) (fun (E : String) (_ : Unit) (_ : State) => (E = "java/lang/IllegalArgumentException" ∧ th_set p0 p1 p2 = 1)) (va_A [(h0, .inr (11, [.ref x_studio, .ref x_script, .ref x_teller, .ref x_planner, .ref x_plan, .ref x_drifts, .ref x_floor, .ref x_trial, .ref x_tape, .int 0, .int (-1)])), (x_studio, .inr (8, [.ref s_puppets, .int 0, .ref s_shots, .int 0, .ref s_sounds, .ref s_rates, .ref s_dresses])), (s_shots, .inl (cT 5, 12, .inr (.inr (.inr (.inr (fun _ => none)))))), (s_rates, .inl (cT 0, 3, .inl fra)), (s_dresses, .inl (cT 0, 8, .inl fdr))] sz)) 1 6 (va_A [(h0, .inr (11, [.ref x_studio, .ref x_script, .ref x_teller, .ref x_planner, .ref x_plan, .ref x_drifts, .ref x_floor, .ref x_trial, .ref x_tape, .int 0, .int (-1)])), (x_studio, .inr (8, [.ref s_puppets, .int 0, .ref s_shots, .int 0, .ref s_sounds, .ref s_rates, .ref s_dresses])), (s_shots, .inl (cT 5, 12, .inr (.inr (.inr (.inr (fun _ => none)))))), (s_rates, .inl (cT 0, 3, .inl fra)), (s_dresses, .inl (cT 0, 8, .inl fdr))] sz) := by
  refine vx_ofW (cc := cX11_set) (maxL := 6) (ret := (some .int)) (by decide) rfl ?_
  intro p e s m args below meth c s₁ B hml hex hv
  obtain ⟨rfl, ⟨hsz, hP, hK, hD0, hG⟩, hZ⟩ := hv
  have hx := B.exec
  have hb := B.bytes
  have hr := B.returns
  have hts := atoms_spec (ws := wsX11_set) B.pre
  have hown : s.vm.findClass RX11 = some m.cls := findClass_of_methodNamed B.named
  have hlocks := B.notSynchronized
  subst hsz
  have hD := hD0.self (sz := s.heap.size)
  generalize hAe : va_A [(h0, .inr (11, [.ref x_studio, .ref x_script, .ref x_teller, .ref x_planner, .ref x_plan, .ref x_drifts, .ref x_floor, .ref x_trial, .ref x_tape, .int 0, .int (-1)])), (x_studio, .inr (8, [.ref s_puppets, .int 0, .ref s_shots, .int 0, .ref s_sounds, .ref s_rates, .ref s_dresses])), (s_shots, .inl (cT 5, 12, .inr (.inr (.inr (.inr (fun _ => none)))))), (s_rates, .inl (cT 0, 3, .inl fra)), (s_dresses, .inl (cT 0, 8, .inl fdr))] s.heap.size = A at hD hZ ⊢
  have hA : ∀ q : Nat, s.heap.size ≤ q → A q := fun q h => by rw [← hAe]; exact Or.inr h
  have hS : va_S A s.heap s.heap [] := va_S.rf
  have hP : va_P D vwCl [(h0, .inr (11, [.ref x_studio, .ref x_script, .ref x_teller, .ref x_planner, .ref x_plan, .ref x_drifts, .ref x_floor, .ref x_trial, .ref x_tape, .int 0, .int (-1)])), (x_studio, .inr (8, [.ref s_puppets, .int 0, .ref s_shots, .int 0, .ref s_sounds, .ref s_rates, .ref s_dresses])), (s_shots, .inl (cT 5, 12, .inr (.inr (.inr (.inr (fun _ => none)))))), (s_rates, .inl (cT 0, 3, .inl fra)), (s_dresses, .inl (cT 0, 8, .inl fdr))] s.heap := hP
  have hl := lv_entry ([.ref h0, .int p0, .int p1, .int p2]) (n := 6) (Nat.le_of_ble_eq_true rfl)
  rw [lg_entry_eq]
  generalize (lg_sl ([.ref h0, .int p0, .int p1, .int p2]) ++ List.replicate (6 - (lg_sl ([.ref h0, .int p0, .int p1, .int p2])).length) Slot.unset).toArray = ls at hl ⊢
  have hl : lv_has ls 6 [(0, .ref h0), (1, .int p0), (2, .int p1), (3, .int p2)] := hl
  refine lv_iload_n hx hb dX11_set_0 rfl (lv_at hl 1 rfl) ?_
  refine lv_if_ne (tgt := 44) hx hb dX11_set_1 (by decide) (fun c_1 => ?_) (fun c_1 => ?_)
  · refine lv_iload_n hx hb dX11_set_44 rfl (lv_at hl 1 rfl) ?_
    refine lv_iconst (v := 1) hx hb dX11_set_45 (by decide) ?_
    refine lv_icmp_ne (tgt := 90) hx hb dX11_set_46 (by decide) (fun c_2 => ?_) (fun c_2 => ?_)
    · refine lv_aload_n hx hb dX11_set_90 rfl (lv_at hl 0 rfl) ?_
      refine va_get (D := D) (ci := 11) (v := .ref x_studio) (C := RX11) (T := TX11) (N := 11) hx hb hts (fun _ h => List.mem_cons_of_mem _ (List.mem_append_left _ (List.mem_append_left _ (List.mem_append_left _ (List.mem_append_right _ h))))) hown hK hP 0 rfl rfl 0 (by decide) (hts (.fieldLink RX11 10 "PuppetFilm" "studio" "LPuppetFilm$Studio;") (List.mem_of_getElem? (i := 3) (by decide +kernel))) (fun _ h9 => h9) rfl dX11_set_91 ?_
      refine lv_iload_n hx hb dX11_set_94 rfl (lv_at hl 2 rfl) ?_
      have hF := va_free (wc := [(x_studio, .inr (8, [.ref s_puppets, .int 0, .ref s_shots, .int 0, .ref s_sounds, .ref s_rates, .ref s_dresses])), (s_shots, .inl (cT 5, 12, .inr (.inr (.inr (.inr (fun _ => none))))))]) hD hS hA [1, 2] rfl
      refine va_callq (va_runV (As := [.int p1]) (rest := []) ⟨hx, hb, hml, hown, hts⟩ (c_X8_shotAt l D cT x_studio p1 s_puppets s_shots s_sounds s_rates s_dresses _ ) (cwV 1 hts gX11_set_X8_shotAt rfl rfl rfl (by decide +kernel) ⟨Nat.le_of_ble_eq_true rfl, Nat.le_of_ble_eq_true rfl⟩) (pv_w hP hD hK hG [1, 2] rfl rfl rfl 1 rfl rfl) rfl rfl hl.1 rfl (lv_room (Nat.le_of_ble_eq_true rfl)) dX11_set_95 ⟨Nat.le_of_ble_eq_true rfl, Nat.le_of_ble_eq_true rfl⟩) hS (fun q _ h => hF q h) hF (fun r_3 uu9 tt9 H locs ht hvm wr_3 hB hz1 hk1 hS => ?_)
      obtain ⟨hP1, hD1⟩ := hB
      rw [ht] at hP1
      obtain ⟨hP, hD⟩ := va_join (wr := [(h0, .inr (11, [.ref x_studio, .ref x_script, .ref x_teller, .ref x_planner, .ref x_plan, .ref x_drifts, .ref x_floor, .ref x_trial, .ref x_tape, .int 0, .int (-1)])), (s_rates, .inl (cT 0, 3, .inl fra)), (s_dresses, .inl (cT 0, 8, .inl fdr))]) (w1 := [(x_studio, .inr (8, [.ref s_puppets, .int 0, .ref s_shots, .int 0, .ref s_sounds, .ref s_rates, .ref s_dresses])), (s_shots, .inl (cT 5, 12, .inr (.inr (.inr (.inr (fun _ => none))))))]) hP hD [1, 2] [0, 3, 4] rfl rfl (by decide) (by decide) hk1 hF hP1 hD1
      have hP : va_P D vwCl [(h0, .inr (11, [.ref x_studio, .ref x_script, .ref x_teller, .ref x_planner, .ref x_plan, .ref x_drifts, .ref x_floor, .ref x_trial, .ref x_tape, .int 0, .int (-1)])), (s_rates, .inl (cT 0, 3, .inl fra)), (s_dresses, .inl (cT 0, 8, .inl fdr)), (x_studio, .inr (8, [.ref s_puppets, .int 0, .ref s_shots, .int 0, .ref s_sounds, .ref s_rates, .ref s_dresses])), (s_shots, .inl (cT 5, 12, .inr (.inr (.inr (.inr (fun _ => none))))))] _ := hP
      have hD : va_D A [(h0, .inr (11, [.ref x_studio, .ref x_script, .ref x_teller, .ref x_planner, .ref x_plan, .ref x_drifts, .ref x_floor, .ref x_trial, .ref x_tape, .int 0, .int (-1)])), (s_rates, .inl (cT 0, 3, .inl fra)), (s_dresses, .inl (cT 0, 8, .inl fdr)), (x_studio, .inr (8, [.ref s_puppets, .int 0, .ref s_shots, .int 0, .ref s_sounds, .ref s_rates, .ref s_dresses])), (s_shots, .inl (cT 5, 12, .inr (.inr (.inr (.inr (fun _ => none))))))] := hD
      obtain rfl : r_3 = none := wr_3
      refine W.eq (g2 := F0 m 98 ls [.null]) rfl ?_
      refine lv_astoreN (lv' := [(4, .null), (0, .ref h0), (1, .int p0), (2, .int p1), (3, .int p2)]) hx hb dX11_set_98 hl (by decide) rfl (fun ls hl => ?_)
      refine lv_iload_n hx hb dX11_set_100 rfl (lv_at hl 2 rfl) ?_
      refine lv_iconst (v := 2) hx hb dX11_set_101 (by decide) ?_
      refine lv_icmp_ne (tgt := 120) hx hb dX11_set_102 (by decide) (fun c_4 => ?_) (fun c_4 => ?_)
      · obtain ⟨sa9, hsa9⟩ := hG.2.2.2.1 (274, "none such") (by decide +kernel)
        exact vx_throwSW (own := RX11) (cls := "java/lang/IllegalArgumentException") (text := "none such") (names := ["java/lang/RuntimeException", "java/lang/Exception"]) (ik := 192) (is := 274) (ic := 196) (A := A) hx hb hst hown (by decide +kernel) (by decide +kernel) (hts (.classLink RX11 192 "java/lang/IllegalArgumentException") (List.mem_of_getElem? (i := 1) (by decide +kernel))) (hts (.initialized "java/lang/IllegalArgumentException") (List.mem_of_getElem? (i := 2) (by decide +kernel))) hsa9 (vx_hat (fun w h => hts w (List.mem_cons_of_mem _ (List.mem_append_right _ h))) (by decide +kernel) (gwB_any hG)) (by decide +kernel) hZ.1 hZ.2 hS (hl.1.trans hml.symm) dX11_set_120 dX11_set_123 dX11_set_124 dX11_set_127 dX11_set_130 (fun x hx9 => (hex x hx9).elim) (Nat.le_of_ble_eq_true rfl) (Nat.le_of_ble_eq_true rfl) (Nat.le_of_ble_eq_true rfl) (Nat.le_of_ble_eq_true rfl) hlocks (fun t hA9 h1 h2 => ⟨(), trivial, ⟨rfl, (by simp [th_set, c_1, c_2, c_4])⟩, Nat.le_trans hS.1 h1, fun q hq hA => (h2 q (Nat.lt_of_lt_of_le hq hS.1)).trans (hS.2.1 q hq hA)⟩) hS.2.2 (Nat.le_of_ble_eq_true rfl) (Nat.le_of_ble_eq_true rfl)
      · refine lv_aloadN hx hb dX11_set_105 (lv_at hl 0 rfl) ?_
        refine lv_ifnullN (tgt := 120) hx hb dX11_set_107 (by decide) ?_
        obtain ⟨sa9, hsa9⟩ := hG.2.2.2.1 (274, "none such") (by decide +kernel)
        exact vx_throwSW (own := RX11) (cls := "java/lang/IllegalArgumentException") (text := "none such") (names := ["java/lang/RuntimeException", "java/lang/Exception"]) (ik := 192) (is := 274) (ic := 196) (A := A) hx hb hst hown (by decide +kernel) (by decide +kernel) (hts (.classLink RX11 192 "java/lang/IllegalArgumentException") (List.mem_of_getElem? (i := 1) (by decide +kernel))) (hts (.initialized "java/lang/IllegalArgumentException") (List.mem_of_getElem? (i := 2) (by decide +kernel))) hsa9 (vx_hat (fun w h => hts w (List.mem_cons_of_mem _ (List.mem_append_right _ h))) (by decide +kernel) (gwB_any hG)) (by decide +kernel) hZ.1 hZ.2 hS (hl.1.trans hml.symm) dX11_set_120 dX11_set_123 dX11_set_124 dX11_set_127 dX11_set_130 (fun x hx9 => (hex x hx9).elim) (Nat.le_of_ble_eq_true rfl) (Nat.le_of_ble_eq_true rfl) (Nat.le_of_ble_eq_true rfl) (Nat.le_of_ble_eq_true rfl) hlocks (fun t hA9 h1 h2 => ⟨(), trivial, ⟨rfl, (by simp [th_set, c_1, c_2, c_4])⟩, Nat.le_trans hS.1 h1, fun q hq hA => (h2 q (Nat.lt_of_lt_of_le hq hS.1)).trans (hS.2.1 q hq hA)⟩) hS.2.2 (Nat.le_of_ble_eq_true rfl) (Nat.le_of_ble_eq_true rfl)
    · refine lv_iload_n hx hb dX11_set_49 rfl (lv_at hl 2 rfl) ?_
      refine lv_iconst (v := 0) hx hb dX11_set_50 (by decide) ?_
      refine lv_bipush (v := 7) hx hb dX11_set_51 (by decide) ?_
      have hF := va_free (wc := []) hD hS hA [] rfl
      refine va_calli (va_runS (As := [.int p1, .int 0, .int 7]) (rest := []) ⟨hx, hb, hml, hown, hts⟩ (c_X11_within l D cT p1 0 7 _ ) (va_cwS 3 hts gX11_set_X11_within rfl rfl rfl (by decide +kernel) ⟨Nat.le_of_ble_eq_true rfl, Nat.le_of_ble_eq_true rfl⟩) (ps_w hP hD hK hG [] rfl rfl rfl) rfl rfl hl.1 rfl (lv_room (Nat.le_of_ble_eq_true rfl)) dX11_set_53 ⟨Nat.le_of_ble_eq_true rfl, Nat.le_of_ble_eq_true rfl⟩) hS (fun q _ h => hF q h) hF (fun r_5 uu9 tt9 H locs ht hvm wr_5 hB hz1 hk1 hS => ?_)
      obtain ⟨hP, hD⟩ := va_join (wr := [(h0, .inr (11, [.ref x_studio, .ref x_script, .ref x_teller, .ref x_planner, .ref x_plan, .ref x_drifts, .ref x_floor, .ref x_trial, .ref x_tape, .int 0, .int (-1)])), (x_studio, .inr (8, [.ref s_puppets, .int 0, .ref s_shots, .int 0, .ref s_sounds, .ref s_rates, .ref s_dresses])), (s_shots, .inl (cT 5, 12, .inr (.inr (.inr (.inr (fun _ => none)))))), (s_rates, .inl (cT 0, 3, .inl fra)), (s_dresses, .inl (cT 0, 8, .inl fdr))]) (w1 := []) hP hD [] [0, 1, 2, 3, 4] rfl rfl (by decide) (by decide) hk1 hF vp_nil vd_nil
      have hP : va_P D vwCl [(h0, .inr (11, [.ref x_studio, .ref x_script, .ref x_teller, .ref x_planner, .ref x_plan, .ref x_drifts, .ref x_floor, .ref x_trial, .ref x_tape, .int 0, .int (-1)])), (x_studio, .inr (8, [.ref s_puppets, .int 0, .ref s_shots, .int 0, .ref s_sounds, .ref s_rates, .ref s_dresses])), (s_shots, .inl (cT 5, 12, .inr (.inr (.inr (.inr (fun _ => none)))))), (s_rates, .inl (cT 0, 3, .inl fra)), (s_dresses, .inl (cT 0, 8, .inl fdr))] _ := hP
      have hD : va_D A [(h0, .inr (11, [.ref x_studio, .ref x_script, .ref x_teller, .ref x_planner, .ref x_plan, .ref x_drifts, .ref x_floor, .ref x_trial, .ref x_tape, .int 0, .int (-1)])), (x_studio, .inr (8, [.ref s_puppets, .int 0, .ref s_shots, .int 0, .ref s_sounds, .ref s_rates, .ref s_dresses])), (s_shots, .inl (cT 5, 12, .inr (.inr (.inr (.inr (fun _ => none)))))), (s_rates, .inl (cT 0, 3, .inl fra)), (s_dresses, .inl (cT 0, 8, .inl fdr))] := hD
      have g9 := wi_01 p1 0 7
      rw [← wr_5] at g9
      rcases g9 with rfl | rfl
      · refine lv_if_eq (tgt := 73) hx hb dX11_set_56 (by decide) (fun _ => ?_) (fun c9 => absurd c9 (by decide))
        refine lv_iconst (v := 0) hx hb dX11_set_73 (by decide) ?_
        have hF := va_free (wc := []) hD hS hA [] rfl
        refine vx_callv (vx_runS (As := [.int 0]) (rest := []) ⟨hx, hb, hml, hown, hts⟩ (c_X11_need l hst D cT 0 _ ) (va_cwS 1 hts gX11_set_X11_need rfl rfl rfl (by decide +kernel) ⟨Nat.le_of_ble_eq_true rfl, Nat.le_of_ble_eq_true rfl⟩) (ps_z hP hD hK hG hZ hS hF [] rfl rfl rfl) rfl rfl hl.1 rfl (lv_room (Nat.le_of_ble_eq_true rfl)) dX11_set_74 ⟨Nat.le_of_ble_eq_true rfl, Nat.le_of_ble_eq_true rfl⟩) hS (fun q _ h => hF q h) hF (fun q _ h => hF q h) (fun E ce q9 uu9 tt9 H locs ht hvm hw hB hz1 hk1 hS hq9 hv9 hc9 => ?_) (fun uu9 tt9 H locs ht hvm wr_6 hB hz1 hk1 hS => ((wr_6 rfl : False)).elim)
        obtain ⟨rfl, hpx⟩ := hB
        exact vx_out (fun x hx9 => (hex x hx9).elim) hlocks hq9 hv9 hc9 (fun t ht9 hA9 => ⟨(), trivial, ⟨rfl, (by simp [th_set, c_1, c_2, ← wr_5])⟩, hS.F ht9⟩) hS.2.2 (Nat.le_of_ble_eq_true rfl) (Nat.le_of_ble_eq_true rfl)
      · refine lv_if_eq (tgt := 73) hx hb dX11_set_56 (by decide) (fun c9 => absurd c9 (by decide)) (fun _ => ?_)
        refine lv_iload_n hx hb dX11_set_59 rfl (lv_at hl 3 rfl) ?_
        refine lv_iconst (v := 0) hx hb dX11_set_60 (by decide) ?_
        refine lv_bipush (v := 20) hx hb dX11_set_61 (by decide) ?_
        have hF := va_free (wc := []) hD hS hA [] rfl
        refine va_calli (va_runS (As := [.int p2, .int 0, .int 20]) (rest := []) ⟨hx, hb, hml, hown, hts⟩ (c_X11_within l D cT p2 0 20 _ ) (va_cwS 3 hts gX11_set_X11_within rfl rfl rfl (by decide +kernel) ⟨Nat.le_of_ble_eq_true rfl, Nat.le_of_ble_eq_true rfl⟩) (ps_w hP hD hK hG [] rfl rfl rfl) rfl rfl hl.1 rfl (lv_room (Nat.le_of_ble_eq_true rfl)) dX11_set_63 ⟨Nat.le_of_ble_eq_true rfl, Nat.le_of_ble_eq_true rfl⟩) hS (fun q _ h => hF q h) hF (fun r_7 uu9 tt9 H locs ht hvm wr_7 hB hz1 hk1 hS => ?_)
        obtain ⟨hP, hD⟩ := va_join (wr := [(h0, .inr (11, [.ref x_studio, .ref x_script, .ref x_teller, .ref x_planner, .ref x_plan, .ref x_drifts, .ref x_floor, .ref x_trial, .ref x_tape, .int 0, .int (-1)])), (x_studio, .inr (8, [.ref s_puppets, .int 0, .ref s_shots, .int 0, .ref s_sounds, .ref s_rates, .ref s_dresses])), (s_shots, .inl (cT 5, 12, .inr (.inr (.inr (.inr (fun _ => none)))))), (s_rates, .inl (cT 0, 3, .inl fra)), (s_dresses, .inl (cT 0, 8, .inl fdr))]) (w1 := []) hP hD [] [0, 1, 2, 3, 4] rfl rfl (by decide) (by decide) hk1 hF vp_nil vd_nil
        have hP : va_P D vwCl [(h0, .inr (11, [.ref x_studio, .ref x_script, .ref x_teller, .ref x_planner, .ref x_plan, .ref x_drifts, .ref x_floor, .ref x_trial, .ref x_tape, .int 0, .int (-1)])), (x_studio, .inr (8, [.ref s_puppets, .int 0, .ref s_shots, .int 0, .ref s_sounds, .ref s_rates, .ref s_dresses])), (s_shots, .inl (cT 5, 12, .inr (.inr (.inr (.inr (fun _ => none)))))), (s_rates, .inl (cT 0, 3, .inl fra)), (s_dresses, .inl (cT 0, 8, .inl fdr))] _ := hP
        have hD : va_D A [(h0, .inr (11, [.ref x_studio, .ref x_script, .ref x_teller, .ref x_planner, .ref x_plan, .ref x_drifts, .ref x_floor, .ref x_trial, .ref x_tape, .int 0, .int (-1)])), (x_studio, .inr (8, [.ref s_puppets, .int 0, .ref s_shots, .int 0, .ref s_sounds, .ref s_rates, .ref s_dresses])), (s_shots, .inl (cT 5, 12, .inr (.inr (.inr (.inr (fun _ => none)))))), (s_rates, .inl (cT 0, 3, .inl fra)), (s_dresses, .inl (cT 0, 8, .inl fdr))] := hD
        have g9 := wi_01 p2 0 20
        rw [← wr_7] at g9
        rcases g9 with rfl | rfl
        · refine lv_if_eq (tgt := 73) hx hb dX11_set_66 (by decide) (fun _ => ?_) (fun c9 => absurd c9 (by decide))
          refine lv_iconst (v := 0) hx hb dX11_set_73 (by decide) ?_
          have hF := va_free (wc := []) hD hS hA [] rfl
          refine vx_callv (vx_runS (As := [.int 0]) (rest := []) ⟨hx, hb, hml, hown, hts⟩ (c_X11_need l hst D cT 0 _ ) (va_cwS 1 hts gX11_set_X11_need rfl rfl rfl (by decide +kernel) ⟨Nat.le_of_ble_eq_true rfl, Nat.le_of_ble_eq_true rfl⟩) (ps_z hP hD hK hG hZ hS hF [] rfl rfl rfl) rfl rfl hl.1 rfl (lv_room (Nat.le_of_ble_eq_true rfl)) dX11_set_74 ⟨Nat.le_of_ble_eq_true rfl, Nat.le_of_ble_eq_true rfl⟩) hS (fun q _ h => hF q h) hF (fun q _ h => hF q h) (fun E ce q9 uu9 tt9 H locs ht hvm hw hB hz1 hk1 hS hq9 hv9 hc9 => ?_) (fun uu9 tt9 H locs ht hvm wr_8 hB hz1 hk1 hS => ((wr_8 rfl : False)).elim)
          obtain ⟨rfl, hpx⟩ := hB
          exact vx_out (fun x hx9 => (hex x hx9).elim) hlocks hq9 hv9 hc9 (fun t ht9 hA9 => ⟨(), trivial, ⟨rfl, (by simp [th_set, c_1, c_2, ← wr_5, ← wr_7])⟩, hS.F ht9⟩) hS.2.2 (Nat.le_of_ble_eq_true rfl) (Nat.le_of_ble_eq_true rfl)
        · refine lv_if_eq (tgt := 73) hx hb dX11_set_66 (by decide) (fun c9 => absurd c9 (by decide)) (fun _ => ?_)
          refine lv_iconst (v := 1) hx hb dX11_set_69 (by decide) ?_
          refine lv_goto (tgt := 74) hx hb dX11_set_70 (by decide) ?_
          have hF := va_free (wc := []) hD hS hA [] rfl
          refine vx_callv (vx_runS (As := [.int 1]) (rest := []) ⟨hx, hb, hml, hown, hts⟩ (c_X11_need l hst D cT 1 _ ) (va_cwS 1 hts gX11_set_X11_need rfl rfl rfl (by decide +kernel) ⟨Nat.le_of_ble_eq_true rfl, Nat.le_of_ble_eq_true rfl⟩) (ps_z hP hD hK hG hZ hS hF [] rfl rfl rfl) rfl rfl hl.1 rfl (lv_room (Nat.le_of_ble_eq_true rfl)) dX11_set_74 ⟨Nat.le_of_ble_eq_true rfl, Nat.le_of_ble_eq_true rfl⟩) hS (fun q _ h => hF q h) hF (fun q _ h => hF q h) (fun E ce q9 uu9 tt9 H locs ht hvm hw hB hz1 hk1 hS hq9 hv9 hc9 => ((absurd hB.2 (by decide) : False)).elim) (fun uu9 tt9 H locs ht hvm wr_9 hB hz1 hk1 hS => ?_)
          obtain ⟨hP, hD⟩ := va_join (wr := [(h0, .inr (11, [.ref x_studio, .ref x_script, .ref x_teller, .ref x_planner, .ref x_plan, .ref x_drifts, .ref x_floor, .ref x_trial, .ref x_tape, .int 0, .int (-1)])), (x_studio, .inr (8, [.ref s_puppets, .int 0, .ref s_shots, .int 0, .ref s_sounds, .ref s_rates, .ref s_dresses])), (s_shots, .inl (cT 5, 12, .inr (.inr (.inr (.inr (fun _ => none)))))), (s_rates, .inl (cT 0, 3, .inl fra)), (s_dresses, .inl (cT 0, 8, .inl fdr))]) (w1 := []) hP hD [] [0, 1, 2, 3, 4] rfl rfl (by decide) (by decide) hk1 hF vp_nil vd_nil
          have hP : va_P D vwCl [(h0, .inr (11, [.ref x_studio, .ref x_script, .ref x_teller, .ref x_planner, .ref x_plan, .ref x_drifts, .ref x_floor, .ref x_trial, .ref x_tape, .int 0, .int (-1)])), (x_studio, .inr (8, [.ref s_puppets, .int 0, .ref s_shots, .int 0, .ref s_sounds, .ref s_rates, .ref s_dresses])), (s_shots, .inl (cT 5, 12, .inr (.inr (.inr (.inr (fun _ => none)))))), (s_rates, .inl (cT 0, 3, .inl fra)), (s_dresses, .inl (cT 0, 8, .inl fdr))] _ := hP
          have hD : va_D A [(h0, .inr (11, [.ref x_studio, .ref x_script, .ref x_teller, .ref x_planner, .ref x_plan, .ref x_drifts, .ref x_floor, .ref x_trial, .ref x_tape, .int 0, .int (-1)])), (x_studio, .inr (8, [.ref s_puppets, .int 0, .ref s_shots, .int 0, .ref s_sounds, .ref s_rates, .ref s_dresses])), (s_shots, .inl (cT 5, 12, .inr (.inr (.inr (.inr (fun _ => none)))))), (s_rates, .inl (cT 0, 3, .inl fra)), (s_dresses, .inl (cT 0, 8, .inl fdr))] := hD
          refine W.widen (k := 1) (n := 6) (Nat.le_of_ble_eq_true rfl) (Nat.le_of_ble_eq_true rfl) ?_
          refine lv_aload_n hx hb dX11_set_77 rfl (lv_at hl 0 rfl) ?_
          refine va_get (D := D) (ci := 11) (v := .ref x_studio) (C := RX11) (T := TX11) (N := 11) hx hb hts (fun _ h => List.mem_cons_of_mem _ (List.mem_append_left _ (List.mem_append_left _ (List.mem_append_left _ (List.mem_append_right _ h))))) hown hK hP 0 rfl rfl 0 (by decide) (hts (.fieldLink RX11 10 "PuppetFilm" "studio" "LPuppetFilm$Studio;") (List.mem_of_getElem? (i := 3) (by decide +kernel))) (fun _ h9 => h9) rfl dX11_set_78 ?_
          refine va_get (D := D) (ci := 8) (v := .ref s_dresses) (C := RX8) (T := TX8) (N := 7) hx hb hts (fun _ h => List.mem_cons_of_mem _ (List.mem_append_left _ (List.mem_append_left _ (List.mem_append_right _ h)))) hown hK hP 1 rfl rfl 6 (by decide) (hts (.fieldLink RX11 268 "PuppetFilm$Studio" "dresses" "[I") (List.mem_of_getElem? (i := 5) (by decide +kernel))) (fun _ h9 => h9) rfl dX11_set_81 ?_
          refine lv_iload_n hx hb dX11_set_84 rfl (lv_at hl 2 rfl) ?_
          refine lv_iload_n hx hb dX11_set_85 rfl (lv_at hl 3 rfl) ?_
          have hF := va_free (wc := [(s_dresses, .inl (cT 0, 8, .inl fdr))]) hD hS hA [4] rfl
          refine va_calli (va_runS (As := [.ref s_dresses, .int p1, .int p2]) (rest := []) ⟨hx, hb, hml, hown, hts⟩ (c_X11_swapIn l D cT s_dresses 8 fdr p1 p2 _ (by decide)) (va_cwS 3 hts gX11_set_X11_swapIn rfl rfl rfl (by decide +kernel) ⟨Nat.le_of_ble_eq_true rfl, Nat.le_of_ble_eq_true rfl⟩) (ps_w hP hD hK hG [4] rfl rfl rfl) rfl rfl hl.1 rfl (lv_room (Nat.le_of_ble_eq_true rfl)) dX11_set_86 ⟨Nat.le_of_ble_eq_true rfl, Nat.le_of_ble_eq_true rfl⟩) hS (fun q _ h => hF q h) hF (fun r_10 uu9 tt9 H locs ht hvm wr_10 hB hz1 hk1 hS => ?_)
          obtain ⟨g9_11, hP1, hD1⟩ := hB
          rw [ht] at hP1
          obtain ⟨hP, hD⟩ := va_join (wr := [(h0, .inr (11, [.ref x_studio, .ref x_script, .ref x_teller, .ref x_planner, .ref x_plan, .ref x_drifts, .ref x_floor, .ref x_trial, .ref x_tape, .int 0, .int (-1)])), (x_studio, .inr (8, [.ref s_puppets, .int 0, .ref s_shots, .int 0, .ref s_sounds, .ref s_rates, .ref s_dresses])), (s_shots, .inl (cT 5, 12, .inr (.inr (.inr (.inr (fun _ => none)))))), (s_rates, .inl (cT 0, 3, .inl fra))]) (w1 := [(s_dresses, .inl (cT 0, 8, .inl g9_11))]) hP hD [4] [0, 1, 2, 3] rfl rfl (by decide) (by decide) hk1 hF hP1 hD1
          have hP : va_P D vwCl [(h0, .inr (11, [.ref x_studio, .ref x_script, .ref x_teller, .ref x_planner, .ref x_plan, .ref x_drifts, .ref x_floor, .ref x_trial, .ref x_tape, .int 0, .int (-1)])), (x_studio, .inr (8, [.ref s_puppets, .int 0, .ref s_shots, .int 0, .ref s_sounds, .ref s_rates, .ref s_dresses])), (s_shots, .inl (cT 5, 12, .inr (.inr (.inr (.inr (fun _ => none)))))), (s_rates, .inl (cT 0, 3, .inl fra)), (s_dresses, .inl (cT 0, 8, .inl g9_11))] _ := hP
          have hD : va_D A [(h0, .inr (11, [.ref x_studio, .ref x_script, .ref x_teller, .ref x_planner, .ref x_plan, .ref x_drifts, .ref x_floor, .ref x_trial, .ref x_tape, .int 0, .int (-1)])), (x_studio, .inr (8, [.ref s_puppets, .int 0, .ref s_shots, .int 0, .ref s_sounds, .ref s_rates, .ref s_dresses])), (s_shots, .inl (cT 5, 12, .inr (.inr (.inr (.inr (fun _ => none)))))), (s_rates, .inl (cT 0, 3, .inl fra)), (s_dresses, .inl (cT 0, 8, .inl g9_11))] := hD
          refine vx_ret ?_
          exact W.iret (v := r_10) hx hb hr (fun t ht hW => ⟨⟨r_10, (), rfl, ⟨by simp [th_set, c_1, c_2, ← wr_5, ← wr_7], by rw [wr_10, ent_in (hi := 7) (by decide) (by decide) wr_5, hdr _ (wi_lt (hi := 7) (by decide) wr_5)]; simp [vl_set, c_1, c_2]⟩, trivial⟩, hS.F ht⟩) hS.2.2 dX11_set_89
  · refine lv_iload_n hx hb dX11_set_4 rfl (lv_at hl 2 rfl) ?_
    refine lv_iconst (v := 0) hx hb dX11_set_5 (by decide) ?_
    refine lv_iconst (v := 2) hx hb dX11_set_6 (by decide) ?_
    have hF := va_free (wc := []) hD hS hA [] rfl
    refine va_calli (va_runS (As := [.int p1, .int 0, .int 2]) (rest := []) ⟨hx, hb, hml, hown, hts⟩ (c_X11_within l D cT p1 0 2 _ ) (va_cwS 3 hts gX11_set_X11_within rfl rfl rfl (by decide +kernel) ⟨Nat.le_of_ble_eq_true rfl, Nat.le_of_ble_eq_true rfl⟩) (ps_w hP hD hK hG [] rfl rfl rfl) rfl rfl hl.1 rfl (lv_room (Nat.le_of_ble_eq_true rfl)) dX11_set_7 ⟨Nat.le_of_ble_eq_true rfl, Nat.le_of_ble_eq_true rfl⟩) hS (fun q _ h => hF q h) hF (fun r_12 uu9 tt9 H locs ht hvm wr_12 hB hz1 hk1 hS => ?_)
    obtain ⟨hP, hD⟩ := va_join (wr := [(h0, .inr (11, [.ref x_studio, .ref x_script, .ref x_teller, .ref x_planner, .ref x_plan, .ref x_drifts, .ref x_floor, .ref x_trial, .ref x_tape, .int 0, .int (-1)])), (x_studio, .inr (8, [.ref s_puppets, .int 0, .ref s_shots, .int 0, .ref s_sounds, .ref s_rates, .ref s_dresses])), (s_shots, .inl (cT 5, 12, .inr (.inr (.inr (.inr (fun _ => none)))))), (s_rates, .inl (cT 0, 3, .inl fra)), (s_dresses, .inl (cT 0, 8, .inl fdr))]) (w1 := []) hP hD [] [0, 1, 2, 3, 4] rfl rfl (by decide) (by decide) hk1 hF vp_nil vd_nil
    have hP : va_P D vwCl [(h0, .inr (11, [.ref x_studio, .ref x_script, .ref x_teller, .ref x_planner, .ref x_plan, .ref x_drifts, .ref x_floor, .ref x_trial, .ref x_tape, .int 0, .int (-1)])), (x_studio, .inr (8, [.ref s_puppets, .int 0, .ref s_shots, .int 0, .ref s_sounds, .ref s_rates, .ref s_dresses])), (s_shots, .inl (cT 5, 12, .inr (.inr (.inr (.inr (fun _ => none)))))), (s_rates, .inl (cT 0, 3, .inl fra)), (s_dresses, .inl (cT 0, 8, .inl fdr))] _ := hP
    have hD : va_D A [(h0, .inr (11, [.ref x_studio, .ref x_script, .ref x_teller, .ref x_planner, .ref x_plan, .ref x_drifts, .ref x_floor, .ref x_trial, .ref x_tape, .int 0, .int (-1)])), (x_studio, .inr (8, [.ref s_puppets, .int 0, .ref s_shots, .int 0, .ref s_sounds, .ref s_rates, .ref s_dresses])), (s_shots, .inl (cT 5, 12, .inr (.inr (.inr (.inr (fun _ => none)))))), (s_rates, .inl (cT 0, 3, .inl fra)), (s_dresses, .inl (cT 0, 8, .inl fdr))] := hD
    have g9 := wi_01 p1 0 2
    rw [← wr_12] at g9
    rcases g9 with rfl | rfl
    · refine lv_if_eq (tgt := 27) hx hb dX11_set_10 (by decide) (fun _ => ?_) (fun c9 => absurd c9 (by decide))
      refine lv_iconst (v := 0) hx hb dX11_set_27 (by decide) ?_
      have hF := va_free (wc := []) hD hS hA [] rfl
      refine vx_callv (vx_runS (As := [.int 0]) (rest := []) ⟨hx, hb, hml, hown, hts⟩ (c_X11_need l hst D cT 0 _ ) (va_cwS 1 hts gX11_set_X11_need rfl rfl rfl (by decide +kernel) ⟨Nat.le_of_ble_eq_true rfl, Nat.le_of_ble_eq_true rfl⟩) (ps_z hP hD hK hG hZ hS hF [] rfl rfl rfl) rfl rfl hl.1 rfl (lv_room (Nat.le_of_ble_eq_true rfl)) dX11_set_28 ⟨Nat.le_of_ble_eq_true rfl, Nat.le_of_ble_eq_true rfl⟩) hS (fun q _ h => hF q h) hF (fun q _ h => hF q h) (fun E ce q9 uu9 tt9 H locs ht hvm hw hB hz1 hk1 hS hq9 hv9 hc9 => ?_) (fun uu9 tt9 H locs ht hvm wr_13 hB hz1 hk1 hS => ((wr_13 rfl : False)).elim)
      obtain ⟨rfl, hpx⟩ := hB
      exact vx_out (fun x hx9 => (hex x hx9).elim) hlocks hq9 hv9 hc9 (fun t ht9 hA9 => ⟨(), trivial, ⟨rfl, (by simp [th_set, c_1, ← wr_12])⟩, hS.F ht9⟩) hS.2.2 (Nat.le_of_ble_eq_true rfl) (Nat.le_of_ble_eq_true rfl)
    · refine lv_if_eq (tgt := 27) hx hb dX11_set_10 (by decide) (fun c9 => absurd c9 (by decide)) (fun _ => ?_)
      refine lv_iload_n hx hb dX11_set_13 rfl (lv_at hl 3 rfl) ?_
      refine lv_iconst (v := 1) hx hb dX11_set_14 (by decide) ?_
      refine lv_bipush (v := 100) hx hb dX11_set_15 (by decide) ?_
      have hF := va_free (wc := []) hD hS hA [] rfl
      refine va_calli (va_runS (As := [.int p2, .int 1, .int 100]) (rest := []) ⟨hx, hb, hml, hown, hts⟩ (c_X11_within l D cT p2 1 100 _ ) (va_cwS 3 hts gX11_set_X11_within rfl rfl rfl (by decide +kernel) ⟨Nat.le_of_ble_eq_true rfl, Nat.le_of_ble_eq_true rfl⟩) (ps_w hP hD hK hG [] rfl rfl rfl) rfl rfl hl.1 rfl (lv_room (Nat.le_of_ble_eq_true rfl)) dX11_set_17 ⟨Nat.le_of_ble_eq_true rfl, Nat.le_of_ble_eq_true rfl⟩) hS (fun q _ h => hF q h) hF (fun r_14 uu9 tt9 H locs ht hvm wr_14 hB hz1 hk1 hS => ?_)
      obtain ⟨hP, hD⟩ := va_join (wr := [(h0, .inr (11, [.ref x_studio, .ref x_script, .ref x_teller, .ref x_planner, .ref x_plan, .ref x_drifts, .ref x_floor, .ref x_trial, .ref x_tape, .int 0, .int (-1)])), (x_studio, .inr (8, [.ref s_puppets, .int 0, .ref s_shots, .int 0, .ref s_sounds, .ref s_rates, .ref s_dresses])), (s_shots, .inl (cT 5, 12, .inr (.inr (.inr (.inr (fun _ => none)))))), (s_rates, .inl (cT 0, 3, .inl fra)), (s_dresses, .inl (cT 0, 8, .inl fdr))]) (w1 := []) hP hD [] [0, 1, 2, 3, 4] rfl rfl (by decide) (by decide) hk1 hF vp_nil vd_nil
      have hP : va_P D vwCl [(h0, .inr (11, [.ref x_studio, .ref x_script, .ref x_teller, .ref x_planner, .ref x_plan, .ref x_drifts, .ref x_floor, .ref x_trial, .ref x_tape, .int 0, .int (-1)])), (x_studio, .inr (8, [.ref s_puppets, .int 0, .ref s_shots, .int 0, .ref s_sounds, .ref s_rates, .ref s_dresses])), (s_shots, .inl (cT 5, 12, .inr (.inr (.inr (.inr (fun _ => none)))))), (s_rates, .inl (cT 0, 3, .inl fra)), (s_dresses, .inl (cT 0, 8, .inl fdr))] _ := hP
      have hD : va_D A [(h0, .inr (11, [.ref x_studio, .ref x_script, .ref x_teller, .ref x_planner, .ref x_plan, .ref x_drifts, .ref x_floor, .ref x_trial, .ref x_tape, .int 0, .int (-1)])), (x_studio, .inr (8, [.ref s_puppets, .int 0, .ref s_shots, .int 0, .ref s_sounds, .ref s_rates, .ref s_dresses])), (s_shots, .inl (cT 5, 12, .inr (.inr (.inr (.inr (fun _ => none)))))), (s_rates, .inl (cT 0, 3, .inl fra)), (s_dresses, .inl (cT 0, 8, .inl fdr))] := hD
      have g9 := wi_01 p2 1 100
      rw [← wr_14] at g9
      rcases g9 with rfl | rfl
      · refine lv_if_eq (tgt := 27) hx hb dX11_set_20 (by decide) (fun _ => ?_) (fun c9 => absurd c9 (by decide))
        refine lv_iconst (v := 0) hx hb dX11_set_27 (by decide) ?_
        have hF := va_free (wc := []) hD hS hA [] rfl
        refine vx_callv (vx_runS (As := [.int 0]) (rest := []) ⟨hx, hb, hml, hown, hts⟩ (c_X11_need l hst D cT 0 _ ) (va_cwS 1 hts gX11_set_X11_need rfl rfl rfl (by decide +kernel) ⟨Nat.le_of_ble_eq_true rfl, Nat.le_of_ble_eq_true rfl⟩) (ps_z hP hD hK hG hZ hS hF [] rfl rfl rfl) rfl rfl hl.1 rfl (lv_room (Nat.le_of_ble_eq_true rfl)) dX11_set_28 ⟨Nat.le_of_ble_eq_true rfl, Nat.le_of_ble_eq_true rfl⟩) hS (fun q _ h => hF q h) hF (fun q _ h => hF q h) (fun E ce q9 uu9 tt9 H locs ht hvm hw hB hz1 hk1 hS hq9 hv9 hc9 => ?_) (fun uu9 tt9 H locs ht hvm wr_15 hB hz1 hk1 hS => ((wr_15 rfl : False)).elim)
        obtain ⟨rfl, hpx⟩ := hB
        exact vx_out (fun x hx9 => (hex x hx9).elim) hlocks hq9 hv9 hc9 (fun t ht9 hA9 => ⟨(), trivial, ⟨rfl, (by simp [th_set, c_1, ← wr_12, ← wr_14])⟩, hS.F ht9⟩) hS.2.2 (Nat.le_of_ble_eq_true rfl) (Nat.le_of_ble_eq_true rfl)
      · refine lv_if_eq (tgt := 27) hx hb dX11_set_20 (by decide) (fun c9 => absurd c9 (by decide)) (fun _ => ?_)
        refine lv_iconst (v := 1) hx hb dX11_set_23 (by decide) ?_
        refine lv_goto (tgt := 28) hx hb dX11_set_24 (by decide) ?_
        have hF := va_free (wc := []) hD hS hA [] rfl
        refine vx_callv (vx_runS (As := [.int 1]) (rest := []) ⟨hx, hb, hml, hown, hts⟩ (c_X11_need l hst D cT 1 _ ) (va_cwS 1 hts gX11_set_X11_need rfl rfl rfl (by decide +kernel) ⟨Nat.le_of_ble_eq_true rfl, Nat.le_of_ble_eq_true rfl⟩) (ps_z hP hD hK hG hZ hS hF [] rfl rfl rfl) rfl rfl hl.1 rfl (lv_room (Nat.le_of_ble_eq_true rfl)) dX11_set_28 ⟨Nat.le_of_ble_eq_true rfl, Nat.le_of_ble_eq_true rfl⟩) hS (fun q _ h => hF q h) hF (fun q _ h => hF q h) (fun E ce q9 uu9 tt9 H locs ht hvm hw hB hz1 hk1 hS hq9 hv9 hc9 => ((absurd hB.2 (by decide) : False)).elim) (fun uu9 tt9 H locs ht hvm wr_16 hB hz1 hk1 hS => ?_)
        obtain ⟨hP, hD⟩ := va_join (wr := [(h0, .inr (11, [.ref x_studio, .ref x_script, .ref x_teller, .ref x_planner, .ref x_plan, .ref x_drifts, .ref x_floor, .ref x_trial, .ref x_tape, .int 0, .int (-1)])), (x_studio, .inr (8, [.ref s_puppets, .int 0, .ref s_shots, .int 0, .ref s_sounds, .ref s_rates, .ref s_dresses])), (s_shots, .inl (cT 5, 12, .inr (.inr (.inr (.inr (fun _ => none)))))), (s_rates, .inl (cT 0, 3, .inl fra)), (s_dresses, .inl (cT 0, 8, .inl fdr))]) (w1 := []) hP hD [] [0, 1, 2, 3, 4] rfl rfl (by decide) (by decide) hk1 hF vp_nil vd_nil
        have hP : va_P D vwCl [(h0, .inr (11, [.ref x_studio, .ref x_script, .ref x_teller, .ref x_planner, .ref x_plan, .ref x_drifts, .ref x_floor, .ref x_trial, .ref x_tape, .int 0, .int (-1)])), (x_studio, .inr (8, [.ref s_puppets, .int 0, .ref s_shots, .int 0, .ref s_sounds, .ref s_rates, .ref s_dresses])), (s_shots, .inl (cT 5, 12, .inr (.inr (.inr (.inr (fun _ => none)))))), (s_rates, .inl (cT 0, 3, .inl fra)), (s_dresses, .inl (cT 0, 8, .inl fdr))] _ := hP
        have hD : va_D A [(h0, .inr (11, [.ref x_studio, .ref x_script, .ref x_teller, .ref x_planner, .ref x_plan, .ref x_drifts, .ref x_floor, .ref x_trial, .ref x_tape, .int 0, .int (-1)])), (x_studio, .inr (8, [.ref s_puppets, .int 0, .ref s_shots, .int 0, .ref s_sounds, .ref s_rates, .ref s_dresses])), (s_shots, .inl (cT 5, 12, .inr (.inr (.inr (.inr (fun _ => none)))))), (s_rates, .inl (cT 0, 3, .inl fra)), (s_dresses, .inl (cT 0, 8, .inl fdr))] := hD
        refine W.widen (k := 1) (n := 6) (Nat.le_of_ble_eq_true rfl) (Nat.le_of_ble_eq_true rfl) ?_
        refine lv_aload_n hx hb dX11_set_31 rfl (lv_at hl 0 rfl) ?_
        refine va_get (D := D) (ci := 11) (v := .ref x_studio) (C := RX11) (T := TX11) (N := 11) hx hb hts (fun _ h => List.mem_cons_of_mem _ (List.mem_append_left _ (List.mem_append_left _ (List.mem_append_left _ (List.mem_append_right _ h))))) hown hK hP 0 rfl rfl 0 (by decide) (hts (.fieldLink RX11 10 "PuppetFilm" "studio" "LPuppetFilm$Studio;") (List.mem_of_getElem? (i := 3) (by decide +kernel))) (fun _ h9 => h9) rfl dX11_set_32 ?_
        refine va_get (D := D) (ci := 8) (v := .ref s_rates) (C := RX8) (T := TX8) (N := 7) hx hb hts (fun _ h => List.mem_cons_of_mem _ (List.mem_append_left _ (List.mem_append_left _ (List.mem_append_right _ h)))) hown hK hP 1 rfl rfl 5 (by decide) (hts (.fieldLink RX11 265 "PuppetFilm$Studio" "rates" "[I") (List.mem_of_getElem? (i := 4) (by decide +kernel))) (fun _ h9 => h9) rfl dX11_set_35 ?_
        refine lv_iload_n hx hb dX11_set_38 rfl (lv_at hl 2 rfl) ?_
        refine lv_iload_n hx hb dX11_set_39 rfl (lv_at hl 3 rfl) ?_
        have hF := va_free (wc := [(s_rates, .inl (cT 0, 3, .inl fra))]) hD hS hA [3] rfl
        refine va_calli (va_runS (As := [.ref s_rates, .int p1, .int p2]) (rest := []) ⟨hx, hb, hml, hown, hts⟩ (c_X11_swapIn l D cT s_rates 3 fra p1 p2 _ (by decide)) (va_cwS 3 hts gX11_set_X11_swapIn rfl rfl rfl (by decide +kernel) ⟨Nat.le_of_ble_eq_true rfl, Nat.le_of_ble_eq_true rfl⟩) (ps_w hP hD hK hG [3] rfl rfl rfl) rfl rfl hl.1 rfl (lv_room (Nat.le_of_ble_eq_true rfl)) dX11_set_40 ⟨Nat.le_of_ble_eq_true rfl, Nat.le_of_ble_eq_true rfl⟩) hS (fun q _ h => hF q h) hF (fun r_17 uu9 tt9 H locs ht hvm wr_17 hB hz1 hk1 hS => ?_)
        obtain ⟨g9_18, hP1, hD1⟩ := hB
        rw [ht] at hP1
        obtain ⟨hP, hD⟩ := va_join (wr := [(h0, .inr (11, [.ref x_studio, .ref x_script, .ref x_teller, .ref x_planner, .ref x_plan, .ref x_drifts, .ref x_floor, .ref x_trial, .ref x_tape, .int 0, .int (-1)])), (x_studio, .inr (8, [.ref s_puppets, .int 0, .ref s_shots, .int 0, .ref s_sounds, .ref s_rates, .ref s_dresses])), (s_shots, .inl (cT 5, 12, .inr (.inr (.inr (.inr (fun _ => none)))))), (s_dresses, .inl (cT 0, 8, .inl fdr))]) (w1 := [(s_rates, .inl (cT 0, 3, .inl g9_18))]) hP hD [3] [0, 1, 2, 4] rfl rfl (by decide) (by decide) hk1 hF hP1 hD1
        have hP : va_P D vwCl [(h0, .inr (11, [.ref x_studio, .ref x_script, .ref x_teller, .ref x_planner, .ref x_plan, .ref x_drifts, .ref x_floor, .ref x_trial, .ref x_tape, .int 0, .int (-1)])), (x_studio, .inr (8, [.ref s_puppets, .int 0, .ref s_shots, .int 0, .ref s_sounds, .ref s_rates, .ref s_dresses])), (s_shots, .inl (cT 5, 12, .inr (.inr (.inr (.inr (fun _ => none)))))), (s_dresses, .inl (cT 0, 8, .inl fdr)), (s_rates, .inl (cT 0, 3, .inl g9_18))] _ := hP
        have hD : va_D A [(h0, .inr (11, [.ref x_studio, .ref x_script, .ref x_teller, .ref x_planner, .ref x_plan, .ref x_drifts, .ref x_floor, .ref x_trial, .ref x_tape, .int 0, .int (-1)])), (x_studio, .inr (8, [.ref s_puppets, .int 0, .ref s_shots, .int 0, .ref s_sounds, .ref s_rates, .ref s_dresses])), (s_shots, .inl (cT 5, 12, .inr (.inr (.inr (.inr (fun _ => none)))))), (s_dresses, .inl (cT 0, 8, .inl fdr)), (s_rates, .inl (cT 0, 3, .inl g9_18))] := hD
        refine vx_ret ?_
        exact W.iret (v := r_17) hx hb hr (fun t ht hW => ⟨⟨r_17, (), rfl, ⟨by simp [th_set, c_1, ← wr_12, ← wr_14], by rw [wr_17, ent_in (hi := 2) (by decide) (by decide) wr_12, hra _ (wi_lt (hi := 2) (by decide) wr_12)]; simp [vl_set, c_1]⟩, trivial⟩, hS.F ht⟩) hS.2.2 dX11_set_43
theorem dX11_best_0 : decode cX11_best 0 = .ok (.iload_n 1, 1) := by decide +kernel
theorem dX11_best_1 : decode cX11_best 1 = .ok (.ifCond .le 20, 3) := by decide +kernel
theorem dX11_best_10 : decode cX11_best 10 = .ok (.getfield 132, 3) := by decide +kernel
theorem dX11_best_13 : decode cX11_best 13 = .ok (.ishl, 1) := by decide +kernel
theorem dX11_best_14 : decode cX11_best 14 = .ok (.if_icmp .ge 7, 3) := by decide +kernel
theorem dX11_best_21 : decode cX11_best 21 = .ok (.iconst 0, 1) := by decide +kernel
theorem dX11_best_22 : decode cX11_best 22 = .ok (.invokestatic 93, 3) := by decide +kernel
theorem dX11_best_4 : decode cX11_best 4 = .ok (.iload_n 1, 1) := by decide +kernel
theorem dX11_best_5 : decode cX11_best 5 = .ok (.iconst 1, 1) := by decide +kernel
theorem dX11_best_6 : decode cX11_best 6 = .ok (.aload_n 0, 1) := by decide +kernel
theorem dX11_best_7 : decode cX11_best 7 = .ok (.getfield 10, 3) := by decide +kernel
set_option maxRecDepth 20000 in
theorem ggX11_best_X11_need : GoodIn wsX11_best wsX11_need := goodIn_ca (goodIn_r _ [9, 10, 11] (by decide +kernel) (by decide +kernel)) (goodIn_sub (fun _ h => List.mem_cons_of_mem _ (List.mem_append_right _ h)) (by decide +kernel))
set_option maxRecDepth 20000 in
theorem gX11_best_X11_need : GoodIn wsX11_best (va_wsS RX11 93 yX11_need wsX11_need) := goodIn_app (goodIn_of _ (by decide +kernel)) ggX11_best_X11_need
set_option maxHeartbeats 4000000 in
set_option maxRecDepth 100000 in
theorem c_X11_best (l : Launch) (hst : l.stackTraces = false) (D : va_G) (cT : Nat → ClassId) (h0 : Nat) (p0 : Int32) (p1 : Int32) (p2 : Int32) (x_studio : Nat) (x_script : Nat) (x_teller : Nat) (x_planner : Nat) (x_plan : Nat) (x_drifts : Nat) (x_floor : Nat) (x_trial : Nat) (x_tape : Nat) (s_puppets : Nat) (s_shots : Nat) (s_sounds : Nat) (s_rates : Nat) (s_dresses : Nat) (sz : Nat)  : vx_Met l yX11_best wsX11_best ({ frames := 9, cells := 1, slots := 6, locals := 220 }) (va_Pc [.ref h0, .int p0, .int p1, .int p2] (PZ D cT [(h0, .inr (11, [.ref x_studio, .ref x_script, .ref x_teller, .ref x_planner, .ref x_plan, .ref x_drifts, .ref x_floor, .ref x_trial, .ref x_tape, .int 0, .int (-1)])), (x_studio, .inr (8, [.ref s_puppets, .int 0, .ref s_shots, .int 0, .ref s_sounds, .ref s_rates, .ref s_dresses]))] sz)) (va_Qi (fun (r : Int32) (_ : Unit) => False) (fun (_ : Unit) (_ : State) => True) (va_A [(h0, .inr (11, [.ref x_studio, .ref x_script, .ref x_teller, .ref x_planner, .ref x_plan, .ref x_drifts, .ref x_floor, .ref x_trial, .ref x_tape, .int 0, .int (-1)])), (x_studio, .inr (8, [.ref s_puppets, .int 0, .ref s_shots, .int 0, .ref s_sounds, .ref s_rates, .ref s_dresses]))] sz)) (vx_X (fun _ : Unit => True) (fun (E : String) (_ : Unit) (_ : State) => (E = "java/lang/IllegalArgumentException" ∧ True)) (va_A [(h0, .inr (11, [.ref x_studio, .ref x_script, .ref x_teller, .ref x_planner, .ref x_plan, .ref x_drifts, .ref x_floor, .ref x_trial, .ref x_tape, .int 0, .int (-1)])), (x_studio, .inr (8, [.ref s_puppets, .int 0, .ref s_shots, .int 0, .ref s_sounds, .ref s_rates, .ref s_dresses]))] sz)) 1 6 (va_A [(h0, .inr (11, [.ref x_studio, .ref x_script, .ref x_teller, .ref x_planner, .ref x_plan, .ref x_drifts, .ref x_floor, .ref x_trial, .ref x_tape, .int 0, .int (-1)])), (x_studio, .inr (8, [.ref s_puppets, .int 0, .ref s_shots, .int 0, .ref s_sounds, .ref s_rates, .ref s_dresses]))] sz) := by
  refine vx_ofW (cc := cX11_best) (maxL := 4) (ret := (some .int)) (by decide) rfl ?_
  intro p e s m args below meth c s₁ B hml hex hv
  obtain ⟨rfl, ⟨hsz, hP, hK, hD0, hG⟩, hZ⟩ := hv
  have hx := B.exec
  have hb := B.bytes
  have hr := B.returns
  have hts := atoms_spec (ws := wsX11_best) B.pre
  have hown : s.vm.findClass RX11 = some m.cls := findClass_of_methodNamed B.named
  have hlocks := B.notSynchronized
  subst hsz
  have hD := hD0.self (sz := s.heap.size)
  generalize hAe : va_A [(h0, .inr (11, [.ref x_studio, .ref x_script, .ref x_teller, .ref x_planner, .ref x_plan, .ref x_drifts, .ref x_floor, .ref x_trial, .ref x_tape, .int 0, .int (-1)])), (x_studio, .inr (8, [.ref s_puppets, .int 0, .ref s_shots, .int 0, .ref s_sounds, .ref s_rates, .ref s_dresses]))] s.heap.size = A at hD hZ ⊢
  have hA : ∀ q : Nat, s.heap.size ≤ q → A q := fun q h => by rw [← hAe]; exact Or.inr h
  have hS : va_S A s.heap s.heap [] := va_S.rf
  have hP : va_P D vwCl [(h0, .inr (11, [.ref x_studio, .ref x_script, .ref x_teller, .ref x_planner, .ref x_plan, .ref x_drifts, .ref x_floor, .ref x_trial, .ref x_tape, .int 0, .int (-1)])), (x_studio, .inr (8, [.ref s_puppets, .int 0, .ref s_shots, .int 0, .ref s_sounds, .ref s_rates, .ref s_dresses]))] s.heap := hP
  have hl := lv_entry ([.ref h0, .int p0, .int p1, .int p2]) (n := 4) (Nat.le_of_ble_eq_true rfl)
  rw [lg_entry_eq]
  generalize (lg_sl ([.ref h0, .int p0, .int p1, .int p2]) ++ List.replicate (4 - (lg_sl ([.ref h0, .int p0, .int p1, .int p2])).length) Slot.unset).toArray = ls at hl ⊢
  have hl : lv_has ls 4 [(0, .ref h0), (1, .int p0), (2, .int p1), (3, .int p2)] := hl
  refine lv_iload_n hx hb dX11_best_0 rfl (lv_at hl 1 rfl) ?_
  refine lv_if_le (tgt := 21) hx hb dX11_best_1 (by decide) (fun c_1 => ?_) (fun c_1 => ?_)
  · refine lv_iconst (v := 0) hx hb dX11_best_21 (by decide) ?_
    have hF := va_free (wc := []) hD hS hA [] rfl
    refine vx_callv (vx_runS (As := [.int 0]) (rest := []) ⟨hx, hb, hml, hown, hts⟩ (c_X11_need l hst D cT 0 _ ) (va_cwS 1 hts gX11_best_X11_need rfl rfl rfl (by decide +kernel) ⟨Nat.le_of_ble_eq_true rfl, Nat.le_of_ble_eq_true rfl⟩) (ps_z hP hD hK hG hZ hS hF [] rfl rfl rfl) rfl rfl hl.1 rfl (lv_room (Nat.le_of_ble_eq_true rfl)) dX11_best_22 ⟨Nat.le_of_ble_eq_true rfl, Nat.le_of_ble_eq_true rfl⟩) hS (fun q _ h => hF q h) hF (fun q _ h => hF q h) (fun E ce q9 uu9 tt9 H locs ht hvm hw hB hz1 hk1 hS hq9 hv9 hc9 => ?_) (fun uu9 tt9 H locs ht hvm wr_2 hB hz1 hk1 hS => ((wr_2 rfl : False)).elim)
    obtain ⟨rfl, hpx⟩ := hB
    exact vx_out (fun x hx9 => (hex x hx9).elim) hlocks hq9 hv9 hc9 (fun t ht9 hA9 => ⟨(), trivial, ⟨rfl, trivial⟩, hS.F ht9⟩) hS.2.2 (Nat.le_of_ble_eq_true rfl) (Nat.le_of_ble_eq_true rfl)
  · refine lv_iload_n hx hb dX11_best_4 rfl (lv_at hl 1 rfl) ?_
    refine lv_iconst (v := 1) hx hb dX11_best_5 (by decide) ?_
    refine lv_aload_n hx hb dX11_best_6 rfl (lv_at hl 0 rfl) ?_
    refine va_get (D := D) (ci := 11) (v := .ref x_studio) (C := RX11) (T := TX11) (N := 11) hx hb hts (fun _ h => List.mem_cons_of_mem _ (List.mem_append_left _ (List.mem_append_left _ (List.mem_append_left _ (List.mem_append_left _ (List.mem_append_left _ (List.mem_append_right _ h))))))) hown hK hP 0 rfl rfl 0 (by decide) (hts (.fieldLink RX11 10 "PuppetFilm" "studio" "LPuppetFilm$Studio;") (List.mem_of_getElem? (i := 1) (by decide +kernel))) (fun _ h9 => h9) rfl dX11_best_7 ?_
    refine va_get (D := D) (ci := 8) (v := .int 0) (C := RX8) (T := TX8) (N := 7) hx hb hts (fun _ h => List.mem_cons_of_mem _ (List.mem_append_left _ (List.mem_append_left _ (List.mem_append_left _ (List.mem_append_left _ (List.mem_append_right _ h)))))) hown hK hP 1 rfl rfl 3 (by decide) (hts (.fieldLink RX11 132 "PuppetFilm$Studio" "shotCount" "I") (List.mem_of_getElem? (i := 2) (by decide +kernel))) (fun _ h9 => h9) rfl dX11_best_10 ?_
    refine lv_ishl hx hb dX11_best_13 ?_
    refine lv_topi (fun z_3 ez_3 => ?_)
    obtain rfl : z_3 = 1 := ez_3.trans (by decide)
    refine lv_icmp_ge (tgt := 21) hx hb dX11_best_14 (by decide) (fun c_4 => ?_) (fun c_4 => ((absurd (pos1 c_1) c_4 : False)).elim)
    refine lv_iconst (v := 0) hx hb dX11_best_21 (by decide) ?_
    have hF := va_free (wc := []) hD hS hA [] rfl
    refine vx_callv (vx_runS (As := [.int 0]) (rest := []) ⟨hx, hb, hml, hown, hts⟩ (c_X11_need l hst D cT 0 _ ) (va_cwS 1 hts gX11_best_X11_need rfl rfl rfl (by decide +kernel) ⟨Nat.le_of_ble_eq_true rfl, Nat.le_of_ble_eq_true rfl⟩) (ps_z hP hD hK hG hZ hS hF [] rfl rfl rfl) rfl rfl hl.1 rfl (lv_room (Nat.le_of_ble_eq_true rfl)) dX11_best_22 ⟨Nat.le_of_ble_eq_true rfl, Nat.le_of_ble_eq_true rfl⟩) hS (fun q _ h => hF q h) hF (fun q _ h => hF q h) (fun E ce q9 uu9 tt9 H locs ht hvm hw hB hz1 hk1 hS hq9 hv9 hc9 => ?_) (fun uu9 tt9 H locs ht hvm wr_5 hB hz1 hk1 hS => ((wr_5 rfl : False)).elim)
    obtain ⟨rfl, hpx⟩ := hB
    exact vx_out (fun x hx9 => (hex x hx9).elim) hlocks hq9 hv9 hc9 (fun t ht9 hA9 => ⟨(), trivial, ⟨rfl, trivial⟩, hS.F ht9⟩) hS.2.2 (Nat.le_of_ble_eq_true rfl) (Nat.le_of_ble_eq_true rfl)
theorem dX11_worked_0 : decode cX11_worked 0 = .ok (.iload_n 1, 1) := by decide +kernel
theorem dX11_worked_1 : decode cX11_worked 1 = .ok (.iconst 0, 1) := by decide +kernel
theorem dX11_worked_10 : decode cX11_worked 10 = .ok (.isub, 1) := by decide +kernel
theorem dX11_worked_11 : decode cX11_worked 11 = .ok (.invokestatic 97, 3) := by decide +kernel
theorem dX11_worked_14 : decode cX11_worked 14 = .ok (.invokestatic 93, 3) := by decide +kernel
theorem dX11_worked_2 : decode cX11_worked 2 = .ok (.aload_n 0, 1) := by decide +kernel
theorem dX11_worked_3 : decode cX11_worked 3 = .ok (.getfield 60, 3) := by decide +kernel
theorem dX11_worked_6 : decode cX11_worked 6 = .ok (.getfield 364, 3) := by decide +kernel
theorem dX11_worked_9 : decode cX11_worked 9 = .ok (.iconst 1, 1) := by decide +kernel
set_option maxRecDepth 20000 in
theorem ggX11_worked_X11_need : GoodIn wsX11_worked wsX11_need := goodIn_ca (goodIn_r _ [9, 10, 11] (by decide +kernel) (by decide +kernel)) (goodIn_sub (fun _ h => List.mem_cons_of_mem _ (List.mem_append_right _ h)) (by decide +kernel))
set_option maxRecDepth 20000 in
theorem gX11_worked_X11_need : GoodIn wsX11_worked (va_wsS RX11 93 yX11_need wsX11_need) := goodIn_app (goodIn_of _ (by decide +kernel)) ggX11_worked_X11_need
set_option maxRecDepth 20000 in
theorem ggX11_worked_X11_within : GoodIn wsX11_worked wsX11_within := goodIn_r _ [6] (by decide +kernel) (by decide +kernel)
set_option maxRecDepth 20000 in
theorem gX11_worked_X11_within : GoodIn wsX11_worked (va_wsS RX11 97 yX11_within wsX11_within) := goodIn_app (goodIn_of _ (by decide +kernel)) ggX11_worked_X11_within
set_option maxHeartbeats 4000000 in
set_option maxRecDepth 100000 in
theorem c_X11_worked (l : Launch) (hst : l.stackTraces = false) (D : va_G) (cT : Nat → ClassId) (h0 : Nat) (p0 : Int32) (x_studio : Nat) (x_script : Nat) (x_teller : Nat) (x_planner : Nat) (x_plan : Nat) (x_drifts : Nat) (x_floor : Nat) (x_trial : Nat) (x_tape : Nat) (f_studio : Nat) (f_taken : Nat) (f_on : Nat) (f_queues : Nat) (f_queued : Nat) (f_engaged : Nat) (f_dressing : Nat) (f_dressed : Nat) (f_standing : Nat) (f_stations : Nat) (f_limits : Nat) (f_worked : Nat) (sz : Nat)  : vx_Met l yX11_worked wsX11_worked ({ frames := 9, cells := 1, slots := 6, locals := 220 }) (va_Pc [.ref h0, .int p0] (PZ D cT [(h0, .inr (11, [.ref x_studio, .ref x_script, .ref x_teller, .ref x_planner, .ref x_plan, .ref x_drifts, .ref x_floor, .ref x_trial, .ref x_tape, .int 0, .int (-1)])), (x_floor, .inr (1, [.ref f_studio, .int 1, .int 0, .ref f_taken, .ref f_on, .ref f_queues, .ref f_queued, .ref f_engaged, .ref f_dressing, .ref f_dressed, .ref f_standing, .ref f_stations, .int 0, .ref f_limits, .ref f_worked, .int 0, .int 0, .int 0]))] sz)) (va_Qi (fun (r : Int32) (_ : Unit) => False) (fun (_ : Unit) (_ : State) => True) (va_A [(h0, .inr (11, [.ref x_studio, .ref x_script, .ref x_teller, .ref x_planner, .ref x_plan, .ref x_drifts, .ref x_floor, .ref x_trial, .ref x_tape, .int 0, .int (-1)])), (x_floor, .inr (1, [.ref f_studio, .int 1, .int 0, .ref f_taken, .ref f_on, .ref f_queues, .ref f_queued, .ref f_engaged, .ref f_dressing, .ref f_dressed, .ref f_standing, .ref f_stations, .int 0, .ref f_limits, .ref f_worked, .int 0, .int 0, .int 0]))] sz)) (vx_X (fun _ : Unit => True) (fun (E : String) (_ : Unit) (_ : State) => (E = "java/lang/IllegalArgumentException" ∧ True)) (va_A [(h0, .inr (11, [.ref x_studio, .ref x_script, .ref x_teller, .ref x_planner, .ref x_plan, .ref x_drifts, .ref x_floor, .ref x_trial, .ref x_tape, .int 0, .int (-1)])), (x_floor, .inr (1, [.ref f_studio, .int 1, .int 0, .ref f_taken, .ref f_on, .ref f_queues, .ref f_queued, .ref f_engaged, .ref f_dressing, .ref f_dressed, .ref f_standing, .ref f_stations, .int 0, .ref f_limits, .ref f_worked, .int 0, .int 0, .int 0]))] sz)) 1 6 (va_A [(h0, .inr (11, [.ref x_studio, .ref x_script, .ref x_teller, .ref x_planner, .ref x_plan, .ref x_drifts, .ref x_floor, .ref x_trial, .ref x_tape, .int 0, .int (-1)])), (x_floor, .inr (1, [.ref f_studio, .int 1, .int 0, .ref f_taken, .ref f_on, .ref f_queues, .ref f_queued, .ref f_engaged, .ref f_dressing, .ref f_dressed, .ref f_standing, .ref f_stations, .int 0, .ref f_limits, .ref f_worked, .int 0, .int 0, .int 0]))] sz) := by
  refine vx_ofW (cc := cX11_worked) (maxL := 2) (ret := (some .int)) (by decide) rfl ?_
  intro p e s m args below meth c s₁ B hml hex hv
  obtain ⟨rfl, ⟨hsz, hP, hK, hD0, hG⟩, hZ⟩ := hv
  have hx := B.exec
  have hb := B.bytes
  have hr := B.returns
  have hts := atoms_spec (ws := wsX11_worked) B.pre
  have hown : s.vm.findClass RX11 = some m.cls := findClass_of_methodNamed B.named
  have hlocks := B.notSynchronized
  subst hsz
  have hD := hD0.self (sz := s.heap.size)
  generalize hAe : va_A [(h0, .inr (11, [.ref x_studio, .ref x_script, .ref x_teller, .ref x_planner, .ref x_plan, .ref x_drifts, .ref x_floor, .ref x_trial, .ref x_tape, .int 0, .int (-1)])), (x_floor, .inr (1, [.ref f_studio, .int 1, .int 0, .ref f_taken, .ref f_on, .ref f_queues, .ref f_queued, .ref f_engaged, .ref f_dressing, .ref f_dressed, .ref f_standing, .ref f_stations, .int 0, .ref f_limits, .ref f_worked, .int 0, .int 0, .int 0]))] s.heap.size = A at hD hZ ⊢
  have hA : ∀ q : Nat, s.heap.size ≤ q → A q := fun q h => by rw [← hAe]; exact Or.inr h
  have hS : va_S A s.heap s.heap [] := va_S.rf
  have hP : va_P D vwCl [(h0, .inr (11, [.ref x_studio, .ref x_script, .ref x_teller, .ref x_planner, .ref x_plan, .ref x_drifts, .ref x_floor, .ref x_trial, .ref x_tape, .int 0, .int (-1)])), (x_floor, .inr (1, [.ref f_studio, .int 1, .int 0, .ref f_taken, .ref f_on, .ref f_queues, .ref f_queued, .ref f_engaged, .ref f_dressing, .ref f_dressed, .ref f_standing, .ref f_stations, .int 0, .ref f_limits, .ref f_worked, .int 0, .int 0, .int 0]))] s.heap := hP
  have hl := lv_entry ([.ref h0, .int p0]) (n := 2) (Nat.le_of_ble_eq_true rfl)
  rw [lg_entry_eq]
  generalize (lg_sl ([.ref h0, .int p0]) ++ List.replicate (2 - (lg_sl ([.ref h0, .int p0])).length) Slot.unset).toArray = ls at hl ⊢
  have hl : lv_has ls 2 [(0, .ref h0), (1, .int p0)] := hl
  refine lv_iload_n hx hb dX11_worked_0 rfl (lv_at hl 1 rfl) ?_
  refine lv_iconst (v := 0) hx hb dX11_worked_1 (by decide) ?_
  refine lv_aload_n hx hb dX11_worked_2 rfl (lv_at hl 0 rfl) ?_
  refine va_get (D := D) (ci := 11) (v := .ref x_floor) (C := RX11) (T := TX11) (N := 11) hx hb hts (fun _ h => List.mem_cons_of_mem _ (List.mem_append_left _ (List.mem_append_left _ (List.mem_append_right _ h)))) hown hK hP 0 rfl rfl 6 (by decide) (hts (.fieldLink RX11 60 "PuppetFilm" "floor" "LPuppetFilm$Floor;") (List.mem_of_getElem? (i := 1) (by decide +kernel))) (fun _ h9 => h9) rfl dX11_worked_3 ?_
  refine va_get (D := D) (ci := 1) (v := .int 0) (C := RX1) (T := TX1) (N := 18) hx hb hts (fun _ h => List.mem_cons_of_mem _ (List.mem_append_left _ (List.mem_append_right _ h))) hown hK hP 1 rfl rfl 12 (by decide) (hts (.fieldLink RX11 364 "PuppetFilm$Floor" "animators" "I") (List.mem_of_getElem? (i := 2) (by decide +kernel))) (fun _ h9 => h9) rfl dX11_worked_6 ?_
  refine lv_iconst (v := 1) hx hb dX11_worked_9 (by decide) ?_
  refine lv_isub hx hb dX11_worked_10 ?_
  refine lv_topi (fun z_1 ez_1 => ?_)
  obtain rfl : z_1 = (-1) := ez_1.trans (by decide)
  have hF := va_free (wc := []) hD hS hA [] rfl
  refine va_calli (va_runS (As := [.int p0, .int 0, .int (-1)]) (rest := []) ⟨hx, hb, hml, hown, hts⟩ (c_X11_within l D cT p0 0 (-1) _ ) (va_cwS 3 hts gX11_worked_X11_within rfl rfl rfl (by decide +kernel) ⟨Nat.le_of_ble_eq_true rfl, Nat.le_of_ble_eq_true rfl⟩) (ps_w hP hD hK hG [] rfl rfl rfl) rfl rfl hl.1 rfl (lv_room (Nat.le_of_ble_eq_true rfl)) dX11_worked_11 ⟨Nat.le_of_ble_eq_true rfl, Nat.le_of_ble_eq_true rfl⟩) hS (fun q _ h => hF q h) hF (fun r_2 uu9 tt9 H locs ht hvm wr_2 hB hz1 hk1 hS => ?_)
  obtain ⟨hP, hD⟩ := va_join (wr := [(h0, .inr (11, [.ref x_studio, .ref x_script, .ref x_teller, .ref x_planner, .ref x_plan, .ref x_drifts, .ref x_floor, .ref x_trial, .ref x_tape, .int 0, .int (-1)])), (x_floor, .inr (1, [.ref f_studio, .int 1, .int 0, .ref f_taken, .ref f_on, .ref f_queues, .ref f_queued, .ref f_engaged, .ref f_dressing, .ref f_dressed, .ref f_standing, .ref f_stations, .int 0, .ref f_limits, .ref f_worked, .int 0, .int 0, .int 0]))]) (w1 := []) hP hD [] [0, 1] rfl rfl (by decide) (by decide) hk1 hF vp_nil vd_nil
  have hP : va_P D vwCl [(h0, .inr (11, [.ref x_studio, .ref x_script, .ref x_teller, .ref x_planner, .ref x_plan, .ref x_drifts, .ref x_floor, .ref x_trial, .ref x_tape, .int 0, .int (-1)])), (x_floor, .inr (1, [.ref f_studio, .int 1, .int 0, .ref f_taken, .ref f_on, .ref f_queues, .ref f_queued, .ref f_engaged, .ref f_dressing, .ref f_dressed, .ref f_standing, .ref f_stations, .int 0, .ref f_limits, .ref f_worked, .int 0, .int 0, .int 0]))] _ := hP
  have hD : va_D A [(h0, .inr (11, [.ref x_studio, .ref x_script, .ref x_teller, .ref x_planner, .ref x_plan, .ref x_drifts, .ref x_floor, .ref x_trial, .ref x_tape, .int 0, .int (-1)])), (x_floor, .inr (1, [.ref f_studio, .int 1, .int 0, .ref f_taken, .ref f_on, .ref f_queues, .ref f_queued, .ref f_engaged, .ref f_dressing, .ref f_dressed, .ref f_standing, .ref f_stations, .int 0, .ref f_limits, .ref f_worked, .int 0, .int 0, .int 0]))] := hD
  obtain rfl : r_2 = 0 := wr_2.trans (wi_no (by decide))
  have hF := va_free (wc := []) hD hS hA [] rfl
  refine vx_callv (vx_runS (As := [.int 0]) (rest := []) ⟨hx, hb, hml, hown, hts⟩ (c_X11_need l hst D cT 0 _ ) (va_cwS 1 hts gX11_worked_X11_need rfl rfl rfl (by decide +kernel) ⟨Nat.le_of_ble_eq_true rfl, Nat.le_of_ble_eq_true rfl⟩) (ps_z hP hD hK hG hZ hS hF [] rfl rfl rfl) rfl rfl hl.1 rfl (lv_room (Nat.le_of_ble_eq_true rfl)) dX11_worked_14 ⟨Nat.le_of_ble_eq_true rfl, Nat.le_of_ble_eq_true rfl⟩) hS (fun q _ h => hF q h) hF (fun q _ h => hF q h) (fun E ce q9 uu9 tt9 H locs ht hvm hw hB hz1 hk1 hS hq9 hv9 hc9 => ?_) (fun uu9 tt9 H locs ht hvm wr_3 hB hz1 hk1 hS => ((wr_3 rfl : False)).elim)
  obtain ⟨rfl, hpx⟩ := hB
  exact vx_out (fun x hx9 => (hex x hx9).elim) hlocks hq9 hv9 hc9 (fun t ht9 hA9 => ⟨(), trivial, ⟨rfl, trivial⟩, hS.F ht9⟩) hS.2.2 (Nat.le_of_ble_eq_true rfl) (Nat.le_of_ble_eq_true rfl)
theorem dX11_wait_0 : decode cX11_wait 0 = .ok (.iload_n 1, 1) := by decide +kernel
theorem dX11_wait_1 : decode cX11_wait 1 = .ok (.iconst 0, 1) := by decide +kernel
theorem dX11_wait_11 : decode cX11_wait 11 = .ok (.aload_n 0, 1) := by decide +kernel
theorem dX11_wait_12 : decode cX11_wait 12 = .ok (.getfield 60, 3) := by decide +kernel
theorem dX11_wait_15 : decode cX11_wait 15 = .ok (.dup, 1) := by decide +kernel
theorem dX11_wait_16 : decode cX11_wait 16 = .ok (.getfield 321, 3) := by decide +kernel
theorem dX11_wait_19 : decode cX11_wait 19 = .ok (.iload_n 1, 1) := by decide +kernel
theorem dX11_wait_2 : decode cX11_wait 2 = .ok (.sipush 1000, 3) := by decide +kernel
theorem dX11_wait_20 : decode cX11_wait 20 = .ok (.iadd, 1) := by decide +kernel
theorem dX11_wait_21 : decode cX11_wait 21 = .ok (.putfield 321, 3) := by decide +kernel
theorem dX11_wait_24 : decode cX11_wait 24 = .ok (.aload_n 0, 1) := by decide +kernel
theorem dX11_wait_25 : decode cX11_wait 25 = .ok (.getfield 60, 3) := by decide +kernel
theorem dX11_wait_28 : decode cX11_wait 28 = .ok (.getfield 321, 3) := by decide +kernel
theorem dX11_wait_31 : decode cX11_wait 31 = .ok (.ireturn, 1) := by decide +kernel
theorem dX11_wait_5 : decode cX11_wait 5 = .ok (.invokestatic 97, 3) := by decide +kernel
theorem dX11_wait_8 : decode cX11_wait 8 = .ok (.invokestatic 93, 3) := by decide +kernel
set_option maxRecDepth 20000 in
theorem ggX11_wait_X11_need : GoodIn wsX11_wait wsX11_need := goodIn_ca (goodIn_r _ [9, 10, 11] (by decide +kernel) (by decide +kernel)) (goodIn_sub (fun _ h => List.mem_cons_of_mem _ (List.mem_append_right _ h)) (by decide +kernel))
set_option maxRecDepth 20000 in
theorem gX11_wait_X11_need : GoodIn wsX11_wait (va_wsS RX11 93 yX11_need wsX11_need) := goodIn_app (goodIn_of _ (by decide +kernel)) ggX11_wait_X11_need
set_option maxRecDepth 20000 in
theorem ggX11_wait_X11_within : GoodIn wsX11_wait wsX11_within := goodIn_r _ [6] (by decide +kernel) (by decide +kernel)
set_option maxRecDepth 20000 in
theorem gX11_wait_X11_within : GoodIn wsX11_wait (va_wsS RX11 97 yX11_within wsX11_within) := goodIn_app (goodIn_of _ (by decide +kernel)) ggX11_wait_X11_within
set_option maxHeartbeats 4000000 in
set_option maxRecDepth 100000 in
theorem c_X11_wait (l : Launch) (hst : l.stackTraces = false) (D : va_G) (cT : Nat → ClassId) (h0 : Nat) (p0 : Int32) (x_studio : Nat) (x_script : Nat) (x_teller : Nat) (x_planner : Nat) (x_plan : Nat) (x_drifts : Nat) (x_floor : Nat) (x_trial : Nat) (x_tape : Nat) (f_studio : Nat) (f_taken : Nat) (f_on : Nat) (f_queues : Nat) (f_queued : Nat) (f_engaged : Nat) (f_dressing : Nat) (f_dressed : Nat) (f_standing : Nat) (f_stations : Nat) (f_limits : Nat) (f_worked : Nat) (sz : Nat)  : vx_Met l yX11_wait wsX11_wait ({ frames := 9, cells := 1, slots := 6, locals := 220 }) (va_Pc [.ref h0, .int p0] (PZ D cT [(h0, .inr (11, [.ref x_studio, .ref x_script, .ref x_teller, .ref x_planner, .ref x_plan, .ref x_drifts, .ref x_floor, .ref x_trial, .ref x_tape, .int 0, .int (-1)])), (x_floor, .inr (1, [.ref f_studio, .int 1, .int 0, .ref f_taken, .ref f_on, .ref f_queues, .ref f_queued, .ref f_engaged, .ref f_dressing, .ref f_dressed, .ref f_standing, .ref f_stations, .int 0, .ref f_limits, .ref f_worked, .int 0, .int 0, .int 0]))] sz)) (va_Qi (fun (r : Int32) (_ : Unit) => th_wait p0 = 0 ∧ r = p0) (fun (_ : Unit) (_ : State) => True) (va_A [(h0, .inr (11, [.ref x_studio, .ref x_script, .ref x_teller, .ref x_planner, .ref x_plan, .ref x_drifts, .ref x_floor, .ref x_trial, .ref x_tape, .int 0, .int (-1)])), (x_floor, .inr (1, [.ref f_studio, .int 1, .int 0, .ref f_taken, .ref f_on, .ref f_queues, .ref f_queued, .ref f_engaged, .ref f_dressing, .ref f_dressed, .ref f_standing, .ref f_stations, .int 0, .ref f_limits, .ref f_worked, .int 0, .int 0, .int 0]))] sz)) (vx_X (fun _ : Unit => True) (fun (E : String) (_ : Unit) (_ : State) => (E = "java/lang/IllegalArgumentException" ∧ th_wait p0 = 1)) (va_A [(h0, .inr (11, [.ref x_studio, .ref x_script, .ref x_teller, .ref x_planner, .ref x_plan, .ref x_drifts, .ref x_floor, .ref x_trial, .ref x_tape, .int 0, .int (-1)])), (x_floor, .inr (1, [.ref f_studio, .int 1, .int 0, .ref f_taken, .ref f_on, .ref f_queues, .ref f_queued, .ref f_engaged, .ref f_dressing, .ref f_dressed, .ref f_standing, .ref f_stations, .int 0, .ref f_limits, .ref f_worked, .int 0, .int 0, .int 0]))] sz)) 1 6 (va_A [(h0, .inr (11, [.ref x_studio, .ref x_script, .ref x_teller, .ref x_planner, .ref x_plan, .ref x_drifts, .ref x_floor, .ref x_trial, .ref x_tape, .int 0, .int (-1)])), (x_floor, .inr (1, [.ref f_studio, .int 1, .int 0, .ref f_taken, .ref f_on, .ref f_queues, .ref f_queued, .ref f_engaged, .ref f_dressing, .ref f_dressed, .ref f_standing, .ref f_stations, .int 0, .ref f_limits, .ref f_worked, .int 0, .int 0, .int 0]))] sz) := by
  refine vx_ofW (cc := cX11_wait) (maxL := 2) (ret := (some .int)) (by decide) rfl ?_
  intro p e s m args below meth c s₁ B hml hex hv
  obtain ⟨rfl, ⟨hsz, hP, hK, hD0, hG⟩, hZ⟩ := hv
  have hx := B.exec
  have hb := B.bytes
  have hr := B.returns
  have hts := atoms_spec (ws := wsX11_wait) B.pre
  have hown : s.vm.findClass RX11 = some m.cls := findClass_of_methodNamed B.named
  have hlocks := B.notSynchronized
  subst hsz
  have hD := hD0.self (sz := s.heap.size)
  generalize hAe : va_A [(h0, .inr (11, [.ref x_studio, .ref x_script, .ref x_teller, .ref x_planner, .ref x_plan, .ref x_drifts, .ref x_floor, .ref x_trial, .ref x_tape, .int 0, .int (-1)])), (x_floor, .inr (1, [.ref f_studio, .int 1, .int 0, .ref f_taken, .ref f_on, .ref f_queues, .ref f_queued, .ref f_engaged, .ref f_dressing, .ref f_dressed, .ref f_standing, .ref f_stations, .int 0, .ref f_limits, .ref f_worked, .int 0, .int 0, .int 0]))] s.heap.size = A at hD hZ ⊢
  have hA : ∀ q : Nat, s.heap.size ≤ q → A q := fun q h => by rw [← hAe]; exact Or.inr h
  have hS : va_S A s.heap s.heap [] := va_S.rf
  have hP : va_P D vwCl [(h0, .inr (11, [.ref x_studio, .ref x_script, .ref x_teller, .ref x_planner, .ref x_plan, .ref x_drifts, .ref x_floor, .ref x_trial, .ref x_tape, .int 0, .int (-1)])), (x_floor, .inr (1, [.ref f_studio, .int 1, .int 0, .ref f_taken, .ref f_on, .ref f_queues, .ref f_queued, .ref f_engaged, .ref f_dressing, .ref f_dressed, .ref f_standing, .ref f_stations, .int 0, .ref f_limits, .ref f_worked, .int 0, .int 0, .int 0]))] s.heap := hP
  have hl := lv_entry ([.ref h0, .int p0]) (n := 2) (Nat.le_of_ble_eq_true rfl)
  rw [lg_entry_eq]
  generalize (lg_sl ([.ref h0, .int p0]) ++ List.replicate (2 - (lg_sl ([.ref h0, .int p0])).length) Slot.unset).toArray = ls at hl ⊢
  have hl : lv_has ls 2 [(0, .ref h0), (1, .int p0)] := hl
  refine lv_iload_n hx hb dX11_wait_0 rfl (lv_at hl 1 rfl) ?_
  refine lv_iconst (v := 0) hx hb dX11_wait_1 (by decide) ?_
  refine lv_sipush (v := 1000) hx hb dX11_wait_2 (by decide) ?_
  have hF := va_free (wc := []) hD hS hA [] rfl
  refine va_calli (va_runS (As := [.int p0, .int 0, .int 1000]) (rest := []) ⟨hx, hb, hml, hown, hts⟩ (c_X11_within l D cT p0 0 1000 _ ) (va_cwS 3 hts gX11_wait_X11_within rfl rfl rfl (by decide +kernel) ⟨Nat.le_of_ble_eq_true rfl, Nat.le_of_ble_eq_true rfl⟩) (ps_w hP hD hK hG [] rfl rfl rfl) rfl rfl hl.1 rfl (lv_room (Nat.le_of_ble_eq_true rfl)) dX11_wait_5 ⟨Nat.le_of_ble_eq_true rfl, Nat.le_of_ble_eq_true rfl⟩) hS (fun q _ h => hF q h) hF (fun r_1 uu9 tt9 H locs ht hvm wr_1 hB hz1 hk1 hS => ?_)
  obtain ⟨hP, hD⟩ := va_join (wr := [(h0, .inr (11, [.ref x_studio, .ref x_script, .ref x_teller, .ref x_planner, .ref x_plan, .ref x_drifts, .ref x_floor, .ref x_trial, .ref x_tape, .int 0, .int (-1)])), (x_floor, .inr (1, [.ref f_studio, .int 1, .int 0, .ref f_taken, .ref f_on, .ref f_queues, .ref f_queued, .ref f_engaged, .ref f_dressing, .ref f_dressed, .ref f_standing, .ref f_stations, .int 0, .ref f_limits, .ref f_worked, .int 0, .int 0, .int 0]))]) (w1 := []) hP hD [] [0, 1] rfl rfl (by decide) (by decide) hk1 hF vp_nil vd_nil
  have hP : va_P D vwCl [(h0, .inr (11, [.ref x_studio, .ref x_script, .ref x_teller, .ref x_planner, .ref x_plan, .ref x_drifts, .ref x_floor, .ref x_trial, .ref x_tape, .int 0, .int (-1)])), (x_floor, .inr (1, [.ref f_studio, .int 1, .int 0, .ref f_taken, .ref f_on, .ref f_queues, .ref f_queued, .ref f_engaged, .ref f_dressing, .ref f_dressed, .ref f_standing, .ref f_stations, .int 0, .ref f_limits, .ref f_worked, .int 0, .int 0, .int 0]))] _ := hP
  have hD : va_D A [(h0, .inr (11, [.ref x_studio, .ref x_script, .ref x_teller, .ref x_planner, .ref x_plan, .ref x_drifts, .ref x_floor, .ref x_trial, .ref x_tape, .int 0, .int (-1)])), (x_floor, .inr (1, [.ref f_studio, .int 1, .int 0, .ref f_taken, .ref f_on, .ref f_queues, .ref f_queued, .ref f_engaged, .ref f_dressing, .ref f_dressed, .ref f_standing, .ref f_stations, .int 0, .ref f_limits, .ref f_worked, .int 0, .int 0, .int 0]))] := hD
  have g9 := wi_01 p0 0 1000
  rw [← wr_1] at g9
  rcases g9 with rfl | rfl
  · have hF := va_free (wc := []) hD hS hA [] rfl
    refine vx_callv (vx_runS (As := [.int 0]) (rest := []) ⟨hx, hb, hml, hown, hts⟩ (c_X11_need l hst D cT 0 _ ) (va_cwS 1 hts gX11_wait_X11_need rfl rfl rfl (by decide +kernel) ⟨Nat.le_of_ble_eq_true rfl, Nat.le_of_ble_eq_true rfl⟩) (ps_z hP hD hK hG hZ hS hF [] rfl rfl rfl) rfl rfl hl.1 rfl (lv_room (Nat.le_of_ble_eq_true rfl)) dX11_wait_8 ⟨Nat.le_of_ble_eq_true rfl, Nat.le_of_ble_eq_true rfl⟩) hS (fun q _ h => hF q h) hF (fun q _ h => hF q h) (fun E ce q9 uu9 tt9 H locs ht hvm hw hB hz1 hk1 hS hq9 hv9 hc9 => ?_) (fun uu9 tt9 H locs ht hvm wr_2 hB hz1 hk1 hS => ((wr_2 rfl : False)).elim)
    obtain ⟨rfl, hpx⟩ := hB
    exact vx_out (fun x hx9 => (hex x hx9).elim) hlocks hq9 hv9 hc9 (fun t ht9 hA9 => ⟨(), trivial, ⟨rfl, (by simp [th_wait, ← wr_1])⟩, hS.F ht9⟩) hS.2.2 (Nat.le_of_ble_eq_true rfl) (Nat.le_of_ble_eq_true rfl)
  · have hF := va_free (wc := []) hD hS hA [] rfl
    refine vx_callv (vx_runS (As := [.int 1]) (rest := []) ⟨hx, hb, hml, hown, hts⟩ (c_X11_need l hst D cT 1 _ ) (va_cwS 1 hts gX11_wait_X11_need rfl rfl rfl (by decide +kernel) ⟨Nat.le_of_ble_eq_true rfl, Nat.le_of_ble_eq_true rfl⟩) (ps_z hP hD hK hG hZ hS hF [] rfl rfl rfl) rfl rfl hl.1 rfl (lv_room (Nat.le_of_ble_eq_true rfl)) dX11_wait_8 ⟨Nat.le_of_ble_eq_true rfl, Nat.le_of_ble_eq_true rfl⟩) hS (fun q _ h => hF q h) hF (fun q _ h => hF q h) (fun E ce q9 uu9 tt9 H locs ht hvm hw hB hz1 hk1 hS hq9 hv9 hc9 => ((absurd hB.2 (by decide) : False)).elim) (fun uu9 tt9 H locs ht hvm wr_3 hB hz1 hk1 hS => ?_)
    obtain ⟨hP, hD⟩ := va_join (wr := [(h0, .inr (11, [.ref x_studio, .ref x_script, .ref x_teller, .ref x_planner, .ref x_plan, .ref x_drifts, .ref x_floor, .ref x_trial, .ref x_tape, .int 0, .int (-1)])), (x_floor, .inr (1, [.ref f_studio, .int 1, .int 0, .ref f_taken, .ref f_on, .ref f_queues, .ref f_queued, .ref f_engaged, .ref f_dressing, .ref f_dressed, .ref f_standing, .ref f_stations, .int 0, .ref f_limits, .ref f_worked, .int 0, .int 0, .int 0]))]) (w1 := []) hP hD [] [0, 1] rfl rfl (by decide) (by decide) hk1 hF vp_nil vd_nil
    have hP : va_P D vwCl [(h0, .inr (11, [.ref x_studio, .ref x_script, .ref x_teller, .ref x_planner, .ref x_plan, .ref x_drifts, .ref x_floor, .ref x_trial, .ref x_tape, .int 0, .int (-1)])), (x_floor, .inr (1, [.ref f_studio, .int 1, .int 0, .ref f_taken, .ref f_on, .ref f_queues, .ref f_queued, .ref f_engaged, .ref f_dressing, .ref f_dressed, .ref f_standing, .ref f_stations, .int 0, .ref f_limits, .ref f_worked, .int 0, .int 0, .int 0]))] _ := hP
    have hD : va_D A [(h0, .inr (11, [.ref x_studio, .ref x_script, .ref x_teller, .ref x_planner, .ref x_plan, .ref x_drifts, .ref x_floor, .ref x_trial, .ref x_tape, .int 0, .int (-1)])), (x_floor, .inr (1, [.ref f_studio, .int 1, .int 0, .ref f_taken, .ref f_on, .ref f_queues, .ref f_queued, .ref f_engaged, .ref f_dressing, .ref f_dressed, .ref f_standing, .ref f_stations, .int 0, .ref f_limits, .ref f_worked, .int 0, .int 0, .int 0]))] := hD
    refine W.widen (k := 1) (n := 6) (Nat.le_of_ble_eq_true rfl) (Nat.le_of_ble_eq_true rfl) ?_
    refine lv_aload_n hx hb dX11_wait_11 rfl (lv_at hl 0 rfl) ?_
    refine va_get (D := D) (ci := 11) (v := .ref x_floor) (C := RX11) (T := TX11) (N := 11) hx hb hts (fun _ h => List.mem_cons_of_mem _ (List.mem_append_left _ (List.mem_append_left _ (List.mem_append_right _ h)))) hown hK hP 0 rfl rfl 6 (by decide) (hts (.fieldLink RX11 60 "PuppetFilm" "floor" "LPuppetFilm$Floor;") (List.mem_of_getElem? (i := 1) (by decide +kernel))) (fun _ h9 => h9) rfl dX11_wait_12 ?_
    refine lv_dup hx hb dX11_wait_15 rfl ?_
    refine va_get (D := D) (ci := 1) (v := .int 0) (C := RX1) (T := TX1) (N := 18) hx hb hts (fun _ h => List.mem_cons_of_mem _ (List.mem_append_left _ (List.mem_append_right _ h))) hown hK hP 1 rfl rfl 2 (by decide) (hts (.fieldLink RX11 321 "PuppetFilm$Floor" "half" "I") (List.mem_of_getElem? (i := 2) (by decide +kernel))) (fun _ h9 => h9) rfl dX11_wait_16 ?_
    refine lv_iload_n hx hb dX11_wait_19 rfl (lv_at hl 1 rfl) ?_
    refine lv_iadd hx hb dX11_wait_20 ?_
    refine lv_topi (fun x_4 ex_4 => ?_)
    refine va_put (D := D) (ci := 1) (v := .int x_4) (ty := .int) (C := RX1) (T := TX1) (N := 18) hx hb hts (fun _ h => List.mem_cons_of_mem _ (List.mem_append_left _ (List.mem_append_right _ h))) tyX1 tyX1_ok nmX1 hown hK hP hD hS 1 rfl rfl 2 (by decide) (hts (.fieldLink RX11 321 "PuppetFilm$Floor" "half" "I") (List.mem_of_getElem? (i := 2) (by decide +kernel))) (fun _ h9 => h9) rfl (by decide +kernel) rfl rfl (Nat.le_of_ble_eq_true rfl) dX11_wait_21 (fun H locs hP hD hS => ?_)
    have hP : va_P D vwCl [(h0, .inr (11, [.ref x_studio, .ref x_script, .ref x_teller, .ref x_planner, .ref x_plan, .ref x_drifts, .ref x_floor, .ref x_trial, .ref x_tape, .int 0, .int (-1)])), (x_floor, .inr (1, [.ref f_studio, .int 1, .int x_4, .ref f_taken, .ref f_on, .ref f_queues, .ref f_queued, .ref f_engaged, .ref f_dressing, .ref f_dressed, .ref f_standing, .ref f_stations, .int 0, .ref f_limits, .ref f_worked, .int 0, .int 0, .int 0]))] _ := hP
    have hD : va_D A [(h0, .inr (11, [.ref x_studio, .ref x_script, .ref x_teller, .ref x_planner, .ref x_plan, .ref x_drifts, .ref x_floor, .ref x_trial, .ref x_tape, .int 0, .int (-1)])), (x_floor, .inr (1, [.ref f_studio, .int 1, .int x_4, .ref f_taken, .ref f_on, .ref f_queues, .ref f_queued, .ref f_engaged, .ref f_dressing, .ref f_dressed, .ref f_standing, .ref f_stations, .int 0, .ref f_limits, .ref f_worked, .int 0, .int 0, .int 0]))] := hD
    refine lv_aload_n hx hb dX11_wait_24 rfl (lv_at hl 0 rfl) ?_
    refine va_get (D := D) (ci := 11) (v := .ref x_floor) (C := RX11) (T := TX11) (N := 11) hx hb hts (fun _ h => List.mem_cons_of_mem _ (List.mem_append_left _ (List.mem_append_left _ (List.mem_append_right _ h)))) hown hK hP 0 rfl rfl 6 (by decide) (hts (.fieldLink RX11 60 "PuppetFilm" "floor" "LPuppetFilm$Floor;") (List.mem_of_getElem? (i := 1) (by decide +kernel))) (fun _ h9 => h9) rfl dX11_wait_25 ?_
    refine va_get (D := D) (ci := 1) (v := .int x_4) (C := RX1) (T := TX1) (N := 18) hx hb hts (fun _ h => List.mem_cons_of_mem _ (List.mem_append_left _ (List.mem_append_right _ h))) hown hK hP 1 rfl rfl 2 (by decide) (hts (.fieldLink RX11 321 "PuppetFilm$Floor" "half" "I") (List.mem_of_getElem? (i := 2) (by decide +kernel))) (fun _ h9 => h9) rfl dX11_wait_28 ?_
    refine vx_ret ?_
    exact W.iret (v := x_4) hx hb hr (fun t ht hW => ⟨⟨x_4, (), rfl, ⟨by simp [th_wait, ← wr_1], ex_4.trans (Int32.zero_add _)⟩, trivial⟩, hS.F ht⟩) hS.2.2 dX11_wait_31
theorem dX1_addAnimator_0 : decode cX1_addAnimator 0 = .ok (.aload_n 0, 1) := by decide +kernel
theorem dX1_addAnimator_1 : decode cX1_addAnimator 1 = .ok (.getfield 69, 3) := by decide +kernel
theorem dX1_addAnimator_13 : decode cX1_addAnimator 13 = .ok (.aload_n 0, 1) := by decide +kernel
theorem dX1_addAnimator_14 : decode cX1_addAnimator 14 = .ok (.getfield 39, 3) := by decide +kernel
theorem dX1_addAnimator_17 : decode cX1_addAnimator 17 = .ok (.iload_n 2, 1) := by decide +kernel
theorem dX1_addAnimator_18 : decode cX1_addAnimator 18 = .ok (.iload_n 1, 1) := by decide +kernel
theorem dX1_addAnimator_19 : decode cX1_addAnimator 19 = .ok (.iastore, 1) := by decide +kernel
theorem dX1_addAnimator_20 : decode cX1_addAnimator 20 = .ok (.aload_n 0, 1) := by decide +kernel
theorem dX1_addAnimator_21 : decode cX1_addAnimator 21 = .ok (.dup, 1) := by decide +kernel
theorem dX1_addAnimator_22 : decode cX1_addAnimator 22 = .ok (.getfield 69, 3) := by decide +kernel
theorem dX1_addAnimator_25 : decode cX1_addAnimator 25 = .ok (.iconst 1, 1) := by decide +kernel
theorem dX1_addAnimator_26 : decode cX1_addAnimator 26 = .ok (.iadd, 1) := by decide +kernel
theorem dX1_addAnimator_27 : decode cX1_addAnimator 27 = .ok (.putfield 69, 3) := by decide +kernel
theorem dX1_addAnimator_30 : decode cX1_addAnimator 30 = .ok (.iload_n 2, 1) := by decide +kernel
theorem dX1_addAnimator_31 : decode cX1_addAnimator 31 = .ok (.ireturn, 1) := by decide +kernel
theorem dX1_addAnimator_4 : decode cX1_addAnimator 4 = .ok (.istore_n 2, 1) := by decide +kernel
theorem dX1_addAnimator_5 : decode cX1_addAnimator 5 = .ok (.iload_n 2, 1) := by decide +kernel
theorem dX1_addAnimator_6 : decode cX1_addAnimator 6 = .ok (.bipush 6, 2) := by decide +kernel
theorem dX1_addAnimator_8 : decode cX1_addAnimator 8 = .ok (.if_icmp .lt 5, 3) := by decide +kernel
set_option maxHeartbeats 4000000 in
set_option maxRecDepth 100000 in
theorem c_X1_addAnimator (l : Launch) (D : va_G) (cT : Nat → ClassId) (h0 : Nat) (p0 : Int32) (f_studio : Nat) (f_taken : Nat) (f_on : Nat) (f_queues : Nat) (f_queued : Nat) (f_engaged : Nat) (f_dressing : Nat) (f_dressed : Nat) (f_standing : Nat) (f_stations : Nat) (f_limits : Nat) (f_worked : Nat) (sz : Nat)  : Met l yX1_addAnimator wsX1_addAnimator ({ frames := 8, cells := 0, slots := 0, locals := 160 }) (va_Pc [.ref h0, .int p0] (PW D cT [(h0, .inr (1, [.ref f_studio, .int 1, .int 0, .ref f_taken, .ref f_on, .ref f_queues, .ref f_queued, .ref f_engaged, .ref f_dressing, .ref f_dressed, .ref f_standing, .ref f_stations, .int 0, .ref f_limits, .ref f_worked, .int 0, .int 0, .int 0])), (f_limits, .inl (cT 0, 6, .inl (fun _ => 0)))] sz)) (va_Qi (fun (r : Int32) (_ : Unit) => r = 0) (fun (_ : Unit) (_ : State) => True) (va_A [(h0, .inr (1, [.ref f_studio, .int 1, .int 0, .ref f_taken, .ref f_on, .ref f_queues, .ref f_queued, .ref f_engaged, .ref f_dressing, .ref f_dressed, .ref f_standing, .ref f_stations, .int 0, .ref f_limits, .ref f_worked, .int 0, .int 0, .int 0])), (f_limits, .inl (cT 0, 6, .inl (fun _ => 0)))] sz)) 0 0 (va_A [(h0, .inr (1, [.ref f_studio, .int 1, .int 0, .ref f_taken, .ref f_on, .ref f_queues, .ref f_queued, .ref f_engaged, .ref f_dressing, .ref f_dressed, .ref f_standing, .ref f_stations, .int 0, .ref f_limits, .ref f_worked, .int 0, .int 0, .int 0])), (f_limits, .inl (cT 0, 6, .inl (fun _ => 0)))] sz) := by
  refine Met.ofW (cc := cX1_addAnimator) (maxL := 3) (ret := (some .int)) (by decide) rfl ?_
  intro p e s m args below meth c s₁ B hml hv
  obtain ⟨rfl, hsz, hP, hK, hD0, hG⟩ := hv
  have hx := B.exec
  have hb := B.bytes
  have hr := B.returns
  have hts := atoms_spec (ws := wsX1_addAnimator) B.pre
  have hown : s.vm.findClass RX1 = some m.cls := findClass_of_methodNamed B.named
  have hlocks := B.notSynchronized
  subst hsz
  have hD := hD0.self (sz := s.heap.size)
  generalize hAe : va_A [(h0, .inr (1, [.ref f_studio, .int 1, .int 0, .ref f_taken, .ref f_on, .ref f_queues, .ref f_queued, .ref f_engaged, .ref f_dressing, .ref f_dressed, .ref f_standing, .ref f_stations, .int 0, .ref f_limits, .ref f_worked, .int 0, .int 0, .int 0])), (f_limits, .inl (cT 0, 6, .inl (fun _ => 0)))] s.heap.size = A at hD ⊢
  have hA : ∀ q : Nat, s.heap.size ≤ q → A q := fun q h => by rw [← hAe]; exact Or.inr h
  have hS : va_S A s.heap s.heap [] := va_S.rf
  have hP : va_P D vwCl [(h0, .inr (1, [.ref f_studio, .int 1, .int 0, .ref f_taken, .ref f_on, .ref f_queues, .ref f_queued, .ref f_engaged, .ref f_dressing, .ref f_dressed, .ref f_standing, .ref f_stations, .int 0, .ref f_limits, .ref f_worked, .int 0, .int 0, .int 0])), (f_limits, .inl (cT 0, 6, .inl (fun _ => 0)))] s.heap := hP
  have hl := lv_entry ([.ref h0, .int p0]) (n := 3) (Nat.le_of_ble_eq_true rfl)
  rw [lg_entry_eq]
  generalize (lg_sl ([.ref h0, .int p0]) ++ List.replicate (3 - (lg_sl ([.ref h0, .int p0])).length) Slot.unset).toArray = ls at hl ⊢
  have hl : lv_has ls 3 [(0, .ref h0), (1, .int p0)] := hl
  refine lv_aload_n hx hb dX1_addAnimator_0 rfl (lv_at hl 0 rfl) ?_
  refine va_get (D := D) (ci := 1) (v := .int 0) (C := RX1) (T := TX1) (N := 18) hx hb hts (fun _ h => List.mem_cons_of_mem _ (List.mem_append_right _ h)) hown hK hP 0 rfl rfl 12 (by decide) (hts (.fieldLink RX1 69 "PuppetFilm$Floor" "animators" "I") (List.mem_of_getElem? (i := 1) (by decide +kernel))) (fun _ h9 => h9) rfl dX1_addAnimator_1 ?_
  refine lv_istore_n (lv' := [(2, .int 0), (0, .ref h0), (1, .int p0)]) hx hb dX1_addAnimator_4 rfl hl (by decide) rfl (fun ls hl => ?_)
  refine lv_iload_n hx hb dX1_addAnimator_5 rfl (lv_at hl 0 rfl) ?_
  refine lv_bipush (v := 6) hx hb dX1_addAnimator_6 (by decide) ?_
  refine lv_icmp_lt (tgt := 13) hx hb dX1_addAnimator_8 (by decide) (fun _ => ?_) (fun c9 => absurd c9 (by decide))
  refine lv_aload_n hx hb dX1_addAnimator_13 rfl (lv_at hl 1 rfl) ?_
  refine va_get (D := D) (ci := 1) (v := .ref f_limits) (C := RX1) (T := TX1) (N := 18) hx hb hts (fun _ h => List.mem_cons_of_mem _ (List.mem_append_right _ h)) hown hK hP 0 rfl rfl 13 (by decide) (hts (.fieldLink RX1 39 "PuppetFilm$Floor" "limits" "[I") (List.mem_of_getElem? (i := 2) (by decide +kernel))) (fun _ h9 => h9) rfl dX1_addAnimator_14 ?_
  refine lv_iload_n hx hb dX1_addAnimator_17 rfl (lv_at hl 0 rfl) ?_
  refine lv_iload_n hx hb dX1_addAnimator_18 rfl (lv_at hl 2 rfl) ?_
  refine va_iast hx hb hK hP hD hS 1 0 rfl rfl (by unfold vp_in; decide) dX1_addAnimator_19 (fun H locs hP hD hS => ?_)
  have hP : va_P D vwCl [(h0, .inr (1, [.ref f_studio, .int 1, .int 0, .ref f_taken, .ref f_on, .ref f_queues, .ref f_queued, .ref f_engaged, .ref f_dressing, .ref f_dressed, .ref f_standing, .ref f_stations, .int 0, .ref f_limits, .ref f_worked, .int 0, .int 0, .int 0])), (f_limits, .inl (cT 0, 6, .inl (upd (fun _ => 0) 0 p0)))] _ := hP
  have hD : va_D A [(h0, .inr (1, [.ref f_studio, .int 1, .int 0, .ref f_taken, .ref f_on, .ref f_queues, .ref f_queued, .ref f_engaged, .ref f_dressing, .ref f_dressed, .ref f_standing, .ref f_stations, .int 0, .ref f_limits, .ref f_worked, .int 0, .int 0, .int 0])), (f_limits, .inl (cT 0, 6, .inl (upd (fun _ => 0) 0 p0)))] := hD
  refine lv_aload_n hx hb dX1_addAnimator_20 rfl (lv_at hl 1 rfl) ?_
  refine lv_dup hx hb dX1_addAnimator_21 rfl ?_
  refine va_get (D := D) (ci := 1) (v := .int 0) (C := RX1) (T := TX1) (N := 18) hx hb hts (fun _ h => List.mem_cons_of_mem _ (List.mem_append_right _ h)) hown hK hP 0 rfl rfl 12 (by decide) (hts (.fieldLink RX1 69 "PuppetFilm$Floor" "animators" "I") (List.mem_of_getElem? (i := 1) (by decide +kernel))) (fun _ h9 => h9) rfl dX1_addAnimator_22 ?_
  refine lv_iconst (v := 1) hx hb dX1_addAnimator_25 (by decide) ?_
  refine lv_iadd hx hb dX1_addAnimator_26 ?_
  refine lv_topi (fun z_1 ez_1 => ?_)
  obtain rfl : z_1 = 1 := ez_1.trans (by decide)
  refine va_put (D := D) (ci := 1) (v := .int 1) (ty := .int) (C := RX1) (T := TX1) (N := 18) hx hb hts (fun _ h => List.mem_cons_of_mem _ (List.mem_append_right _ h)) tyX1 tyX1_ok nmX1 hown hK hP hD hS 0 rfl rfl 12 (by decide) (hts (.fieldLink RX1 69 "PuppetFilm$Floor" "animators" "I") (List.mem_of_getElem? (i := 1) (by decide +kernel))) (fun _ h9 => h9) rfl (by decide +kernel) rfl rfl (Nat.le_of_ble_eq_true rfl) dX1_addAnimator_27 (fun H locs hP hD hS => ?_)
  have hP : va_P D vwCl [(h0, .inr (1, [.ref f_studio, .int 1, .int 0, .ref f_taken, .ref f_on, .ref f_queues, .ref f_queued, .ref f_engaged, .ref f_dressing, .ref f_dressed, .ref f_standing, .ref f_stations, .int 1, .ref f_limits, .ref f_worked, .int 0, .int 0, .int 0])), (f_limits, .inl (cT 0, 6, .inl (upd (fun _ => 0) 0 p0)))] _ := hP
  have hD : va_D A [(h0, .inr (1, [.ref f_studio, .int 1, .int 0, .ref f_taken, .ref f_on, .ref f_queues, .ref f_queued, .ref f_engaged, .ref f_dressing, .ref f_dressed, .ref f_standing, .ref f_stations, .int 1, .ref f_limits, .ref f_worked, .int 0, .int 0, .int 0])), (f_limits, .inl (cT 0, 6, .inl (upd (fun _ => 0) 0 p0)))] := hD
  refine lv_iload_n hx hb dX1_addAnimator_30 rfl (lv_at hl 0 rfl) ?_
  exact W.iret (v := 0) hx hb hr (fun t ht hW => ⟨⟨0, (), rfl, rfl, trivial⟩, hS.F ht⟩) hS.2.2 dX1_addAnimator_31
theorem dX11_animator_0 : decode cX11_animator 0 = .ok (.iload_n 1, 1) := by decide +kernel
theorem dX11_animator_1 : decode cX11_animator 1 = .ok (.iconst 0, 1) := by decide +kernel
theorem dX11_animator_10 : decode cX11_animator 10 = .ok (.aload_n 0, 1) := by decide +kernel
theorem dX11_animator_11 : decode cX11_animator 11 = .ok (.getfield 60, 3) := by decide +kernel
theorem dX11_animator_14 : decode cX11_animator 14 = .ok (.iload_n 1, 1) := by decide +kernel
theorem dX11_animator_15 : decode cX11_animator 15 = .ok (.invokevirtual 358, 3) := by decide +kernel
theorem dX11_animator_18 : decode cX11_animator 18 = .ok (.ireturn, 1) := by decide +kernel
theorem dX11_animator_2 : decode cX11_animator 2 = .ok (.bipush 14, 2) := by decide +kernel
theorem dX11_animator_4 : decode cX11_animator 4 = .ok (.invokestatic 97, 3) := by decide +kernel
theorem dX11_animator_7 : decode cX11_animator 7 = .ok (.invokestatic 93, 3) := by decide +kernel
set_option maxRecDepth 20000 in
theorem ggX11_animator_X11_need : GoodIn wsX11_animator wsX11_need := goodIn_ca (goodIn_r _ [8, 9, 10] (by decide +kernel) (by decide +kernel)) (goodIn_sub (fun _ h => List.mem_cons_of_mem _ (List.mem_append_right _ h)) (by decide +kernel))
set_option maxRecDepth 20000 in
theorem gX11_animator_X11_need : GoodIn wsX11_animator (va_wsS RX11 93 yX11_need wsX11_need) := goodIn_app (goodIn_of _ (by decide +kernel)) ggX11_animator_X11_need
set_option maxRecDepth 20000 in
theorem ggX11_animator_X11_within : GoodIn wsX11_animator wsX11_within := goodIn_r _ [5] (by decide +kernel) (by decide +kernel)
set_option maxRecDepth 20000 in
theorem gX11_animator_X11_within : GoodIn wsX11_animator (va_wsS RX11 97 yX11_within wsX11_within) := goodIn_app (goodIn_of _ (by decide +kernel)) ggX11_animator_X11_within
set_option maxRecDepth 20000 in
theorem ggX11_animator_X1_addAnimator : GoodIn wsX11_animator wsX1_addAnimator := goodIn_r _ [15, 16, 17, 29, 30, 31, 32, 33, 34, 35, 36, 37, 38, 39, 40, 41, 42, 43, 44, 45, 46] (by decide +kernel) (by decide +kernel)
set_option maxRecDepth 20000 in
theorem gX11_animator_X1_addAnimator : GoodIn wsX11_animator (wsV RX11 358 RX1 yX1_addAnimator wsX1_addAnimator) := goodIn_app (goodIn_of _ (by decide +kernel)) ggX11_animator_X1_addAnimator
set_option maxHeartbeats 4000000 in
set_option maxRecDepth 100000 in
theorem c_X11_animator (l : Launch) (hst : l.stackTraces = false) (D : va_G) (cT : Nat → ClassId) (h0 : Nat) (p0 : Int32) (x_studio : Nat) (x_script : Nat) (x_teller : Nat) (x_planner : Nat) (x_plan : Nat) (x_drifts : Nat) (x_floor : Nat) (x_trial : Nat) (x_tape : Nat) (f_studio : Nat) (f_taken : Nat) (f_on : Nat) (f_queues : Nat) (f_queued : Nat) (f_engaged : Nat) (f_dressing : Nat) (f_dressed : Nat) (f_standing : Nat) (f_stations : Nat) (f_limits : Nat) (f_worked : Nat) (sz : Nat)  : vx_Met l yX11_animator wsX11_animator ({ frames := 9, cells := 1, slots := 6, locals := 220 }) (va_Pc [.ref h0, .int p0] (PZ D cT [(h0, .inr (11, [.ref x_studio, .ref x_script, .ref x_teller, .ref x_planner, .ref x_plan, .ref x_drifts, .ref x_floor, .ref x_trial, .ref x_tape, .int 0, .int (-1)])), (x_floor, .inr (1, [.ref f_studio, .int 1, .int 0, .ref f_taken, .ref f_on, .ref f_queues, .ref f_queued, .ref f_engaged, .ref f_dressing, .ref f_dressed, .ref f_standing, .ref f_stations, .int 0, .ref f_limits, .ref f_worked, .int 0, .int 0, .int 0])), (f_limits, .inl (cT 0, 6, .inl (fun _ => 0)))] sz)) (va_Qi (fun (r : Int32) (_ : Unit) => th_anim p0 = 0 ∧ r = 0) (fun (_ : Unit) (_ : State) => True) (va_A [(h0, .inr (11, [.ref x_studio, .ref x_script, .ref x_teller, .ref x_planner, .ref x_plan, .ref x_drifts, .ref x_floor, .ref x_trial, .ref x_tape, .int 0, .int (-1)])), (x_floor, .inr (1, [.ref f_studio, .int 1, .int 0, .ref f_taken, .ref f_on, .ref f_queues, .ref f_queued, .ref f_engaged, .ref f_dressing, .ref f_dressed, .ref f_standing, .ref f_stations, .int 0, .ref f_limits, .ref f_worked, .int 0, .int 0, .int 0])), (f_limits, .inl (cT 0, 6, .inl (fun _ => 0)))] sz)) (vx_X (fun _ : Unit => True) (fun (E : String) (_ : Unit) (_ : State) => (E = "java/lang/IllegalArgumentException" ∧ th_anim p0 = 1)) (va_A [(h0, .inr (11, [.ref x_studio, .ref x_script, .ref x_teller, .ref x_planner, .ref x_plan, .ref x_drifts, .ref x_floor, .ref x_trial, .ref x_tape, .int 0, .int (-1)])), (x_floor, .inr (1, [.ref f_studio, .int 1, .int 0, .ref f_taken, .ref f_on, .ref f_queues, .ref f_queued, .ref f_engaged, .ref f_dressing, .ref f_dressed, .ref f_standing, .ref f_stations, .int 0, .ref f_limits, .ref f_worked, .int 0, .int 0, .int 0])), (f_limits, .inl (cT 0, 6, .inl (fun _ => 0)))] sz)) 1 6 (va_A [(h0, .inr (11, [.ref x_studio, .ref x_script, .ref x_teller, .ref x_planner, .ref x_plan, .ref x_drifts, .ref x_floor, .ref x_trial, .ref x_tape, .int 0, .int (-1)])), (x_floor, .inr (1, [.ref f_studio, .int 1, .int 0, .ref f_taken, .ref f_on, .ref f_queues, .ref f_queued, .ref f_engaged, .ref f_dressing, .ref f_dressed, .ref f_standing, .ref f_stations, .int 0, .ref f_limits, .ref f_worked, .int 0, .int 0, .int 0])), (f_limits, .inl (cT 0, 6, .inl (fun _ => 0)))] sz) := by
  refine vx_ofW (cc := cX11_animator) (maxL := 2) (ret := (some .int)) (by decide) rfl ?_
  intro p e s m args below meth c s₁ B hml hex hv
  obtain ⟨rfl, ⟨hsz, hP, hK, hD0, hG⟩, hZ⟩ := hv
  have hx := B.exec
  have hb := B.bytes
  have hr := B.returns
  have hts := atoms_spec (ws := wsX11_animator) B.pre
  have hown : s.vm.findClass RX11 = some m.cls := findClass_of_methodNamed B.named
  have hlocks := B.notSynchronized
  subst hsz
  have hD := hD0.self (sz := s.heap.size)
  generalize hAe : va_A [(h0, .inr (11, [.ref x_studio, .ref x_script, .ref x_teller, .ref x_planner, .ref x_plan, .ref x_drifts, .ref x_floor, .ref x_trial, .ref x_tape, .int 0, .int (-1)])), (x_floor, .inr (1, [.ref f_studio, .int 1, .int 0, .ref f_taken, .ref f_on, .ref f_queues, .ref f_queued, .ref f_engaged, .ref f_dressing, .ref f_dressed, .ref f_standing, .ref f_stations, .int 0, .ref f_limits, .ref f_worked, .int 0, .int 0, .int 0])), (f_limits, .inl (cT 0, 6, .inl (fun _ => 0)))] s.heap.size = A at hD hZ ⊢
  have hA : ∀ q : Nat, s.heap.size ≤ q → A q := fun q h => by rw [← hAe]; exact Or.inr h
  have hS : va_S A s.heap s.heap [] := va_S.rf
  have hP : va_P D vwCl [(h0, .inr (11, [.ref x_studio, .ref x_script, .ref x_teller, .ref x_planner, .ref x_plan, .ref x_drifts, .ref x_floor, .ref x_trial, .ref x_tape, .int 0, .int (-1)])), (x_floor, .inr (1, [.ref f_studio, .int 1, .int 0, .ref f_taken, .ref f_on, .ref f_queues, .ref f_queued, .ref f_engaged, .ref f_dressing, .ref f_dressed, .ref f_standing, .ref f_stations, .int 0, .ref f_limits, .ref f_worked, .int 0, .int 0, .int 0])), (f_limits, .inl (cT 0, 6, .inl (fun _ => 0)))] s.heap := hP
  have hl := lv_entry ([.ref h0, .int p0]) (n := 2) (Nat.le_of_ble_eq_true rfl)
  rw [lg_entry_eq]
  generalize (lg_sl ([.ref h0, .int p0]) ++ List.replicate (2 - (lg_sl ([.ref h0, .int p0])).length) Slot.unset).toArray = ls at hl ⊢
  have hl : lv_has ls 2 [(0, .ref h0), (1, .int p0)] := hl
  refine lv_iload_n hx hb dX11_animator_0 rfl (lv_at hl 1 rfl) ?_
  refine lv_iconst (v := 0) hx hb dX11_animator_1 (by decide) ?_
  refine lv_bipush (v := 14) hx hb dX11_animator_2 (by decide) ?_
  have hF := va_free (wc := []) hD hS hA [] rfl
  refine va_calli (va_runS (As := [.int p0, .int 0, .int 14]) (rest := []) ⟨hx, hb, hml, hown, hts⟩ (c_X11_within l D cT p0 0 14 _ ) (va_cwS 3 hts gX11_animator_X11_within rfl rfl rfl (by decide +kernel) ⟨Nat.le_of_ble_eq_true rfl, Nat.le_of_ble_eq_true rfl⟩) (ps_w hP hD hK hG [] rfl rfl rfl) rfl rfl hl.1 rfl (lv_room (Nat.le_of_ble_eq_true rfl)) dX11_animator_4 ⟨Nat.le_of_ble_eq_true rfl, Nat.le_of_ble_eq_true rfl⟩) hS (fun q _ h => hF q h) hF (fun r_1 uu9 tt9 H locs ht hvm wr_1 hB hz1 hk1 hS => ?_)
  obtain ⟨hP, hD⟩ := va_join (wr := [(h0, .inr (11, [.ref x_studio, .ref x_script, .ref x_teller, .ref x_planner, .ref x_plan, .ref x_drifts, .ref x_floor, .ref x_trial, .ref x_tape, .int 0, .int (-1)])), (x_floor, .inr (1, [.ref f_studio, .int 1, .int 0, .ref f_taken, .ref f_on, .ref f_queues, .ref f_queued, .ref f_engaged, .ref f_dressing, .ref f_dressed, .ref f_standing, .ref f_stations, .int 0, .ref f_limits, .ref f_worked, .int 0, .int 0, .int 0])), (f_limits, .inl (cT 0, 6, .inl (fun _ => 0)))]) (w1 := []) hP hD [] [0, 1, 2] rfl rfl (by decide) (by decide) hk1 hF vp_nil vd_nil
  have hP : va_P D vwCl [(h0, .inr (11, [.ref x_studio, .ref x_script, .ref x_teller, .ref x_planner, .ref x_plan, .ref x_drifts, .ref x_floor, .ref x_trial, .ref x_tape, .int 0, .int (-1)])), (x_floor, .inr (1, [.ref f_studio, .int 1, .int 0, .ref f_taken, .ref f_on, .ref f_queues, .ref f_queued, .ref f_engaged, .ref f_dressing, .ref f_dressed, .ref f_standing, .ref f_stations, .int 0, .ref f_limits, .ref f_worked, .int 0, .int 0, .int 0])), (f_limits, .inl (cT 0, 6, .inl (fun _ => 0)))] _ := hP
  have hD : va_D A [(h0, .inr (11, [.ref x_studio, .ref x_script, .ref x_teller, .ref x_planner, .ref x_plan, .ref x_drifts, .ref x_floor, .ref x_trial, .ref x_tape, .int 0, .int (-1)])), (x_floor, .inr (1, [.ref f_studio, .int 1, .int 0, .ref f_taken, .ref f_on, .ref f_queues, .ref f_queued, .ref f_engaged, .ref f_dressing, .ref f_dressed, .ref f_standing, .ref f_stations, .int 0, .ref f_limits, .ref f_worked, .int 0, .int 0, .int 0])), (f_limits, .inl (cT 0, 6, .inl (fun _ => 0)))] := hD
  have g9 := wi_01 p0 0 14
  rw [← wr_1] at g9
  rcases g9 with rfl | rfl
  · have hF := va_free (wc := []) hD hS hA [] rfl
    refine vx_callv (vx_runS (As := [.int 0]) (rest := []) ⟨hx, hb, hml, hown, hts⟩ (c_X11_need l hst D cT 0 _ ) (va_cwS 1 hts gX11_animator_X11_need rfl rfl rfl (by decide +kernel) ⟨Nat.le_of_ble_eq_true rfl, Nat.le_of_ble_eq_true rfl⟩) (ps_z hP hD hK hG hZ hS hF [] rfl rfl rfl) rfl rfl hl.1 rfl (lv_room (Nat.le_of_ble_eq_true rfl)) dX11_animator_7 ⟨Nat.le_of_ble_eq_true rfl, Nat.le_of_ble_eq_true rfl⟩) hS (fun q _ h => hF q h) hF (fun q _ h => hF q h) (fun E ce q9 uu9 tt9 H locs ht hvm hw hB hz1 hk1 hS hq9 hv9 hc9 => ?_) (fun uu9 tt9 H locs ht hvm wr_2 hB hz1 hk1 hS => ((wr_2 rfl : False)).elim)
    obtain ⟨rfl, hpx⟩ := hB
    exact vx_out (fun x hx9 => (hex x hx9).elim) hlocks hq9 hv9 hc9 (fun t ht9 hA9 => ⟨(), trivial, ⟨rfl, (by simp [th_anim, ← wr_1])⟩, hS.F ht9⟩) hS.2.2 (Nat.le_of_ble_eq_true rfl) (Nat.le_of_ble_eq_true rfl)
  · have hF := va_free (wc := []) hD hS hA [] rfl
    refine vx_callv (vx_runS (As := [.int 1]) (rest := []) ⟨hx, hb, hml, hown, hts⟩ (c_X11_need l hst D cT 1 _ ) (va_cwS 1 hts gX11_animator_X11_need rfl rfl rfl (by decide +kernel) ⟨Nat.le_of_ble_eq_true rfl, Nat.le_of_ble_eq_true rfl⟩) (ps_z hP hD hK hG hZ hS hF [] rfl rfl rfl) rfl rfl hl.1 rfl (lv_room (Nat.le_of_ble_eq_true rfl)) dX11_animator_7 ⟨Nat.le_of_ble_eq_true rfl, Nat.le_of_ble_eq_true rfl⟩) hS (fun q _ h => hF q h) hF (fun q _ h => hF q h) (fun E ce q9 uu9 tt9 H locs ht hvm hw hB hz1 hk1 hS hq9 hv9 hc9 => ((absurd hB.2 (by decide) : False)).elim) (fun uu9 tt9 H locs ht hvm wr_3 hB hz1 hk1 hS => ?_)
    obtain ⟨hP, hD⟩ := va_join (wr := [(h0, .inr (11, [.ref x_studio, .ref x_script, .ref x_teller, .ref x_planner, .ref x_plan, .ref x_drifts, .ref x_floor, .ref x_trial, .ref x_tape, .int 0, .int (-1)])), (x_floor, .inr (1, [.ref f_studio, .int 1, .int 0, .ref f_taken, .ref f_on, .ref f_queues, .ref f_queued, .ref f_engaged, .ref f_dressing, .ref f_dressed, .ref f_standing, .ref f_stations, .int 0, .ref f_limits, .ref f_worked, .int 0, .int 0, .int 0])), (f_limits, .inl (cT 0, 6, .inl (fun _ => 0)))]) (w1 := []) hP hD [] [0, 1, 2] rfl rfl (by decide) (by decide) hk1 hF vp_nil vd_nil
    have hP : va_P D vwCl [(h0, .inr (11, [.ref x_studio, .ref x_script, .ref x_teller, .ref x_planner, .ref x_plan, .ref x_drifts, .ref x_floor, .ref x_trial, .ref x_tape, .int 0, .int (-1)])), (x_floor, .inr (1, [.ref f_studio, .int 1, .int 0, .ref f_taken, .ref f_on, .ref f_queues, .ref f_queued, .ref f_engaged, .ref f_dressing, .ref f_dressed, .ref f_standing, .ref f_stations, .int 0, .ref f_limits, .ref f_worked, .int 0, .int 0, .int 0])), (f_limits, .inl (cT 0, 6, .inl (fun _ => 0)))] _ := hP
    have hD : va_D A [(h0, .inr (11, [.ref x_studio, .ref x_script, .ref x_teller, .ref x_planner, .ref x_plan, .ref x_drifts, .ref x_floor, .ref x_trial, .ref x_tape, .int 0, .int (-1)])), (x_floor, .inr (1, [.ref f_studio, .int 1, .int 0, .ref f_taken, .ref f_on, .ref f_queues, .ref f_queued, .ref f_engaged, .ref f_dressing, .ref f_dressed, .ref f_standing, .ref f_stations, .int 0, .ref f_limits, .ref f_worked, .int 0, .int 0, .int 0])), (f_limits, .inl (cT 0, 6, .inl (fun _ => 0)))] := hD
    refine W.widen (k := 1) (n := 6) (Nat.le_of_ble_eq_true rfl) (Nat.le_of_ble_eq_true rfl) ?_
    refine lv_aload_n hx hb dX11_animator_10 rfl (lv_at hl 0 rfl) ?_
    refine va_get (D := D) (ci := 11) (v := .ref x_floor) (C := RX11) (T := TX11) (N := 11) hx hb hts (fun _ h => List.mem_cons_of_mem _ (List.mem_append_left _ (List.mem_append_left _ (List.mem_append_right _ h)))) hown hK hP 0 rfl rfl 6 (by decide) (hts (.fieldLink RX11 60 "PuppetFilm" "floor" "LPuppetFilm$Floor;") (List.mem_of_getElem? (i := 1) (by decide +kernel))) (fun _ h9 => h9) rfl dX11_animator_11 ?_
    refine lv_iload_n hx hb dX11_animator_14 rfl (lv_at hl 1 rfl) ?_
    have hF := va_free (wc := [(x_floor, .inr (1, [.ref f_studio, .int 1, .int 0, .ref f_taken, .ref f_on, .ref f_queues, .ref f_queued, .ref f_engaged, .ref f_dressing, .ref f_dressed, .ref f_standing, .ref f_stations, .int 0, .ref f_limits, .ref f_worked, .int 0, .int 0, .int 0])), (f_limits, .inl (cT 0, 6, .inl (fun _ => 0)))]) hD hS hA [1, 2] rfl
    refine va_calli (va_runV (As := [.int p0]) (rest := []) ⟨hx, hb, hml, hown, hts⟩ (c_X1_addAnimator l D cT x_floor p0 f_studio f_taken f_on f_queues f_queued f_engaged f_dressing f_dressed f_standing f_stations f_limits f_worked _ ) (cwV 1 hts gX11_animator_X1_addAnimator rfl rfl rfl (by decide +kernel) ⟨Nat.le_of_ble_eq_true rfl, Nat.le_of_ble_eq_true rfl⟩) (pv_w hP hD hK hG [1, 2] rfl rfl rfl 1 rfl rfl) rfl rfl hl.1 rfl (lv_room (Nat.le_of_ble_eq_true rfl)) dX11_animator_15 ⟨Nat.le_of_ble_eq_true rfl, Nat.le_of_ble_eq_true rfl⟩) hS (fun q _ h => hF q h) hF (fun r_4 uu9 tt9 H locs ht hvm wr_4 hB hz1 hk1 hS => ?_)
    obtain ⟨hP, hD⟩ := va_join (wr := [(h0, .inr (11, [.ref x_studio, .ref x_script, .ref x_teller, .ref x_planner, .ref x_plan, .ref x_drifts, .ref x_floor, .ref x_trial, .ref x_tape, .int 0, .int (-1)]))]) (w1 := []) hP hD [1, 2] [0] rfl rfl (by decide) (by decide) hk1 hF vp_nil vd_nil
    have hP : va_P D vwCl [(h0, .inr (11, [.ref x_studio, .ref x_script, .ref x_teller, .ref x_planner, .ref x_plan, .ref x_drifts, .ref x_floor, .ref x_trial, .ref x_tape, .int 0, .int (-1)]))] _ := hP
    have hD : va_D A [(h0, .inr (11, [.ref x_studio, .ref x_script, .ref x_teller, .ref x_planner, .ref x_plan, .ref x_drifts, .ref x_floor, .ref x_trial, .ref x_tape, .int 0, .int (-1)]))] := hD
    obtain rfl : r_4 = 0 := wr_4.trans (rfl)
    refine vx_ret ?_
    exact W.iret (v := 0) hx hb hr (fun t ht hW => ⟨⟨0, (), rfl, ⟨by simp [th_anim, ← wr_1], rfl⟩, trivial⟩, hS.F ht⟩) hS.2.2 dX11_animator_18
theorem dX11_station_0 : decode cX11_station 0 = .ok (.iload_n 1, 1) := by decide +kernel
theorem dX11_station_1 : decode cX11_station 1 = .ok (.invokestatic 361, 3) := by decide +kernel
theorem dX11_station_10 : decode cX11_station 10 = .ok (.getfield 364, 3) := by decide +kernel
theorem dX11_station_13 : decode cX11_station 13 = .ok (.iconst 1, 1) := by decide +kernel
theorem dX11_station_14 : decode cX11_station 14 = .ok (.isub, 1) := by decide +kernel
theorem dX11_station_15 : decode cX11_station 15 = .ok (.invokestatic 97, 3) := by decide +kernel
theorem dX11_station_18 : decode cX11_station 18 = .ok (.invokestatic 93, 3) := by decide +kernel
theorem dX11_station_21 : decode cX11_station 21 = .ok (.aload_n 0, 1) := by decide +kernel
theorem dX11_station_22 : decode cX11_station 22 = .ok (.getfield 60, 3) := by decide +kernel
theorem dX11_station_25 : decode cX11_station 25 = .ok (.getfield 367, 3) := by decide +kernel
theorem dX11_station_28 : decode cX11_station 28 = .ok (.iload_n 1, 1) := by decide +kernel
theorem dX11_station_29 : decode cX11_station 29 = .ok (.iload_n 2, 1) := by decide +kernel
theorem dX11_station_30 : decode cX11_station 30 = .ok (.invokestatic 121, 3) := by decide +kernel
theorem dX11_station_33 : decode cX11_station 33 = .ok (.ireturn, 1) := by decide +kernel
theorem dX11_station_4 : decode cX11_station 4 = .ok (.iload_n 2, 1) := by decide +kernel
theorem dX11_station_5 : decode cX11_station 5 = .ok (.iconst (-1), 1) := by decide +kernel
theorem dX11_station_6 : decode cX11_station 6 = .ok (.aload_n 0, 1) := by decide +kernel
theorem dX11_station_7 : decode cX11_station 7 = .ok (.getfield 60, 3) := by decide +kernel
set_option maxRecDepth 20000 in
theorem ggX11_station_X11_need : GoodIn wsX11_station wsX11_need := goodIn_ca (goodIn_r _ [15, 16, 17] (by decide +kernel) (by decide +kernel)) (goodIn_sub (fun _ h => List.mem_cons_of_mem _ (List.mem_append_right _ h)) (by decide +kernel))
set_option maxRecDepth 20000 in
theorem gX11_station_X11_need : GoodIn wsX11_station (va_wsS RX11 93 yX11_need wsX11_need) := goodIn_app (goodIn_of _ (by decide +kernel)) ggX11_station_X11_need
set_option maxRecDepth 20000 in
theorem ggX11_station_X11_needUnit : GoodIn wsX11_station wsX11_needUnit := goodIn_ca (goodIn_r _ [7, 8, 9, 10, 11, 6, 12] (by decide +kernel) (by decide +kernel)) (goodIn_sub (fun _ h => List.mem_cons_of_mem _ (List.mem_append_left _ (List.mem_append_right _ h))) (by decide +kernel))
set_option maxRecDepth 20000 in
theorem gX11_station_X11_needUnit : GoodIn wsX11_station (va_wsS RX11 361 yX11_needUnit wsX11_needUnit) := goodIn_app (goodIn_of _ (by decide +kernel)) ggX11_station_X11_needUnit
set_option maxRecDepth 20000 in
theorem ggX11_station_X11_swapIn : GoodIn wsX11_station wsX11_swapIn := goodIn_r _ [20] (by decide +kernel) (by decide +kernel)
set_option maxRecDepth 20000 in
theorem gX11_station_X11_swapIn : GoodIn wsX11_station (va_wsS RX11 121 yX11_swapIn wsX11_swapIn) := goodIn_app (goodIn_of _ (by decide +kernel)) ggX11_station_X11_swapIn
set_option maxRecDepth 20000 in
theorem ggX11_station_X11_within : GoodIn wsX11_station wsX11_within := goodIn_r _ [12] (by decide +kernel) (by decide +kernel)
set_option maxRecDepth 20000 in
theorem gX11_station_X11_within : GoodIn wsX11_station (va_wsS RX11 97 yX11_within wsX11_within) := goodIn_app (goodIn_of _ (by decide +kernel)) ggX11_station_X11_within
set_option maxHeartbeats 4000000 in
set_option maxRecDepth 100000 in
theorem c_X11_station (l : Launch) (hst : l.stackTraces = false) (D : va_G) (cT : Nat → ClassId) (h0 : Nat) (p0 : Int32) (p1 : Int32) (x_studio : Nat) (x_script : Nat) (x_teller : Nat) (x_planner : Nat) (x_plan : Nat) (x_drifts : Nat) (x_floor : Nat) (x_trial : Nat) (x_tape : Nat) (f_studio : Nat) (f_taken : Nat) (f_on : Nat) (f_queues : Nat) (f_queued : Nat) (f_engaged : Nat) (f_dressing : Nat) (f_dressed : Nat) (f_standing : Nat) (f_stations : Nat) (f_limits : Nat) (f_worked : Nat) (fst : Nat → Int32) (sz : Nat) (hst9 : ∀ k, k < 3 → fst k = -1) : vx_Met l yX11_station wsX11_station ({ frames := 10, cells := 2, slots := 12, locals := 280 }) (va_Pc [.ref h0, .int p0, .int p1] (PZ D cT [(h0, .inr (11, [.ref x_studio, .ref x_script, .ref x_teller, .ref x_planner, .ref x_plan, .ref x_drifts, .ref x_floor, .ref x_trial, .ref x_tape, .int 0, .int (-1)])), (x_floor, .inr (1, [.ref f_studio, .int 1, .int 0, .ref f_taken, .ref f_on, .ref f_queues, .ref f_queued, .ref f_engaged, .ref f_dressing, .ref f_dressed, .ref f_standing, .ref f_stations, .int 0, .ref f_limits, .ref f_worked, .int 0, .int 0, .int 0])), (f_stations, .inl (cT 0, 3, .inl fst))] sz)) (va_Qi (fun (r : Int32) (_ : Unit) => th_stat p0 p1 = 0 ∧ r = -1) (fun (_ : Unit) (_ : State) => True) (va_A [(h0, .inr (11, [.ref x_studio, .ref x_script, .ref x_teller, .ref x_planner, .ref x_plan, .ref x_drifts, .ref x_floor, .ref x_trial, .ref x_tape, .int 0, .int (-1)])), (x_floor, .inr (1, [.ref f_studio, .int 1, .int 0, .ref f_taken, .ref f_on, .ref f_queues, .ref f_queued, .ref f_engaged, .ref f_dressing, .ref f_dressed, .ref f_standing, .ref f_stations, .int 0, .ref f_limits, .ref f_worked, .int 0, .int 0, .int 0])), (f_stations, .inl (cT 0, 3, .inl fst))] sz)) (vx_X (fun _ : Unit => True) (fun (E : String) (_ : Unit) (_ : State) => (E = "java/lang/IndexOutOfBoundsException" ∧ th_stat p0 p1 = 1) ∨ (E = "java/lang/IllegalArgumentException" ∧ th_stat p0 p1 = 2)) (va_A [(h0, .inr (11, [.ref x_studio, .ref x_script, .ref x_teller, .ref x_planner, .ref x_plan, .ref x_drifts, .ref x_floor, .ref x_trial, .ref x_tape, .int 0, .int (-1)])), (x_floor, .inr (1, [.ref f_studio, .int 1, .int 0, .ref f_taken, .ref f_on, .ref f_queues, .ref f_queued, .ref f_engaged, .ref f_dressing, .ref f_dressed, .ref f_standing, .ref f_stations, .int 0, .ref f_limits, .ref f_worked, .int 0, .int 0, .int 0])), (f_stations, .inl (cT 0, 3, .inl fst))] sz)) 2 12 (va_A [(h0, .inr (11, [.ref x_studio, .ref x_script, .ref x_teller, .ref x_planner, .ref x_plan, .ref x_drifts, .ref x_floor, .ref x_trial, .ref x_tape, .int 0, .int (-1)])), (x_floor, .inr (1, [.ref f_studio, .int 1, .int 0, .ref f_taken, .ref f_on, .ref f_queues, .ref f_queued, .ref f_engaged, .ref f_dressing, .ref f_dressed, .ref f_standing, .ref f_stations, .int 0, .ref f_limits, .ref f_worked, .int 0, .int 0, .int 0])), (f_stations, .inl (cT 0, 3, .inl fst))] sz) := by
  refine vx_ofW (cc := cX11_station) (maxL := 3) (ret := (some .int)) (by decide) rfl ?_
  intro p e s m args below meth c s₁ B hml hex hv
  obtain ⟨rfl, ⟨hsz, hP, hK, hD0, hG⟩, hZ⟩ := hv
  have hx := B.exec
  have hb := B.bytes
  have hr := B.returns
  have hts := atoms_spec (ws := wsX11_station) B.pre
  have hown : s.vm.findClass RX11 = some m.cls := findClass_of_methodNamed B.named
  have hlocks := B.notSynchronized
  subst hsz
  have hD := hD0.self (sz := s.heap.size)
  generalize hAe : va_A [(h0, .inr (11, [.ref x_studio, .ref x_script, .ref x_teller, .ref x_planner, .ref x_plan, .ref x_drifts, .ref x_floor, .ref x_trial, .ref x_tape, .int 0, .int (-1)])), (x_floor, .inr (1, [.ref f_studio, .int 1, .int 0, .ref f_taken, .ref f_on, .ref f_queues, .ref f_queued, .ref f_engaged, .ref f_dressing, .ref f_dressed, .ref f_standing, .ref f_stations, .int 0, .ref f_limits, .ref f_worked, .int 0, .int 0, .int 0])), (f_stations, .inl (cT 0, 3, .inl fst))] s.heap.size = A at hD hZ ⊢
  have hA : ∀ q : Nat, s.heap.size ≤ q → A q := fun q h => by rw [← hAe]; exact Or.inr h
  have hS : va_S A s.heap s.heap [] := va_S.rf
  have hP : va_P D vwCl [(h0, .inr (11, [.ref x_studio, .ref x_script, .ref x_teller, .ref x_planner, .ref x_plan, .ref x_drifts, .ref x_floor, .ref x_trial, .ref x_tape, .int 0, .int (-1)])), (x_floor, .inr (1, [.ref f_studio, .int 1, .int 0, .ref f_taken, .ref f_on, .ref f_queues, .ref f_queued, .ref f_engaged, .ref f_dressing, .ref f_dressed, .ref f_standing, .ref f_stations, .int 0, .ref f_limits, .ref f_worked, .int 0, .int 0, .int 0])), (f_stations, .inl (cT 0, 3, .inl fst))] s.heap := hP
  have hl := lv_entry ([.ref h0, .int p0, .int p1]) (n := 3) (Nat.le_of_ble_eq_true rfl)
  rw [lg_entry_eq]
  generalize (lg_sl ([.ref h0, .int p0, .int p1]) ++ List.replicate (3 - (lg_sl ([.ref h0, .int p0, .int p1])).length) Slot.unset).toArray = ls at hl ⊢
  have hl : lv_has ls 3 [(0, .ref h0), (1, .int p0), (2, .int p1)] := hl
  refine lv_iload_n hx hb dX11_station_0 rfl (lv_at hl 1 rfl) ?_
  have hF := va_free (wc := []) hD hS hA [] rfl
  refine vx_callv (vx_runS (As := [.int p0]) (rest := []) ⟨hx, hb, hml, hown, hts⟩ (c_X11_needUnit l hst D cT p0 _ ) (va_cwS 1 hts gX11_station_X11_needUnit rfl rfl rfl (by decide +kernel) ⟨Nat.le_of_ble_eq_true rfl, Nat.le_of_ble_eq_true rfl⟩) (ps_z hP hD hK hG hZ hS hF [] rfl rfl rfl) rfl rfl hl.1 rfl (lv_room (Nat.le_of_ble_eq_true rfl)) dX11_station_1 ⟨Nat.le_of_ble_eq_true rfl, Nat.le_of_ble_eq_true rfl⟩) hS (fun q _ h => hF q h) hF (fun q _ h => hF q h) (fun E ce q9 uu9 tt9 H locs ht hvm hw hB hz1 hk1 hS hq9 hv9 hc9 => ?_) (fun uu9 tt9 H locs ht hvm wr_1 hB hz1 hk1 hS => ?_)
  · obtain ⟨rfl, hpx⟩ := hB
    exact vx_out (fun x hx9 => (hex x hx9).elim) hlocks hq9 hv9 hc9 (fun t ht9 hA9 => ⟨(), trivial, (Or.inl ⟨rfl, (by simp [th_stat, hpx])⟩), hS.F ht9⟩) hS.2.2 (Nat.le_of_ble_eq_true rfl) (Nat.le_of_ble_eq_true rfl)
  · obtain ⟨hP, hD⟩ := va_join (wr := [(h0, .inr (11, [.ref x_studio, .ref x_script, .ref x_teller, .ref x_planner, .ref x_plan, .ref x_drifts, .ref x_floor, .ref x_trial, .ref x_tape, .int 0, .int (-1)])), (x_floor, .inr (1, [.ref f_studio, .int 1, .int 0, .ref f_taken, .ref f_on, .ref f_queues, .ref f_queued, .ref f_engaged, .ref f_dressing, .ref f_dressed, .ref f_standing, .ref f_stations, .int 0, .ref f_limits, .ref f_worked, .int 0, .int 0, .int 0])), (f_stations, .inl (cT 0, 3, .inl fst))]) (w1 := []) hP hD [] [0, 1, 2] rfl rfl (by decide) (by decide) hk1 hF vp_nil vd_nil
    have hP : va_P D vwCl [(h0, .inr (11, [.ref x_studio, .ref x_script, .ref x_teller, .ref x_planner, .ref x_plan, .ref x_drifts, .ref x_floor, .ref x_trial, .ref x_tape, .int 0, .int (-1)])), (x_floor, .inr (1, [.ref f_studio, .int 1, .int 0, .ref f_taken, .ref f_on, .ref f_queues, .ref f_queued, .ref f_engaged, .ref f_dressing, .ref f_dressed, .ref f_standing, .ref f_stations, .int 0, .ref f_limits, .ref f_worked, .int 0, .int 0, .int 0])), (f_stations, .inl (cT 0, 3, .inl fst))] _ := hP
    have hD : va_D A [(h0, .inr (11, [.ref x_studio, .ref x_script, .ref x_teller, .ref x_planner, .ref x_plan, .ref x_drifts, .ref x_floor, .ref x_trial, .ref x_tape, .int 0, .int (-1)])), (x_floor, .inr (1, [.ref f_studio, .int 1, .int 0, .ref f_taken, .ref f_on, .ref f_queues, .ref f_queued, .ref f_engaged, .ref f_dressing, .ref f_dressed, .ref f_standing, .ref f_stations, .int 0, .ref f_limits, .ref f_worked, .int 0, .int 0, .int 0])), (f_stations, .inl (cT 0, 3, .inl fst))] := hD
    refine W.widen (k := 1) (n := 6) (Nat.le_of_ble_eq_true rfl) (Nat.le_of_ble_eq_true rfl) ?_
    refine lv_iload_n hx hb dX11_station_4 rfl (lv_at hl 2 rfl) ?_
    refine lv_iconst (v := (-1)) hx hb dX11_station_5 (by decide) ?_
    refine lv_aload_n hx hb dX11_station_6 rfl (lv_at hl 0 rfl) ?_
    refine va_get (D := D) (ci := 11) (v := .ref x_floor) (C := RX11) (T := TX11) (N := 11) hx hb hts (fun _ h => List.mem_cons_of_mem _ (List.mem_append_left _ (List.mem_append_left _ (List.mem_append_left _ (List.mem_append_right _ h))))) hown hK hP 0 rfl rfl 6 (by decide) (hts (.fieldLink RX11 60 "PuppetFilm" "floor" "LPuppetFilm$Floor;") (List.mem_of_getElem? (i := 1) (by decide +kernel))) (fun _ h9 => h9) rfl dX11_station_7 ?_
    refine va_get (D := D) (ci := 1) (v := .int 0) (C := RX1) (T := TX1) (N := 18) hx hb hts (fun _ h => List.mem_cons_of_mem _ (List.mem_append_left _ (List.mem_append_left _ (List.mem_append_right _ h)))) hown hK hP 1 rfl rfl 12 (by decide) (hts (.fieldLink RX11 364 "PuppetFilm$Floor" "animators" "I") (List.mem_of_getElem? (i := 2) (by decide +kernel))) (fun _ h9 => h9) rfl dX11_station_10 ?_
    refine lv_iconst (v := 1) hx hb dX11_station_13 (by decide) ?_
    refine lv_isub hx hb dX11_station_14 ?_
    refine lv_topi (fun z_2 ez_2 => ?_)
    obtain rfl : z_2 = (-1) := ez_2.trans (by decide)
    have hF := va_free (wc := []) hD hS hA [] rfl
    refine va_calli (va_runS (As := [.int p1, .int (-1), .int (-1)]) (rest := []) ⟨hx, hb, hml, hown, hts⟩ (c_X11_within l D cT p1 (-1) (-1) _ ) (va_cwS 3 hts gX11_station_X11_within rfl rfl rfl (by decide +kernel) ⟨Nat.le_of_ble_eq_true rfl, Nat.le_of_ble_eq_true rfl⟩) (ps_w hP hD hK hG [] rfl rfl rfl) rfl rfl hl.1 rfl (lv_room (Nat.le_of_ble_eq_true rfl)) dX11_station_15 ⟨Nat.le_of_ble_eq_true rfl, Nat.le_of_ble_eq_true rfl⟩) hS (fun q _ h => hF q h) hF (fun r_3 uu9 tt9 H locs ht hvm wr_3 hB hz1 hk1 hS => ?_)
    obtain ⟨hP, hD⟩ := va_join (wr := [(h0, .inr (11, [.ref x_studio, .ref x_script, .ref x_teller, .ref x_planner, .ref x_plan, .ref x_drifts, .ref x_floor, .ref x_trial, .ref x_tape, .int 0, .int (-1)])), (x_floor, .inr (1, [.ref f_studio, .int 1, .int 0, .ref f_taken, .ref f_on, .ref f_queues, .ref f_queued, .ref f_engaged, .ref f_dressing, .ref f_dressed, .ref f_standing, .ref f_stations, .int 0, .ref f_limits, .ref f_worked, .int 0, .int 0, .int 0])), (f_stations, .inl (cT 0, 3, .inl fst))]) (w1 := []) hP hD [] [0, 1, 2] rfl rfl (by decide) (by decide) hk1 hF vp_nil vd_nil
    have hP : va_P D vwCl [(h0, .inr (11, [.ref x_studio, .ref x_script, .ref x_teller, .ref x_planner, .ref x_plan, .ref x_drifts, .ref x_floor, .ref x_trial, .ref x_tape, .int 0, .int (-1)])), (x_floor, .inr (1, [.ref f_studio, .int 1, .int 0, .ref f_taken, .ref f_on, .ref f_queues, .ref f_queued, .ref f_engaged, .ref f_dressing, .ref f_dressed, .ref f_standing, .ref f_stations, .int 0, .ref f_limits, .ref f_worked, .int 0, .int 0, .int 0])), (f_stations, .inl (cT 0, 3, .inl fst))] _ := hP
    have hD : va_D A [(h0, .inr (11, [.ref x_studio, .ref x_script, .ref x_teller, .ref x_planner, .ref x_plan, .ref x_drifts, .ref x_floor, .ref x_trial, .ref x_tape, .int 0, .int (-1)])), (x_floor, .inr (1, [.ref f_studio, .int 1, .int 0, .ref f_taken, .ref f_on, .ref f_queues, .ref f_queued, .ref f_engaged, .ref f_dressing, .ref f_dressed, .ref f_standing, .ref f_stations, .int 0, .ref f_limits, .ref f_worked, .int 0, .int 0, .int 0])), (f_stations, .inl (cT 0, 3, .inl fst))] := hD
    have g9 := wi_01 p1 (-1) (-1)
    rw [← wr_3] at g9
    rcases g9 with rfl | rfl
    · have hF := va_free (wc := []) hD hS hA [] rfl
      refine vx_callv (vx_runS (As := [.int 0]) (rest := []) ⟨hx, hb, hml, hown, hts⟩ (c_X11_need l hst D cT 0 _ ) (va_cwS 1 hts gX11_station_X11_need rfl rfl rfl (by decide +kernel) ⟨Nat.le_of_ble_eq_true rfl, Nat.le_of_ble_eq_true rfl⟩) (ps_z hP hD hK hG hZ hS hF [] rfl rfl rfl) rfl rfl hl.1 rfl (lv_room (Nat.le_of_ble_eq_true rfl)) dX11_station_18 ⟨Nat.le_of_ble_eq_true rfl, Nat.le_of_ble_eq_true rfl⟩) hS (fun q _ h => hF q h) hF (fun q _ h => hF q h) (fun E ce q9 uu9 tt9 H locs ht hvm hw hB hz1 hk1 hS hq9 hv9 hc9 => ?_) (fun uu9 tt9 H locs ht hvm wr_4 hB hz1 hk1 hS => ((wr_4 rfl : False)).elim)
      obtain ⟨rfl, hpx⟩ := hB
      exact vx_out (fun x hx9 => (hex x hx9).elim) hlocks hq9 hv9 hc9 (fun t ht9 hA9 => ⟨(), trivial, (Or.inr ⟨rfl, (by simp [th_stat, ← wr_3, hpx, wi_1 wr_1])⟩), hS.F ht9⟩) hS.2.2 (Nat.le_of_ble_eq_true rfl) (Nat.le_of_ble_eq_true rfl)
    · have hF := va_free (wc := []) hD hS hA [] rfl
      refine vx_callv (vx_runS (As := [.int 1]) (rest := []) ⟨hx, hb, hml, hown, hts⟩ (c_X11_need l hst D cT 1 _ ) (va_cwS 1 hts gX11_station_X11_need rfl rfl rfl (by decide +kernel) ⟨Nat.le_of_ble_eq_true rfl, Nat.le_of_ble_eq_true rfl⟩) (ps_z hP hD hK hG hZ hS hF [] rfl rfl rfl) rfl rfl hl.1 rfl (lv_room (Nat.le_of_ble_eq_true rfl)) dX11_station_18 ⟨Nat.le_of_ble_eq_true rfl, Nat.le_of_ble_eq_true rfl⟩) hS (fun q _ h => hF q h) hF (fun q _ h => hF q h) (fun E ce q9 uu9 tt9 H locs ht hvm hw hB hz1 hk1 hS hq9 hv9 hc9 => ((absurd hB.2 (by decide) : False)).elim) (fun uu9 tt9 H locs ht hvm wr_5 hB hz1 hk1 hS => ?_)
      obtain ⟨hP, hD⟩ := va_join (wr := [(h0, .inr (11, [.ref x_studio, .ref x_script, .ref x_teller, .ref x_planner, .ref x_plan, .ref x_drifts, .ref x_floor, .ref x_trial, .ref x_tape, .int 0, .int (-1)])), (x_floor, .inr (1, [.ref f_studio, .int 1, .int 0, .ref f_taken, .ref f_on, .ref f_queues, .ref f_queued, .ref f_engaged, .ref f_dressing, .ref f_dressed, .ref f_standing, .ref f_stations, .int 0, .ref f_limits, .ref f_worked, .int 0, .int 0, .int 0])), (f_stations, .inl (cT 0, 3, .inl fst))]) (w1 := []) hP hD [] [0, 1, 2] rfl rfl (by decide) (by decide) hk1 hF vp_nil vd_nil
      have hP : va_P D vwCl [(h0, .inr (11, [.ref x_studio, .ref x_script, .ref x_teller, .ref x_planner, .ref x_plan, .ref x_drifts, .ref x_floor, .ref x_trial, .ref x_tape, .int 0, .int (-1)])), (x_floor, .inr (1, [.ref f_studio, .int 1, .int 0, .ref f_taken, .ref f_on, .ref f_queues, .ref f_queued, .ref f_engaged, .ref f_dressing, .ref f_dressed, .ref f_standing, .ref f_stations, .int 0, .ref f_limits, .ref f_worked, .int 0, .int 0, .int 0])), (f_stations, .inl (cT 0, 3, .inl fst))] _ := hP
      have hD : va_D A [(h0, .inr (11, [.ref x_studio, .ref x_script, .ref x_teller, .ref x_planner, .ref x_plan, .ref x_drifts, .ref x_floor, .ref x_trial, .ref x_tape, .int 0, .int (-1)])), (x_floor, .inr (1, [.ref f_studio, .int 1, .int 0, .ref f_taken, .ref f_on, .ref f_queues, .ref f_queued, .ref f_engaged, .ref f_dressing, .ref f_dressed, .ref f_standing, .ref f_stations, .int 0, .ref f_limits, .ref f_worked, .int 0, .int 0, .int 0])), (f_stations, .inl (cT 0, 3, .inl fst))] := hD
      refine W.widen (k := 2) (n := 12) (Nat.le_of_ble_eq_true rfl) (Nat.le_of_ble_eq_true rfl) ?_
      refine lv_aload_n hx hb dX11_station_21 rfl (lv_at hl 0 rfl) ?_
      refine va_get (D := D) (ci := 11) (v := .ref x_floor) (C := RX11) (T := TX11) (N := 11) hx hb hts (fun _ h => List.mem_cons_of_mem _ (List.mem_append_left _ (List.mem_append_left _ (List.mem_append_left _ (List.mem_append_right _ h))))) hown hK hP 0 rfl rfl 6 (by decide) (hts (.fieldLink RX11 60 "PuppetFilm" "floor" "LPuppetFilm$Floor;") (List.mem_of_getElem? (i := 1) (by decide +kernel))) (fun _ h9 => h9) rfl dX11_station_22 ?_
      refine va_get (D := D) (ci := 1) (v := .ref f_stations) (C := RX1) (T := TX1) (N := 18) hx hb hts (fun _ h => List.mem_cons_of_mem _ (List.mem_append_left _ (List.mem_append_left _ (List.mem_append_right _ h)))) hown hK hP 1 rfl rfl 11 (by decide) (hts (.fieldLink RX11 367 "PuppetFilm$Floor" "stations" "[I") (List.mem_of_getElem? (i := 3) (by decide +kernel))) (fun _ h9 => h9) rfl dX11_station_25 ?_
      refine lv_iload_n hx hb dX11_station_28 rfl (lv_at hl 1 rfl) ?_
      refine lv_iload_n hx hb dX11_station_29 rfl (lv_at hl 2 rfl) ?_
      have hF := va_free (wc := [(f_stations, .inl (cT 0, 3, .inl fst))]) hD hS hA [2] rfl
      refine va_calli (va_runS (As := [.ref f_stations, .int p0, .int p1]) (rest := []) ⟨hx, hb, hml, hown, hts⟩ (c_X11_swapIn l D cT f_stations 3 fst p0 p1 _ (by decide)) (va_cwS 3 hts gX11_station_X11_swapIn rfl rfl rfl (by decide +kernel) ⟨Nat.le_of_ble_eq_true rfl, Nat.le_of_ble_eq_true rfl⟩) (ps_w hP hD hK hG [2] rfl rfl rfl) rfl rfl hl.1 rfl (lv_room (Nat.le_of_ble_eq_true rfl)) dX11_station_30 ⟨Nat.le_of_ble_eq_true rfl, Nat.le_of_ble_eq_true rfl⟩) hS (fun q _ h => hF q h) hF (fun r_6 uu9 tt9 H locs ht hvm wr_6 hB hz1 hk1 hS => ?_)
      obtain ⟨g9_7, hP1, hD1⟩ := hB
      rw [ht] at hP1
      obtain ⟨hP, hD⟩ := va_join (wr := [(h0, .inr (11, [.ref x_studio, .ref x_script, .ref x_teller, .ref x_planner, .ref x_plan, .ref x_drifts, .ref x_floor, .ref x_trial, .ref x_tape, .int 0, .int (-1)])), (x_floor, .inr (1, [.ref f_studio, .int 1, .int 0, .ref f_taken, .ref f_on, .ref f_queues, .ref f_queued, .ref f_engaged, .ref f_dressing, .ref f_dressed, .ref f_standing, .ref f_stations, .int 0, .ref f_limits, .ref f_worked, .int 0, .int 0, .int 0]))]) (w1 := [(f_stations, .inl (cT 0, 3, .inl g9_7))]) hP hD [2] [0, 1] rfl rfl (by decide) (by decide) hk1 hF hP1 hD1
      have hP : va_P D vwCl [(h0, .inr (11, [.ref x_studio, .ref x_script, .ref x_teller, .ref x_planner, .ref x_plan, .ref x_drifts, .ref x_floor, .ref x_trial, .ref x_tape, .int 0, .int (-1)])), (x_floor, .inr (1, [.ref f_studio, .int 1, .int 0, .ref f_taken, .ref f_on, .ref f_queues, .ref f_queued, .ref f_engaged, .ref f_dressing, .ref f_dressed, .ref f_standing, .ref f_stations, .int 0, .ref f_limits, .ref f_worked, .int 0, .int 0, .int 0])), (f_stations, .inl (cT 0, 3, .inl g9_7))] _ := hP
      have hD : va_D A [(h0, .inr (11, [.ref x_studio, .ref x_script, .ref x_teller, .ref x_planner, .ref x_plan, .ref x_drifts, .ref x_floor, .ref x_trial, .ref x_tape, .int 0, .int (-1)])), (x_floor, .inr (1, [.ref f_studio, .int 1, .int 0, .ref f_taken, .ref f_on, .ref f_queues, .ref f_queued, .ref f_engaged, .ref f_dressing, .ref f_dressed, .ref f_standing, .ref f_stations, .int 0, .ref f_limits, .ref f_worked, .int 0, .int 0, .int 0])), (f_stations, .inl (cT 0, 3, .inl g9_7))] := hD
      obtain rfl : r_6 = (-1) := wr_6.trans (ent_out hst9 (by decide))
      refine vx_ret ?_
      exact W.iret (v := (-1)) hx hb hr (fun t ht hW => ⟨⟨(-1), (), rfl, ⟨by simp [th_stat, wi_1 wr_1, ← wr_3], rfl⟩, trivial⟩, hS.F ht⟩) hS.2.2 dX11_station_33
theorem dX1_onIn_0 : decode cX1_onIn 0 = .ok (.aload_n 0, 1) := by decide +kernel
theorem dX1_onIn_1 : decode cX1_onIn 1 = .ok (.getfield 15, 3) := by decide +kernel
theorem dX1_onIn_4 : decode cX1_onIn 4 = .ok (.iload_n 1, 1) := by decide +kernel
theorem dX1_onIn_5 : decode cX1_onIn 5 = .ok (.iconst (-1), 1) := by decide +kernel
theorem dX1_onIn_6 : decode cX1_onIn 6 = .ok (.invokestatic 78, 3) := by decide +kernel
theorem dX1_onIn_9 : decode cX1_onIn 9 = .ok (.ireturn, 1) := by decide +kernel
set_option maxRecDepth 20000 in
theorem ggX1_onIn_X11_entry : GoodIn wsX1_onIn wsX11_entry := goodIn_r _ [4] (by decide +kernel) (by decide +kernel)
set_option maxRecDepth 20000 in
theorem gX1_onIn_X11_entry_n78 : GoodIn wsX1_onIn (wsX11_entry) := ggX1_onIn_X11_entry
set_option maxHeartbeats 4000000 in
set_option maxRecDepth 100000 in
theorem c_X1_onIn (l : Launch) (D : va_G) (cT : Nat → ClassId) (h0 : Nat) (p0 : Int32) (f_studio : Nat) (f_taken : Nat) (f_on : Nat) (f_queues : Nat) (f_queued : Nat) (f_engaged : Nat) (f_dressing : Nat) (f_dressed : Nat) (f_standing : Nat) (f_stations : Nat) (f_limits : Nat) (f_worked : Nat) (fon : Nat → Int32) (sz : Nat) (hon : ∀ k, k < 3 → fon k = -1) : Met l yX1_onIn wsX1_onIn ({ frames := 9, cells := 0, slots := 0, locals := 220 }) (va_Pc [.ref h0, .int p0] (PW D cT [(h0, .inr (1, [.ref f_studio, .int 1, .int 0, .ref f_taken, .ref f_on, .ref f_queues, .ref f_queued, .ref f_engaged, .ref f_dressing, .ref f_dressed, .ref f_standing, .ref f_stations, .int 0, .ref f_limits, .ref f_worked, .int 0, .int 0, .int 0])), (f_on, .inl (cT 0, 3, .inl fon))] sz)) (va_Qi (fun (r : Int32) (_ : Unit) => r = (-1)) (fun (_ : Unit) (t : State) => va_P D vwCl [(h0, .inr (1, [.ref f_studio, .int 1, .int 0, .ref f_taken, .ref f_on, .ref f_queues, .ref f_queued, .ref f_engaged, .ref f_dressing, .ref f_dressed, .ref f_standing, .ref f_stations, .int 0, .ref f_limits, .ref f_worked, .int 0, .int 0, .int 0])), (f_on, .inl (cT 0, 3, .inl fon))] t.heap ∧ va_D (va_A [(h0, .inr (1, [.ref f_studio, .int 1, .int 0, .ref f_taken, .ref f_on, .ref f_queues, .ref f_queued, .ref f_engaged, .ref f_dressing, .ref f_dressed, .ref f_standing, .ref f_stations, .int 0, .ref f_limits, .ref f_worked, .int 0, .int 0, .int 0])), (f_on, .inl (cT 0, 3, .inl fon))] sz) [(h0, .inr (1, [.ref f_studio, .int 1, .int 0, .ref f_taken, .ref f_on, .ref f_queues, .ref f_queued, .ref f_engaged, .ref f_dressing, .ref f_dressed, .ref f_standing, .ref f_stations, .int 0, .ref f_limits, .ref f_worked, .int 0, .int 0, .int 0])), (f_on, .inl (cT 0, 3, .inl fon))]) (va_A [(h0, .inr (1, [.ref f_studio, .int 1, .int 0, .ref f_taken, .ref f_on, .ref f_queues, .ref f_queued, .ref f_engaged, .ref f_dressing, .ref f_dressed, .ref f_standing, .ref f_stations, .int 0, .ref f_limits, .ref f_worked, .int 0, .int 0, .int 0])), (f_on, .inl (cT 0, 3, .inl fon))] sz)) 0 0 (va_A [(h0, .inr (1, [.ref f_studio, .int 1, .int 0, .ref f_taken, .ref f_on, .ref f_queues, .ref f_queued, .ref f_engaged, .ref f_dressing, .ref f_dressed, .ref f_standing, .ref f_stations, .int 0, .ref f_limits, .ref f_worked, .int 0, .int 0, .int 0])), (f_on, .inl (cT 0, 3, .inl fon))] sz) := by
  refine Met.ofW (cc := cX1_onIn) (maxL := 2) (ret := (some .int)) (by decide) rfl ?_
  intro p e s m args below meth c s₁ B hml hv
  obtain ⟨rfl, hsz, hP, hK, hD0, hG⟩ := hv
  have hx := B.exec
  have hb := B.bytes
  have hr := B.returns
  have hts := atoms_spec (ws := wsX1_onIn) B.pre
  have hown : s.vm.findClass RX1 = some m.cls := findClass_of_methodNamed B.named
  have hlocks := B.notSynchronized
  subst hsz
  have hD := hD0.self (sz := s.heap.size)
  generalize hAe : va_A [(h0, .inr (1, [.ref f_studio, .int 1, .int 0, .ref f_taken, .ref f_on, .ref f_queues, .ref f_queued, .ref f_engaged, .ref f_dressing, .ref f_dressed, .ref f_standing, .ref f_stations, .int 0, .ref f_limits, .ref f_worked, .int 0, .int 0, .int 0])), (f_on, .inl (cT 0, 3, .inl fon))] s.heap.size = A at hD ⊢
  have hA : ∀ q : Nat, s.heap.size ≤ q → A q := fun q h => by rw [← hAe]; exact Or.inr h
  have hS : va_S A s.heap s.heap [] := va_S.rf
  have hP : va_P D vwCl [(h0, .inr (1, [.ref f_studio, .int 1, .int 0, .ref f_taken, .ref f_on, .ref f_queues, .ref f_queued, .ref f_engaged, .ref f_dressing, .ref f_dressed, .ref f_standing, .ref f_stations, .int 0, .ref f_limits, .ref f_worked, .int 0, .int 0, .int 0])), (f_on, .inl (cT 0, 3, .inl fon))] s.heap := hP
  have hl := lv_entry ([.ref h0, .int p0]) (n := 2) (Nat.le_of_ble_eq_true rfl)
  rw [lg_entry_eq]
  generalize (lg_sl ([.ref h0, .int p0]) ++ List.replicate (2 - (lg_sl ([.ref h0, .int p0])).length) Slot.unset).toArray = ls at hl ⊢
  have hl : lv_has ls 2 [(0, .ref h0), (1, .int p0)] := hl
  refine lv_aload_n hx hb dX1_onIn_0 rfl (lv_at hl 0 rfl) ?_
  refine va_get (D := D) (ci := 1) (v := .ref f_on) (C := RX1) (T := TX1) (N := 18) hx hb hts (fun _ h => List.mem_cons_of_mem _ (List.mem_append_right _ h)) hown hK hP 0 rfl rfl 4 (by decide) (hts (.fieldLink RX1 15 "PuppetFilm$Floor" "on" "[I") (List.mem_of_getElem? (i := 1) (by decide +kernel))) (fun _ h9 => h9) rfl dX1_onIn_1 ?_
  refine lv_iload_n hx hb dX1_onIn_4 rfl (lv_at hl 1 rfl) ?_
  refine lv_iconst (v := (-1)) hx hb dX1_onIn_5 (by decide) ?_
  have hF := va_free (wc := [(f_on, .inl (cT 0, 3, .inl fon))]) hD hS hA [1] rfl
  refine va_calli (va_runSN (As := [.ref f_on, .int p0, .int (-1)]) (rest := []) ⟨hx, hb, hml, hown, hts⟩ (c_X11_entry l D cT f_on 3 fon p0 (-1) _ (by decide)) ⟨va_cnB 3 hts gX1_onIn_X11_entry_n78 rfl rfl rfl (hG.1 (RX1, 78, yX11_entry) (by decide +kernel)) (hts (.initialized RX11) (List.mem_of_getElem? (i := 3) (by decide +kernel))) (by decide +kernel) ⟨Nat.le_of_ble_eq_true rfl, Nat.le_of_ble_eq_true rfl⟩, (hts (.static yX11_entry) (List.mem_of_getElem? (i := 2) (by decide +kernel))), trivial⟩ (ps_w hP hD hK hG [1] rfl rfl rfl) rfl rfl hl.1 rfl (lv_room (Nat.le_of_ble_eq_true rfl)) dX1_onIn_6 ⟨Nat.le_of_ble_eq_true rfl, Nat.le_of_ble_eq_true rfl⟩) hS (fun q _ h => hF q h) hF (fun r_1 uu9 tt9 H locs ht hvm wr_1 hB hz1 hk1 hS => ?_)
  obtain ⟨hP1, hD1⟩ := hB
  rw [ht] at hP1
  obtain ⟨hP, hD⟩ := va_join (wr := [(h0, .inr (1, [.ref f_studio, .int 1, .int 0, .ref f_taken, .ref f_on, .ref f_queues, .ref f_queued, .ref f_engaged, .ref f_dressing, .ref f_dressed, .ref f_standing, .ref f_stations, .int 0, .ref f_limits, .ref f_worked, .int 0, .int 0, .int 0]))]) (w1 := [(f_on, .inl (cT 0, 3, .inl fon))]) hP hD [1] [0] rfl rfl (by decide) (by decide) hk1 hF hP1 hD1
  have hP : va_P D vwCl [(h0, .inr (1, [.ref f_studio, .int 1, .int 0, .ref f_taken, .ref f_on, .ref f_queues, .ref f_queued, .ref f_engaged, .ref f_dressing, .ref f_dressed, .ref f_standing, .ref f_stations, .int 0, .ref f_limits, .ref f_worked, .int 0, .int 0, .int 0])), (f_on, .inl (cT 0, 3, .inl fon))] _ := hP
  have hD : va_D A [(h0, .inr (1, [.ref f_studio, .int 1, .int 0, .ref f_taken, .ref f_on, .ref f_queues, .ref f_queued, .ref f_engaged, .ref f_dressing, .ref f_dressed, .ref f_standing, .ref f_stations, .int 0, .ref f_limits, .ref f_worked, .int 0, .int 0, .int 0])), (f_on, .inl (cT 0, 3, .inl fon))] := hD
  obtain rfl : r_1 = (-1) := wr_1.trans (ent_out hon (by decide))
  have hP9 := hP.sub (ws' := [(h0, .inr (1, [.ref f_studio, .int 1, .int 0, .ref f_taken, .ref f_on, .ref f_queues, .ref f_queued, .ref f_engaged, .ref f_dressing, .ref f_dressed, .ref f_standing, .ref f_stations, .int 0, .ref f_limits, .ref f_worked, .int 0, .int 0, .int 0])), (f_on, .inl (cT 0, 3, .inl fon))]) [0, 1] rfl
  have hD9 := hD.sub (ws' := [(h0, .inr (1, [.ref f_studio, .int 1, .int 0, .ref f_taken, .ref f_on, .ref f_queues, .ref f_queued, .ref f_engaged, .ref f_dressing, .ref f_dressed, .ref f_standing, .ref f_stations, .int 0, .ref f_limits, .ref f_worked, .int 0, .int 0, .int 0])), (f_on, .inl (cT 0, 3, .inl fon))]) [0, 1] (by decide) rfl
  exact W.iret (v := (-1)) hx hb hr (fun t ht hW => ⟨⟨(-1), (), rfl, rfl, ⟨by rw [ht]; exact hP9, hD9⟩⟩, hS.F ht⟩) hS.2.2 dX1_onIn_9
theorem dX1_queuedIn_0 : decode cX1_queuedIn 0 = .ok (.aload_n 0, 1) := by decide +kernel
theorem dX1_queuedIn_1 : decode cX1_queuedIn 1 = .ok (.getfield 21, 3) := by decide +kernel
theorem dX1_queuedIn_4 : decode cX1_queuedIn 4 = .ok (.iload_n 1, 1) := by decide +kernel
theorem dX1_queuedIn_5 : decode cX1_queuedIn 5 = .ok (.iconst 0, 1) := by decide +kernel
theorem dX1_queuedIn_6 : decode cX1_queuedIn 6 = .ok (.invokestatic 78, 3) := by decide +kernel
theorem dX1_queuedIn_9 : decode cX1_queuedIn 9 = .ok (.ireturn, 1) := by decide +kernel
set_option maxRecDepth 20000 in
theorem ggX1_queuedIn_X11_entry : GoodIn wsX1_queuedIn wsX11_entry := goodIn_r _ [4] (by decide +kernel) (by decide +kernel)
set_option maxRecDepth 20000 in
theorem gX1_queuedIn_X11_entry_n78 : GoodIn wsX1_queuedIn (wsX11_entry) := ggX1_queuedIn_X11_entry
set_option maxHeartbeats 4000000 in
set_option maxRecDepth 100000 in
theorem c_X1_queuedIn (l : Launch) (D : va_G) (cT : Nat → ClassId) (h0 : Nat) (p0 : Int32) (f_studio : Nat) (f_taken : Nat) (f_on : Nat) (f_queues : Nat) (f_queued : Nat) (f_engaged : Nat) (f_dressing : Nat) (f_dressed : Nat) (f_standing : Nat) (f_stations : Nat) (f_limits : Nat) (f_worked : Nat) (sz : Nat)  : Met l yX1_queuedIn wsX1_queuedIn ({ frames := 9, cells := 0, slots := 0, locals := 220 }) (va_Pc [.ref h0, .int p0] (PW D cT [(h0, .inr (1, [.ref f_studio, .int 1, .int 0, .ref f_taken, .ref f_on, .ref f_queues, .ref f_queued, .ref f_engaged, .ref f_dressing, .ref f_dressed, .ref f_standing, .ref f_stations, .int 0, .ref f_limits, .ref f_worked, .int 0, .int 0, .int 0])), (f_queued, .inl (cT 0, 3, .inl (fun _ => 0)))] sz)) (va_Qi (fun (r : Int32) (_ : Unit) => r = 0) (fun (_ : Unit) (t : State) => va_P D vwCl [(h0, .inr (1, [.ref f_studio, .int 1, .int 0, .ref f_taken, .ref f_on, .ref f_queues, .ref f_queued, .ref f_engaged, .ref f_dressing, .ref f_dressed, .ref f_standing, .ref f_stations, .int 0, .ref f_limits, .ref f_worked, .int 0, .int 0, .int 0])), (f_queued, .inl (cT 0, 3, .inl (fun _ => 0)))] t.heap ∧ va_D (va_A [(h0, .inr (1, [.ref f_studio, .int 1, .int 0, .ref f_taken, .ref f_on, .ref f_queues, .ref f_queued, .ref f_engaged, .ref f_dressing, .ref f_dressed, .ref f_standing, .ref f_stations, .int 0, .ref f_limits, .ref f_worked, .int 0, .int 0, .int 0])), (f_queued, .inl (cT 0, 3, .inl (fun _ => 0)))] sz) [(h0, .inr (1, [.ref f_studio, .int 1, .int 0, .ref f_taken, .ref f_on, .ref f_queues, .ref f_queued, .ref f_engaged, .ref f_dressing, .ref f_dressed, .ref f_standing, .ref f_stations, .int 0, .ref f_limits, .ref f_worked, .int 0, .int 0, .int 0])), (f_queued, .inl (cT 0, 3, .inl (fun _ => 0)))]) (va_A [(h0, .inr (1, [.ref f_studio, .int 1, .int 0, .ref f_taken, .ref f_on, .ref f_queues, .ref f_queued, .ref f_engaged, .ref f_dressing, .ref f_dressed, .ref f_standing, .ref f_stations, .int 0, .ref f_limits, .ref f_worked, .int 0, .int 0, .int 0])), (f_queued, .inl (cT 0, 3, .inl (fun _ => 0)))] sz)) 0 0 (va_A [(h0, .inr (1, [.ref f_studio, .int 1, .int 0, .ref f_taken, .ref f_on, .ref f_queues, .ref f_queued, .ref f_engaged, .ref f_dressing, .ref f_dressed, .ref f_standing, .ref f_stations, .int 0, .ref f_limits, .ref f_worked, .int 0, .int 0, .int 0])), (f_queued, .inl (cT 0, 3, .inl (fun _ => 0)))] sz) := by
  refine Met.ofW (cc := cX1_queuedIn) (maxL := 2) (ret := (some .int)) (by decide) rfl ?_
  intro p e s m args below meth c s₁ B hml hv
  obtain ⟨rfl, hsz, hP, hK, hD0, hG⟩ := hv
  have hx := B.exec
  have hb := B.bytes
  have hr := B.returns
  have hts := atoms_spec (ws := wsX1_queuedIn) B.pre
  have hown : s.vm.findClass RX1 = some m.cls := findClass_of_methodNamed B.named
  have hlocks := B.notSynchronized
  subst hsz
  have hD := hD0.self (sz := s.heap.size)
  generalize hAe : va_A [(h0, .inr (1, [.ref f_studio, .int 1, .int 0, .ref f_taken, .ref f_on, .ref f_queues, .ref f_queued, .ref f_engaged, .ref f_dressing, .ref f_dressed, .ref f_standing, .ref f_stations, .int 0, .ref f_limits, .ref f_worked, .int 0, .int 0, .int 0])), (f_queued, .inl (cT 0, 3, .inl (fun _ => 0)))] s.heap.size = A at hD ⊢
  have hA : ∀ q : Nat, s.heap.size ≤ q → A q := fun q h => by rw [← hAe]; exact Or.inr h
  have hS : va_S A s.heap s.heap [] := va_S.rf
  have hP : va_P D vwCl [(h0, .inr (1, [.ref f_studio, .int 1, .int 0, .ref f_taken, .ref f_on, .ref f_queues, .ref f_queued, .ref f_engaged, .ref f_dressing, .ref f_dressed, .ref f_standing, .ref f_stations, .int 0, .ref f_limits, .ref f_worked, .int 0, .int 0, .int 0])), (f_queued, .inl (cT 0, 3, .inl (fun _ => 0)))] s.heap := hP
  have hl := lv_entry ([.ref h0, .int p0]) (n := 2) (Nat.le_of_ble_eq_true rfl)
  rw [lg_entry_eq]
  generalize (lg_sl ([.ref h0, .int p0]) ++ List.replicate (2 - (lg_sl ([.ref h0, .int p0])).length) Slot.unset).toArray = ls at hl ⊢
  have hl : lv_has ls 2 [(0, .ref h0), (1, .int p0)] := hl
  refine lv_aload_n hx hb dX1_queuedIn_0 rfl (lv_at hl 0 rfl) ?_
  refine va_get (D := D) (ci := 1) (v := .ref f_queued) (C := RX1) (T := TX1) (N := 18) hx hb hts (fun _ h => List.mem_cons_of_mem _ (List.mem_append_right _ h)) hown hK hP 0 rfl rfl 6 (by decide) (hts (.fieldLink RX1 21 "PuppetFilm$Floor" "queued" "[I") (List.mem_of_getElem? (i := 1) (by decide +kernel))) (fun _ h9 => h9) rfl dX1_queuedIn_1 ?_
  refine lv_iload_n hx hb dX1_queuedIn_4 rfl (lv_at hl 1 rfl) ?_
  refine lv_iconst (v := 0) hx hb dX1_queuedIn_5 (by decide) ?_
  have hF := va_free (wc := [(f_queued, .inl (cT 0, 3, .inl (fun _ => 0)))]) hD hS hA [1] rfl
  refine va_calli (va_runSN (As := [.ref f_queued, .int p0, .int 0]) (rest := []) ⟨hx, hb, hml, hown, hts⟩ (c_X11_entry l D cT f_queued 3 (fun _ => 0) p0 0 _ (by decide)) ⟨va_cnB 3 hts gX1_queuedIn_X11_entry_n78 rfl rfl rfl (hG.1 (RX1, 78, yX11_entry) (by decide +kernel)) (hts (.initialized RX11) (List.mem_of_getElem? (i := 3) (by decide +kernel))) (by decide +kernel) ⟨Nat.le_of_ble_eq_true rfl, Nat.le_of_ble_eq_true rfl⟩, (hts (.static yX11_entry) (List.mem_of_getElem? (i := 2) (by decide +kernel))), trivial⟩ (ps_w hP hD hK hG [1] rfl rfl rfl) rfl rfl hl.1 rfl (lv_room (Nat.le_of_ble_eq_true rfl)) dX1_queuedIn_6 ⟨Nat.le_of_ble_eq_true rfl, Nat.le_of_ble_eq_true rfl⟩) hS (fun q _ h => hF q h) hF (fun r_1 uu9 tt9 H locs ht hvm wr_1 hB hz1 hk1 hS => ?_)
  obtain ⟨hP1, hD1⟩ := hB
  rw [ht] at hP1
  obtain ⟨hP, hD⟩ := va_join (wr := [(h0, .inr (1, [.ref f_studio, .int 1, .int 0, .ref f_taken, .ref f_on, .ref f_queues, .ref f_queued, .ref f_engaged, .ref f_dressing, .ref f_dressed, .ref f_standing, .ref f_stations, .int 0, .ref f_limits, .ref f_worked, .int 0, .int 0, .int 0]))]) (w1 := [(f_queued, .inl (cT 0, 3, .inl (fun _ => 0)))]) hP hD [1] [0] rfl rfl (by decide) (by decide) hk1 hF hP1 hD1
  have hP : va_P D vwCl [(h0, .inr (1, [.ref f_studio, .int 1, .int 0, .ref f_taken, .ref f_on, .ref f_queues, .ref f_queued, .ref f_engaged, .ref f_dressing, .ref f_dressed, .ref f_standing, .ref f_stations, .int 0, .ref f_limits, .ref f_worked, .int 0, .int 0, .int 0])), (f_queued, .inl (cT 0, 3, .inl (fun _ => 0)))] _ := hP
  have hD : va_D A [(h0, .inr (1, [.ref f_studio, .int 1, .int 0, .ref f_taken, .ref f_on, .ref f_queues, .ref f_queued, .ref f_engaged, .ref f_dressing, .ref f_dressed, .ref f_standing, .ref f_stations, .int 0, .ref f_limits, .ref f_worked, .int 0, .int 0, .int 0])), (f_queued, .inl (cT 0, 3, .inl (fun _ => 0)))] := hD
  obtain rfl : r_1 = 0 := wr_1.trans (ent_out (fun _ _ => rfl) (by decide))
  have hP9 := hP.sub (ws' := [(h0, .inr (1, [.ref f_studio, .int 1, .int 0, .ref f_taken, .ref f_on, .ref f_queues, .ref f_queued, .ref f_engaged, .ref f_dressing, .ref f_dressed, .ref f_standing, .ref f_stations, .int 0, .ref f_limits, .ref f_worked, .int 0, .int 0, .int 0])), (f_queued, .inl (cT 0, 3, .inl (fun _ => 0)))]) [0, 1] rfl
  have hD9 := hD.sub (ws' := [(h0, .inr (1, [.ref f_studio, .int 1, .int 0, .ref f_taken, .ref f_on, .ref f_queues, .ref f_queued, .ref f_engaged, .ref f_dressing, .ref f_dressed, .ref f_standing, .ref f_stations, .int 0, .ref f_limits, .ref f_worked, .int 0, .int 0, .int 0])), (f_queued, .inl (cT 0, 3, .inl (fun _ => 0)))]) [0, 1] (by decide) rfl
  exact W.iret (v := 0) hx hb hr (fun t ht hW => ⟨⟨0, (), rfl, rfl, ⟨by rw [ht]; exact hP9, hD9⟩⟩, hS.F ht⟩) hS.2.2 dX1_queuedIn_9
theorem dX1_standsIn_0 : decode cX1_standsIn 0 = .ok (.aload_n 0, 1) := by decide +kernel
theorem dX1_standsIn_1 : decode cX1_standsIn 1 = .ok (.getfield 33, 3) := by decide +kernel
theorem dX1_standsIn_4 : decode cX1_standsIn 4 = .ok (.iload_n 1, 1) := by decide +kernel
theorem dX1_standsIn_5 : decode cX1_standsIn 5 = .ok (.iconst (-1), 1) := by decide +kernel
theorem dX1_standsIn_6 : decode cX1_standsIn 6 = .ok (.invokestatic 78, 3) := by decide +kernel
theorem dX1_standsIn_9 : decode cX1_standsIn 9 = .ok (.ireturn, 1) := by decide +kernel
set_option maxRecDepth 20000 in
theorem ggX1_standsIn_X11_entry : GoodIn wsX1_standsIn wsX11_entry := goodIn_r _ [4] (by decide +kernel) (by decide +kernel)
set_option maxRecDepth 20000 in
theorem gX1_standsIn_X11_entry_n78 : GoodIn wsX1_standsIn (wsX11_entry) := ggX1_standsIn_X11_entry
set_option maxHeartbeats 4000000 in
set_option maxRecDepth 100000 in
theorem c_X1_standsIn (l : Launch) (D : va_G) (cT : Nat → ClassId) (h0 : Nat) (p0 : Int32) (f_studio : Nat) (f_taken : Nat) (f_on : Nat) (f_queues : Nat) (f_queued : Nat) (f_engaged : Nat) (f_dressing : Nat) (f_dressed : Nat) (f_standing : Nat) (f_stations : Nat) (f_limits : Nat) (f_worked : Nat) (fsg : Nat → Int32) (sz : Nat) (hsg : ∀ k, k < 8 → fsg k = -1) : Met l yX1_standsIn wsX1_standsIn ({ frames := 9, cells := 0, slots := 0, locals := 220 }) (va_Pc [.ref h0, .int p0] (PW D cT [(h0, .inr (1, [.ref f_studio, .int 1, .int 0, .ref f_taken, .ref f_on, .ref f_queues, .ref f_queued, .ref f_engaged, .ref f_dressing, .ref f_dressed, .ref f_standing, .ref f_stations, .int 0, .ref f_limits, .ref f_worked, .int 0, .int 0, .int 0])), (f_standing, .inl (cT 0, 8, .inl fsg))] sz)) (va_Qi (fun (r : Int32) (_ : Unit) => r = (-1)) (fun (_ : Unit) (t : State) => va_P D vwCl [(h0, .inr (1, [.ref f_studio, .int 1, .int 0, .ref f_taken, .ref f_on, .ref f_queues, .ref f_queued, .ref f_engaged, .ref f_dressing, .ref f_dressed, .ref f_standing, .ref f_stations, .int 0, .ref f_limits, .ref f_worked, .int 0, .int 0, .int 0])), (f_standing, .inl (cT 0, 8, .inl fsg))] t.heap ∧ va_D (va_A [(h0, .inr (1, [.ref f_studio, .int 1, .int 0, .ref f_taken, .ref f_on, .ref f_queues, .ref f_queued, .ref f_engaged, .ref f_dressing, .ref f_dressed, .ref f_standing, .ref f_stations, .int 0, .ref f_limits, .ref f_worked, .int 0, .int 0, .int 0])), (f_standing, .inl (cT 0, 8, .inl fsg))] sz) [(h0, .inr (1, [.ref f_studio, .int 1, .int 0, .ref f_taken, .ref f_on, .ref f_queues, .ref f_queued, .ref f_engaged, .ref f_dressing, .ref f_dressed, .ref f_standing, .ref f_stations, .int 0, .ref f_limits, .ref f_worked, .int 0, .int 0, .int 0])), (f_standing, .inl (cT 0, 8, .inl fsg))]) (va_A [(h0, .inr (1, [.ref f_studio, .int 1, .int 0, .ref f_taken, .ref f_on, .ref f_queues, .ref f_queued, .ref f_engaged, .ref f_dressing, .ref f_dressed, .ref f_standing, .ref f_stations, .int 0, .ref f_limits, .ref f_worked, .int 0, .int 0, .int 0])), (f_standing, .inl (cT 0, 8, .inl fsg))] sz)) 0 0 (va_A [(h0, .inr (1, [.ref f_studio, .int 1, .int 0, .ref f_taken, .ref f_on, .ref f_queues, .ref f_queued, .ref f_engaged, .ref f_dressing, .ref f_dressed, .ref f_standing, .ref f_stations, .int 0, .ref f_limits, .ref f_worked, .int 0, .int 0, .int 0])), (f_standing, .inl (cT 0, 8, .inl fsg))] sz) := by
  refine Met.ofW (cc := cX1_standsIn) (maxL := 2) (ret := (some .int)) (by decide) rfl ?_
  intro p e s m args below meth c s₁ B hml hv
  obtain ⟨rfl, hsz, hP, hK, hD0, hG⟩ := hv
  have hx := B.exec
  have hb := B.bytes
  have hr := B.returns
  have hts := atoms_spec (ws := wsX1_standsIn) B.pre
  have hown : s.vm.findClass RX1 = some m.cls := findClass_of_methodNamed B.named
  have hlocks := B.notSynchronized
  subst hsz
  have hD := hD0.self (sz := s.heap.size)
  generalize hAe : va_A [(h0, .inr (1, [.ref f_studio, .int 1, .int 0, .ref f_taken, .ref f_on, .ref f_queues, .ref f_queued, .ref f_engaged, .ref f_dressing, .ref f_dressed, .ref f_standing, .ref f_stations, .int 0, .ref f_limits, .ref f_worked, .int 0, .int 0, .int 0])), (f_standing, .inl (cT 0, 8, .inl fsg))] s.heap.size = A at hD ⊢
  have hA : ∀ q : Nat, s.heap.size ≤ q → A q := fun q h => by rw [← hAe]; exact Or.inr h
  have hS : va_S A s.heap s.heap [] := va_S.rf
  have hP : va_P D vwCl [(h0, .inr (1, [.ref f_studio, .int 1, .int 0, .ref f_taken, .ref f_on, .ref f_queues, .ref f_queued, .ref f_engaged, .ref f_dressing, .ref f_dressed, .ref f_standing, .ref f_stations, .int 0, .ref f_limits, .ref f_worked, .int 0, .int 0, .int 0])), (f_standing, .inl (cT 0, 8, .inl fsg))] s.heap := hP
  have hl := lv_entry ([.ref h0, .int p0]) (n := 2) (Nat.le_of_ble_eq_true rfl)
  rw [lg_entry_eq]
  generalize (lg_sl ([.ref h0, .int p0]) ++ List.replicate (2 - (lg_sl ([.ref h0, .int p0])).length) Slot.unset).toArray = ls at hl ⊢
  have hl : lv_has ls 2 [(0, .ref h0), (1, .int p0)] := hl
  refine lv_aload_n hx hb dX1_standsIn_0 rfl (lv_at hl 0 rfl) ?_
  refine va_get (D := D) (ci := 1) (v := .ref f_standing) (C := RX1) (T := TX1) (N := 18) hx hb hts (fun _ h => List.mem_cons_of_mem _ (List.mem_append_right _ h)) hown hK hP 0 rfl rfl 10 (by decide) (hts (.fieldLink RX1 33 "PuppetFilm$Floor" "standing" "[I") (List.mem_of_getElem? (i := 1) (by decide +kernel))) (fun _ h9 => h9) rfl dX1_standsIn_1 ?_
  refine lv_iload_n hx hb dX1_standsIn_4 rfl (lv_at hl 1 rfl) ?_
  refine lv_iconst (v := (-1)) hx hb dX1_standsIn_5 (by decide) ?_
  have hF := va_free (wc := [(f_standing, .inl (cT 0, 8, .inl fsg))]) hD hS hA [1] rfl
  refine va_calli (va_runSN (As := [.ref f_standing, .int p0, .int (-1)]) (rest := []) ⟨hx, hb, hml, hown, hts⟩ (c_X11_entry l D cT f_standing 8 fsg p0 (-1) _ (by decide)) ⟨va_cnB 3 hts gX1_standsIn_X11_entry_n78 rfl rfl rfl (hG.1 (RX1, 78, yX11_entry) (by decide +kernel)) (hts (.initialized RX11) (List.mem_of_getElem? (i := 3) (by decide +kernel))) (by decide +kernel) ⟨Nat.le_of_ble_eq_true rfl, Nat.le_of_ble_eq_true rfl⟩, (hts (.static yX11_entry) (List.mem_of_getElem? (i := 2) (by decide +kernel))), trivial⟩ (ps_w hP hD hK hG [1] rfl rfl rfl) rfl rfl hl.1 rfl (lv_room (Nat.le_of_ble_eq_true rfl)) dX1_standsIn_6 ⟨Nat.le_of_ble_eq_true rfl, Nat.le_of_ble_eq_true rfl⟩) hS (fun q _ h => hF q h) hF (fun r_1 uu9 tt9 H locs ht hvm wr_1 hB hz1 hk1 hS => ?_)
  obtain ⟨hP1, hD1⟩ := hB
  rw [ht] at hP1
  obtain ⟨hP, hD⟩ := va_join (wr := [(h0, .inr (1, [.ref f_studio, .int 1, .int 0, .ref f_taken, .ref f_on, .ref f_queues, .ref f_queued, .ref f_engaged, .ref f_dressing, .ref f_dressed, .ref f_standing, .ref f_stations, .int 0, .ref f_limits, .ref f_worked, .int 0, .int 0, .int 0]))]) (w1 := [(f_standing, .inl (cT 0, 8, .inl fsg))]) hP hD [1] [0] rfl rfl (by decide) (by decide) hk1 hF hP1 hD1
  have hP : va_P D vwCl [(h0, .inr (1, [.ref f_studio, .int 1, .int 0, .ref f_taken, .ref f_on, .ref f_queues, .ref f_queued, .ref f_engaged, .ref f_dressing, .ref f_dressed, .ref f_standing, .ref f_stations, .int 0, .ref f_limits, .ref f_worked, .int 0, .int 0, .int 0])), (f_standing, .inl (cT 0, 8, .inl fsg))] _ := hP
  have hD : va_D A [(h0, .inr (1, [.ref f_studio, .int 1, .int 0, .ref f_taken, .ref f_on, .ref f_queues, .ref f_queued, .ref f_engaged, .ref f_dressing, .ref f_dressed, .ref f_standing, .ref f_stations, .int 0, .ref f_limits, .ref f_worked, .int 0, .int 0, .int 0])), (f_standing, .inl (cT 0, 8, .inl fsg))] := hD
  obtain rfl : r_1 = (-1) := wr_1.trans (ent_out hsg (by decide))
  have hP9 := hP.sub (ws' := [(h0, .inr (1, [.ref f_studio, .int 1, .int 0, .ref f_taken, .ref f_on, .ref f_queues, .ref f_queued, .ref f_engaged, .ref f_dressing, .ref f_dressed, .ref f_standing, .ref f_stations, .int 0, .ref f_limits, .ref f_worked, .int 0, .int 0, .int 0])), (f_standing, .inl (cT 0, 8, .inl fsg))]) [0, 1] rfl
  have hD9 := hD.sub (ws' := [(h0, .inr (1, [.ref f_studio, .int 1, .int 0, .ref f_taken, .ref f_on, .ref f_queues, .ref f_queued, .ref f_engaged, .ref f_dressing, .ref f_dressed, .ref f_standing, .ref f_stations, .int 0, .ref f_limits, .ref f_worked, .int 0, .int 0, .int 0])), (f_standing, .inl (cT 0, 8, .inl fsg))]) [0, 1] (by decide) rfl
  exact W.iret (v := (-1)) hx hb hr (fun t ht hW => ⟨⟨(-1), (), rfl, rfl, ⟨by rw [ht]; exact hP9, hD9⟩⟩, hS.F ht⟩) hS.2.2 dX1_standsIn_9
theorem dX1_firstIn_0 : decode cX1_firstIn 0 = .ok (.aload_n 0, 1) := by decide +kernel
theorem dX1_firstIn_1 : decode cX1_firstIn 1 = .ok (.iload_n 1, 1) := by decide +kernel
theorem dX1_firstIn_17 : decode cX1_firstIn 17 = .ok (.iconst (-1), 1) := by decide +kernel
theorem dX1_firstIn_18 : decode cX1_firstIn 18 = .ok (.ireturn, 1) := by decide +kernel
theorem dX1_firstIn_2 : decode cX1_firstIn 2 = .ok (.invokevirtual 82, 3) := by decide +kernel
theorem dX1_firstIn_5 : decode cX1_firstIn 5 = .ok (.ifCond .le 12, 3) := by decide +kernel
set_option maxRecDepth 20000 in
theorem ggX1_firstIn_X1_queuedIn : GoodIn wsX1_firstIn wsX1_queuedIn := goodIn_r _ [5, 6, 7, 8, 9, 17, 18, 19, 20, 21, 22, 23, 24, 25, 26, 27, 28, 29, 30, 31, 32, 33, 34] (by decide +kernel) (by decide +kernel)
set_option maxRecDepth 20000 in
theorem gX1_firstIn_X1_queuedIn : GoodIn wsX1_firstIn (wsV RX1 82 RX1 yX1_queuedIn wsX1_queuedIn) := goodIn_app (goodIn_of _ (by decide +kernel)) ggX1_firstIn_X1_queuedIn
set_option maxHeartbeats 4000000 in
set_option maxRecDepth 100000 in
theorem c_X1_firstIn (l : Launch) (D : va_G) (cT : Nat → ClassId) (h0 : Nat) (p0 : Int32) (f_studio : Nat) (f_taken : Nat) (f_on : Nat) (f_queues : Nat) (f_queued : Nat) (f_engaged : Nat) (f_dressing : Nat) (f_dressed : Nat) (f_standing : Nat) (f_stations : Nat) (f_limits : Nat) (f_worked : Nat) (sz : Nat)  : Met l yX1_firstIn wsX1_firstIn ({ frames := 10, cells := 0, slots := 0, locals := 280 }) (va_Pc [.ref h0, .int p0] (PW D cT [(h0, .inr (1, [.ref f_studio, .int 1, .int 0, .ref f_taken, .ref f_on, .ref f_queues, .ref f_queued, .ref f_engaged, .ref f_dressing, .ref f_dressed, .ref f_standing, .ref f_stations, .int 0, .ref f_limits, .ref f_worked, .int 0, .int 0, .int 0])), (f_queued, .inl (cT 0, 3, .inl (fun _ => 0)))] sz)) (va_Qi (fun (r : Int32) (_ : Unit) => r = (-1)) (fun (_ : Unit) (_ : State) => True) (va_A [(h0, .inr (1, [.ref f_studio, .int 1, .int 0, .ref f_taken, .ref f_on, .ref f_queues, .ref f_queued, .ref f_engaged, .ref f_dressing, .ref f_dressed, .ref f_standing, .ref f_stations, .int 0, .ref f_limits, .ref f_worked, .int 0, .int 0, .int 0])), (f_queued, .inl (cT 0, 3, .inl (fun _ => 0)))] sz)) 0 0 (va_A [(h0, .inr (1, [.ref f_studio, .int 1, .int 0, .ref f_taken, .ref f_on, .ref f_queues, .ref f_queued, .ref f_engaged, .ref f_dressing, .ref f_dressed, .ref f_standing, .ref f_stations, .int 0, .ref f_limits, .ref f_worked, .int 0, .int 0, .int 0])), (f_queued, .inl (cT 0, 3, .inl (fun _ => 0)))] sz) := by
  refine Met.ofW (cc := cX1_firstIn) (maxL := 2) (ret := (some .int)) (by decide) rfl ?_
  intro p e s m args below meth c s₁ B hml hv
  obtain ⟨rfl, hsz, hP, hK, hD0, hG⟩ := hv
  have hx := B.exec
  have hb := B.bytes
  have hr := B.returns
  have hts := atoms_spec (ws := wsX1_firstIn) B.pre
  have hown : s.vm.findClass RX1 = some m.cls := findClass_of_methodNamed B.named
  have hlocks := B.notSynchronized
  subst hsz
  have hD := hD0.self (sz := s.heap.size)
  generalize hAe : va_A [(h0, .inr (1, [.ref f_studio, .int 1, .int 0, .ref f_taken, .ref f_on, .ref f_queues, .ref f_queued, .ref f_engaged, .ref f_dressing, .ref f_dressed, .ref f_standing, .ref f_stations, .int 0, .ref f_limits, .ref f_worked, .int 0, .int 0, .int 0])), (f_queued, .inl (cT 0, 3, .inl (fun _ => 0)))] s.heap.size = A at hD ⊢
  have hA : ∀ q : Nat, s.heap.size ≤ q → A q := fun q h => by rw [← hAe]; exact Or.inr h
  have hS : va_S A s.heap s.heap [] := va_S.rf
  have hP : va_P D vwCl [(h0, .inr (1, [.ref f_studio, .int 1, .int 0, .ref f_taken, .ref f_on, .ref f_queues, .ref f_queued, .ref f_engaged, .ref f_dressing, .ref f_dressed, .ref f_standing, .ref f_stations, .int 0, .ref f_limits, .ref f_worked, .int 0, .int 0, .int 0])), (f_queued, .inl (cT 0, 3, .inl (fun _ => 0)))] s.heap := hP
  have hl := lv_entry ([.ref h0, .int p0]) (n := 2) (Nat.le_of_ble_eq_true rfl)
  rw [lg_entry_eq]
  generalize (lg_sl ([.ref h0, .int p0]) ++ List.replicate (2 - (lg_sl ([.ref h0, .int p0])).length) Slot.unset).toArray = ls at hl ⊢
  have hl : lv_has ls 2 [(0, .ref h0), (1, .int p0)] := hl
  refine lv_aload_n hx hb dX1_firstIn_0 rfl (lv_at hl 0 rfl) ?_
  refine lv_iload_n hx hb dX1_firstIn_1 rfl (lv_at hl 1 rfl) ?_
  have hF := va_free (wc := [(h0, .inr (1, [.ref f_studio, .int 1, .int 0, .ref f_taken, .ref f_on, .ref f_queues, .ref f_queued, .ref f_engaged, .ref f_dressing, .ref f_dressed, .ref f_standing, .ref f_stations, .int 0, .ref f_limits, .ref f_worked, .int 0, .int 0, .int 0])), (f_queued, .inl (cT 0, 3, .inl (fun _ => 0)))]) hD hS hA [0, 1] rfl
  refine va_calli (va_runV (As := [.int p0]) (rest := []) ⟨hx, hb, hml, hown, hts⟩ (c_X1_queuedIn l D cT h0 p0 f_studio f_taken f_on f_queues f_queued f_engaged f_dressing f_dressed f_standing f_stations f_limits f_worked _ ) (cwV 1 hts gX1_firstIn_X1_queuedIn rfl rfl rfl (by decide +kernel) ⟨Nat.le_of_ble_eq_true rfl, Nat.le_of_ble_eq_true rfl⟩) (pv_w hP hD hK hG [0, 1] rfl rfl rfl 0 rfl rfl) rfl rfl hl.1 rfl (lv_room (Nat.le_of_ble_eq_true rfl)) dX1_firstIn_2 ⟨Nat.le_of_ble_eq_true rfl, Nat.le_of_ble_eq_true rfl⟩) hS (fun q _ h => hF q h) hF (fun r_1 uu9 tt9 H locs ht hvm wr_1 hB hz1 hk1 hS => ?_)
  obtain ⟨hP1, hD1⟩ := hB
  rw [ht] at hP1
  obtain ⟨hP, hD⟩ := va_join (wr := []) (w1 := [(h0, .inr (1, [.ref f_studio, .int 1, .int 0, .ref f_taken, .ref f_on, .ref f_queues, .ref f_queued, .ref f_engaged, .ref f_dressing, .ref f_dressed, .ref f_standing, .ref f_stations, .int 0, .ref f_limits, .ref f_worked, .int 0, .int 0, .int 0])), (f_queued, .inl (cT 0, 3, .inl (fun _ => 0)))]) hP hD [0, 1] [] rfl rfl (by decide) (by decide) hk1 hF hP1 hD1
  have hP : va_P D vwCl [(h0, .inr (1, [.ref f_studio, .int 1, .int 0, .ref f_taken, .ref f_on, .ref f_queues, .ref f_queued, .ref f_engaged, .ref f_dressing, .ref f_dressed, .ref f_standing, .ref f_stations, .int 0, .ref f_limits, .ref f_worked, .int 0, .int 0, .int 0])), (f_queued, .inl (cT 0, 3, .inl (fun _ => 0)))] _ := hP
  have hD : va_D A [(h0, .inr (1, [.ref f_studio, .int 1, .int 0, .ref f_taken, .ref f_on, .ref f_queues, .ref f_queued, .ref f_engaged, .ref f_dressing, .ref f_dressed, .ref f_standing, .ref f_stations, .int 0, .ref f_limits, .ref f_worked, .int 0, .int 0, .int 0])), (f_queued, .inl (cT 0, 3, .inl (fun _ => 0)))] := hD
  obtain rfl : r_1 = 0 := wr_1.trans (rfl)
  refine lv_if_le (tgt := 17) hx hb dX1_firstIn_5 (by decide) (fun _ => ?_) (fun c9 => absurd c9 (by decide))
  refine lv_iconst (v := (-1)) hx hb dX1_firstIn_17 (by decide) ?_
  exact W.iret (v := (-1)) hx hb hr (fun t ht hW => ⟨⟨(-1), (), rfl, rfl, trivial⟩, hS.F ht⟩) hS.2.2 dX1_firstIn_18
theorem dX1_dressedIn_0 : decode cX1_dressedIn 0 = .ok (.aload_n 0, 1) := by decide +kernel
theorem dX1_dressedIn_1 : decode cX1_dressedIn 1 = .ok (.getfield 45, 3) := by decide +kernel
theorem dX1_dressedIn_12 : decode cX1_dressedIn 12 = .ok (.astore_n 2, 1) := by decide +kernel
theorem dX1_dressedIn_13 : decode cX1_dressedIn 13 = .ok (.aload_n 2, 1) := by decide +kernel
theorem dX1_dressedIn_14 : decode cX1_dressedIn 14 = .ok (.ifnull 31, 3) := by decide +kernel
theorem dX1_dressedIn_4 : decode cX1_dressedIn 4 = .ok (.aload_n 0, 1) := by decide +kernel
theorem dX1_dressedIn_45 : decode cX1_dressedIn 45 = .ok (.iconst (-1), 1) := by decide +kernel
theorem dX1_dressedIn_46 : decode cX1_dressedIn 46 = .ok (.ireturn, 1) := by decide +kernel
theorem dX1_dressedIn_5 : decode cX1_dressedIn 5 = .ok (.iload_n 1, 1) := by decide +kernel
theorem dX1_dressedIn_6 : decode cX1_dressedIn 6 = .ok (.invokevirtual 90, 3) := by decide +kernel
theorem dX1_dressedIn_9 : decode cX1_dressedIn 9 = .ok (.invokevirtual 93, 3) := by decide +kernel
set_option maxRecDepth 20000 in
theorem ggX1_dressedIn_X1_onIn : GoodIn wsX1_dressedIn wsX1_onIn := goodIn_r _ [9, 10, 11, 12, 13, 20, 21, 22, 23, 24, 25, 26, 27, 28, 29, 30, 31, 32, 33, 34, 35, 36, 37] (by decide +kernel) (by decide +kernel)
set_option maxRecDepth 20000 in
theorem gX1_dressedIn_X1_onIn : GoodIn wsX1_dressedIn (wsV RX1 90 RX1 yX1_onIn wsX1_onIn) := goodIn_app (goodIn_of _ (by decide +kernel)) ggX1_dressedIn_X1_onIn
set_option maxRecDepth 20000 in
theorem ggX1_dressedIn_X8_shotAt : GoodIn wsX1_dressedIn wsX8_shotAt := goodIn_r _ [18, 19, 53, 54, 55, 56, 57, 58, 59] (by decide +kernel) (by decide +kernel)
set_option maxRecDepth 20000 in
theorem gX1_dressedIn_X8_shotAt : GoodIn wsX1_dressedIn (wsV RX1 93 RX8 yX8_shotAt wsX8_shotAt) := goodIn_app (goodIn_of _ (by decide +kernel)) ggX1_dressedIn_X8_shotAt
set_option maxHeartbeats 4000000 in
set_option maxRecDepth 100000 in
theorem c_X1_dressedIn (l : Launch) (D : va_G) (cT : Nat → ClassId) (h0 : Nat) (p0 : Int32) (f_studio : Nat) (f_taken : Nat) (f_on : Nat) (f_queues : Nat) (f_queued : Nat) (f_engaged : Nat) (f_dressing : Nat) (f_dressed : Nat) (f_standing : Nat) (f_stations : Nat) (f_limits : Nat) (f_worked : Nat) (fon : Nat → Int32) (s_puppets : Nat) (s_shots : Nat) (s_sounds : Nat) (s_rates : Nat) (s_dresses : Nat) (sz : Nat) (hon : ∀ k, k < 3 → fon k = -1) : Met l yX1_dressedIn wsX1_dressedIn ({ frames := 10, cells := 0, slots := 0, locals := 280 }) (va_Pc [.ref h0, .int p0] (PW D cT [(h0, .inr (1, [.ref f_studio, .int 1, .int 0, .ref f_taken, .ref f_on, .ref f_queues, .ref f_queued, .ref f_engaged, .ref f_dressing, .ref f_dressed, .ref f_standing, .ref f_stations, .int 0, .ref f_limits, .ref f_worked, .int 0, .int 0, .int 0])), (f_on, .inl (cT 0, 3, .inl fon)), (f_studio, .inr (8, [.ref s_puppets, .int 0, .ref s_shots, .int 0, .ref s_sounds, .ref s_rates, .ref s_dresses])), (s_shots, .inl (cT 5, 12, .inr (.inr (.inr (.inr (fun _ => none))))))] sz)) (va_Qi (fun (r : Int32) (_ : Unit) => r = (-1)) (fun (_ : Unit) (_ : State) => True) (va_A [(h0, .inr (1, [.ref f_studio, .int 1, .int 0, .ref f_taken, .ref f_on, .ref f_queues, .ref f_queued, .ref f_engaged, .ref f_dressing, .ref f_dressed, .ref f_standing, .ref f_stations, .int 0, .ref f_limits, .ref f_worked, .int 0, .int 0, .int 0])), (f_on, .inl (cT 0, 3, .inl fon)), (f_studio, .inr (8, [.ref s_puppets, .int 0, .ref s_shots, .int 0, .ref s_sounds, .ref s_rates, .ref s_dresses])), (s_shots, .inl (cT 5, 12, .inr (.inr (.inr (.inr (fun _ => none))))))] sz)) 0 0 (va_A [(h0, .inr (1, [.ref f_studio, .int 1, .int 0, .ref f_taken, .ref f_on, .ref f_queues, .ref f_queued, .ref f_engaged, .ref f_dressing, .ref f_dressed, .ref f_standing, .ref f_stations, .int 0, .ref f_limits, .ref f_worked, .int 0, .int 0, .int 0])), (f_on, .inl (cT 0, 3, .inl fon)), (f_studio, .inr (8, [.ref s_puppets, .int 0, .ref s_shots, .int 0, .ref s_sounds, .ref s_rates, .ref s_dresses])), (s_shots, .inl (cT 5, 12, .inr (.inr (.inr (.inr (fun _ => none))))))] sz) := by
  refine Met.ofW (cc := cX1_dressedIn) (maxL := 3) (ret := (some .int)) (by decide) rfl ?_
  intro p e s m args below meth c s₁ B hml hv
  obtain ⟨rfl, hsz, hP, hK, hD0, hG⟩ := hv
  have hx := B.exec
  have hb := B.bytes
  have hr := B.returns
  have hts := atoms_spec (ws := wsX1_dressedIn) B.pre
  have hown : s.vm.findClass RX1 = some m.cls := findClass_of_methodNamed B.named
  have hlocks := B.notSynchronized
  subst hsz
  have hD := hD0.self (sz := s.heap.size)
  generalize hAe : va_A [(h0, .inr (1, [.ref f_studio, .int 1, .int 0, .ref f_taken, .ref f_on, .ref f_queues, .ref f_queued, .ref f_engaged, .ref f_dressing, .ref f_dressed, .ref f_standing, .ref f_stations, .int 0, .ref f_limits, .ref f_worked, .int 0, .int 0, .int 0])), (f_on, .inl (cT 0, 3, .inl fon)), (f_studio, .inr (8, [.ref s_puppets, .int 0, .ref s_shots, .int 0, .ref s_sounds, .ref s_rates, .ref s_dresses])), (s_shots, .inl (cT 5, 12, .inr (.inr (.inr (.inr (fun _ => none))))))] s.heap.size = A at hD ⊢
  have hA : ∀ q : Nat, s.heap.size ≤ q → A q := fun q h => by rw [← hAe]; exact Or.inr h
  have hS : va_S A s.heap s.heap [] := va_S.rf
  have hP : va_P D vwCl [(h0, .inr (1, [.ref f_studio, .int 1, .int 0, .ref f_taken, .ref f_on, .ref f_queues, .ref f_queued, .ref f_engaged, .ref f_dressing, .ref f_dressed, .ref f_standing, .ref f_stations, .int 0, .ref f_limits, .ref f_worked, .int 0, .int 0, .int 0])), (f_on, .inl (cT 0, 3, .inl fon)), (f_studio, .inr (8, [.ref s_puppets, .int 0, .ref s_shots, .int 0, .ref s_sounds, .ref s_rates, .ref s_dresses])), (s_shots, .inl (cT 5, 12, .inr (.inr (.inr (.inr (fun _ => none))))))] s.heap := hP
  have hl := lv_entry ([.ref h0, .int p0]) (n := 3) (Nat.le_of_ble_eq_true rfl)
  rw [lg_entry_eq]
  generalize (lg_sl ([.ref h0, .int p0]) ++ List.replicate (3 - (lg_sl ([.ref h0, .int p0])).length) Slot.unset).toArray = ls at hl ⊢
  have hl : lv_has ls 3 [(0, .ref h0), (1, .int p0)] := hl
  refine lv_aload_n hx hb dX1_dressedIn_0 rfl (lv_at hl 0 rfl) ?_
  refine va_get (D := D) (ci := 1) (v := .ref f_studio) (C := RX1) (T := TX1) (N := 18) hx hb hts (fun _ h => List.mem_cons_of_mem _ (List.mem_append_left _ (List.mem_append_left _ (List.mem_append_right _ h)))) hown hK hP 0 rfl rfl 0 (by decide) (hts (.fieldLink RX1 45 "PuppetFilm$Floor" "studio" "LPuppetFilm$Studio;") (List.mem_of_getElem? (i := 1) (by decide +kernel))) (fun _ h9 => h9) rfl dX1_dressedIn_1 ?_
  refine lv_aload_n hx hb dX1_dressedIn_4 rfl (lv_at hl 0 rfl) ?_
  refine lv_iload_n hx hb dX1_dressedIn_5 rfl (lv_at hl 1 rfl) ?_
  have hF := va_free (wc := [(h0, .inr (1, [.ref f_studio, .int 1, .int 0, .ref f_taken, .ref f_on, .ref f_queues, .ref f_queued, .ref f_engaged, .ref f_dressing, .ref f_dressed, .ref f_standing, .ref f_stations, .int 0, .ref f_limits, .ref f_worked, .int 0, .int 0, .int 0])), (f_on, .inl (cT 0, 3, .inl fon))]) hD hS hA [0, 1] rfl
  refine va_calli (va_runV (As := [.int p0]) (rest := [.ref f_studio]) ⟨hx, hb, hml, hown, hts⟩ (c_X1_onIn l D cT h0 p0 f_studio f_taken f_on f_queues f_queued f_engaged f_dressing f_dressed f_standing f_stations f_limits f_worked fon _ (by assumption)) (cwV 1 hts gX1_dressedIn_X1_onIn rfl rfl rfl (by decide +kernel) ⟨Nat.le_of_ble_eq_true rfl, Nat.le_of_ble_eq_true rfl⟩) (pv_w hP hD hK hG [0, 1] rfl rfl rfl 0 rfl rfl) rfl rfl hl.1 rfl (lv_room (Nat.le_of_ble_eq_true rfl)) dX1_dressedIn_6 ⟨Nat.le_of_ble_eq_true rfl, Nat.le_of_ble_eq_true rfl⟩) hS (fun q _ h => hF q h) hF (fun r_1 uu9 tt9 H locs ht hvm wr_1 hB hz1 hk1 hS => ?_)
  obtain ⟨hP1, hD1⟩ := hB
  rw [ht] at hP1
  obtain ⟨hP, hD⟩ := va_join (wr := [(f_studio, .inr (8, [.ref s_puppets, .int 0, .ref s_shots, .int 0, .ref s_sounds, .ref s_rates, .ref s_dresses])), (s_shots, .inl (cT 5, 12, .inr (.inr (.inr (.inr (fun _ => none))))))]) (w1 := [(h0, .inr (1, [.ref f_studio, .int 1, .int 0, .ref f_taken, .ref f_on, .ref f_queues, .ref f_queued, .ref f_engaged, .ref f_dressing, .ref f_dressed, .ref f_standing, .ref f_stations, .int 0, .ref f_limits, .ref f_worked, .int 0, .int 0, .int 0])), (f_on, .inl (cT 0, 3, .inl fon))]) hP hD [0, 1] [2, 3] rfl rfl (by decide) (by decide) hk1 hF hP1 hD1
  have hP : va_P D vwCl [(f_studio, .inr (8, [.ref s_puppets, .int 0, .ref s_shots, .int 0, .ref s_sounds, .ref s_rates, .ref s_dresses])), (s_shots, .inl (cT 5, 12, .inr (.inr (.inr (.inr (fun _ => none)))))), (h0, .inr (1, [.ref f_studio, .int 1, .int 0, .ref f_taken, .ref f_on, .ref f_queues, .ref f_queued, .ref f_engaged, .ref f_dressing, .ref f_dressed, .ref f_standing, .ref f_stations, .int 0, .ref f_limits, .ref f_worked, .int 0, .int 0, .int 0])), (f_on, .inl (cT 0, 3, .inl fon))] _ := hP
  have hD : va_D A [(f_studio, .inr (8, [.ref s_puppets, .int 0, .ref s_shots, .int 0, .ref s_sounds, .ref s_rates, .ref s_dresses])), (s_shots, .inl (cT 5, 12, .inr (.inr (.inr (.inr (fun _ => none)))))), (h0, .inr (1, [.ref f_studio, .int 1, .int 0, .ref f_taken, .ref f_on, .ref f_queues, .ref f_queued, .ref f_engaged, .ref f_dressing, .ref f_dressed, .ref f_standing, .ref f_stations, .int 0, .ref f_limits, .ref f_worked, .int 0, .int 0, .int 0])), (f_on, .inl (cT 0, 3, .inl fon))] := hD
  obtain rfl : r_1 = (-1) := wr_1.trans (rfl)
  have hF := va_free (wc := [(f_studio, .inr (8, [.ref s_puppets, .int 0, .ref s_shots, .int 0, .ref s_sounds, .ref s_rates, .ref s_dresses])), (s_shots, .inl (cT 5, 12, .inr (.inr (.inr (.inr (fun _ => none))))))]) hD hS hA [0, 1] rfl
  refine va_callq (va_runV (As := [.int (-1)]) (rest := []) ⟨hx, hb, hml, hown, hts⟩ (c_X8_shotAt l D cT f_studio (-1) s_puppets s_shots s_sounds s_rates s_dresses _ ) (cwV 1 hts gX1_dressedIn_X8_shotAt rfl rfl rfl (by decide +kernel) ⟨Nat.le_of_ble_eq_true rfl, Nat.le_of_ble_eq_true rfl⟩) (pv_w hP hD hK hG [0, 1] rfl rfl rfl 0 rfl rfl) rfl rfl hl.1 rfl (lv_room (Nat.le_of_ble_eq_true rfl)) dX1_dressedIn_9 ⟨Nat.le_of_ble_eq_true rfl, Nat.le_of_ble_eq_true rfl⟩) hS (fun q _ h => hF q h) hF (fun r_2 uu9 tt9 H locs ht hvm wr_2 hB hz1 hk1 hS => ?_)
  obtain ⟨hP1, hD1⟩ := hB
  rw [ht] at hP1
  obtain ⟨hP, hD⟩ := va_join (wr := [(h0, .inr (1, [.ref f_studio, .int 1, .int 0, .ref f_taken, .ref f_on, .ref f_queues, .ref f_queued, .ref f_engaged, .ref f_dressing, .ref f_dressed, .ref f_standing, .ref f_stations, .int 0, .ref f_limits, .ref f_worked, .int 0, .int 0, .int 0])), (f_on, .inl (cT 0, 3, .inl fon))]) (w1 := [(f_studio, .inr (8, [.ref s_puppets, .int 0, .ref s_shots, .int 0, .ref s_sounds, .ref s_rates, .ref s_dresses])), (s_shots, .inl (cT 5, 12, .inr (.inr (.inr (.inr (fun _ => none))))))]) hP hD [0, 1] [2, 3] rfl rfl (by decide) (by decide) hk1 hF hP1 hD1
  have hP : va_P D vwCl [(h0, .inr (1, [.ref f_studio, .int 1, .int 0, .ref f_taken, .ref f_on, .ref f_queues, .ref f_queued, .ref f_engaged, .ref f_dressing, .ref f_dressed, .ref f_standing, .ref f_stations, .int 0, .ref f_limits, .ref f_worked, .int 0, .int 0, .int 0])), (f_on, .inl (cT 0, 3, .inl fon)), (f_studio, .inr (8, [.ref s_puppets, .int 0, .ref s_shots, .int 0, .ref s_sounds, .ref s_rates, .ref s_dresses])), (s_shots, .inl (cT 5, 12, .inr (.inr (.inr (.inr (fun _ => none))))))] _ := hP
  have hD : va_D A [(h0, .inr (1, [.ref f_studio, .int 1, .int 0, .ref f_taken, .ref f_on, .ref f_queues, .ref f_queued, .ref f_engaged, .ref f_dressing, .ref f_dressed, .ref f_standing, .ref f_stations, .int 0, .ref f_limits, .ref f_worked, .int 0, .int 0, .int 0])), (f_on, .inl (cT 0, 3, .inl fon)), (f_studio, .inr (8, [.ref s_puppets, .int 0, .ref s_shots, .int 0, .ref s_sounds, .ref s_rates, .ref s_dresses])), (s_shots, .inl (cT 5, 12, .inr (.inr (.inr (.inr (fun _ => none))))))] := hD
  obtain rfl : r_2 = none := wr_2
  refine W.eq (g2 := F0 m 12 ls [.null]) rfl ?_
  refine lv_astore_nN (lv' := [(2, .null), (0, .ref h0), (1, .int p0)]) hx hb dX1_dressedIn_12 rfl hl (by decide) rfl (fun ls hl => ?_)
  refine lv_aload_nN hx hb dX1_dressedIn_13 rfl (lv_at hl 0 rfl) ?_
  refine lv_ifnullN (tgt := 45) hx hb dX1_dressedIn_14 (by decide) ?_
  refine lv_iconst (v := (-1)) hx hb dX1_dressedIn_45 (by decide) ?_
  exact W.iret (v := (-1)) hx hb hr (fun t ht hW => ⟨⟨(-1), (), rfl, rfl, trivial⟩, hS.F ht⟩) hS.2.2 dX1_dressedIn_46
theorem dX11_stands_0 : decode cX11_stands 0 = .ok (.iload_n 1, 1) := by decide +kernel
theorem dX11_stands_1 : decode cX11_stands 1 = .ok (.iconst 0, 1) := by decide +kernel
theorem dX11_stands_10 : decode cX11_stands 10 = .ok (.aload_n 0, 1) := by decide +kernel
theorem dX11_stands_11 : decode cX11_stands 11 = .ok (.getfield 60, 3) := by decide +kernel
theorem dX11_stands_14 : decode cX11_stands 14 = .ok (.iload_n 1, 1) := by decide +kernel
theorem dX11_stands_15 : decode cX11_stands 15 = .ok (.invokevirtual 391, 3) := by decide +kernel
theorem dX11_stands_18 : decode cX11_stands 18 = .ok (.ireturn, 1) := by decide +kernel
theorem dX11_stands_2 : decode cX11_stands 2 = .ok (.bipush 7, 2) := by decide +kernel
theorem dX11_stands_4 : decode cX11_stands 4 = .ok (.invokestatic 97, 3) := by decide +kernel
theorem dX11_stands_7 : decode cX11_stands 7 = .ok (.invokestatic 93, 3) := by decide +kernel
set_option maxRecDepth 20000 in
theorem ggX11_stands_X11_need : GoodIn wsX11_stands wsX11_need := goodIn_ca (goodIn_r _ [8, 9, 10] (by decide +kernel) (by decide +kernel)) (goodIn_sub (fun _ h => List.mem_cons_of_mem _ (List.mem_append_right _ h)) (by decide +kernel))
set_option maxRecDepth 20000 in
theorem gX11_stands_X11_need : GoodIn wsX11_stands (va_wsS RX11 93 yX11_need wsX11_need) := goodIn_app (goodIn_of _ (by decide +kernel)) ggX11_stands_X11_need
set_option maxRecDepth 20000 in
theorem ggX11_stands_X11_within : GoodIn wsX11_stands wsX11_within := goodIn_r _ [5] (by decide +kernel) (by decide +kernel)
set_option maxRecDepth 20000 in
theorem gX11_stands_X11_within : GoodIn wsX11_stands (va_wsS RX11 97 yX11_within wsX11_within) := goodIn_app (goodIn_of _ (by decide +kernel)) ggX11_stands_X11_within
set_option maxRecDepth 20000 in
theorem ggX11_stands_X1_standsIn : GoodIn wsX11_stands wsX1_standsIn := goodIn_r _ [15, 16, 17, 4, 18, 30, 31, 32, 33, 34, 35, 36, 37, 38, 39, 40, 41, 42, 43, 44, 45, 46, 47] (by decide +kernel) (by decide +kernel)
set_option maxRecDepth 20000 in
theorem gX11_stands_X1_standsIn : GoodIn wsX11_stands (wsV RX11 391 RX1 yX1_standsIn wsX1_standsIn) := goodIn_app (goodIn_of _ (by decide +kernel)) ggX11_stands_X1_standsIn
set_option maxHeartbeats 4000000 in
set_option maxRecDepth 100000 in
theorem c_X11_stands (l : Launch) (hst : l.stackTraces = false) (D : va_G) (cT : Nat → ClassId) (h0 : Nat) (p0 : Int32) (x_studio : Nat) (x_script : Nat) (x_teller : Nat) (x_planner : Nat) (x_plan : Nat) (x_drifts : Nat) (x_floor : Nat) (x_trial : Nat) (x_tape : Nat) (f_studio : Nat) (f_taken : Nat) (f_on : Nat) (f_queues : Nat) (f_queued : Nat) (f_engaged : Nat) (f_dressing : Nat) (f_dressed : Nat) (f_standing : Nat) (f_stations : Nat) (f_limits : Nat) (f_worked : Nat) (fsg : Nat → Int32) (sz : Nat) (hsg : ∀ k, k < 8 → fsg k = -1) : vx_Met l yX11_stands wsX11_stands ({ frames := 10, cells := 1, slots := 6, locals := 280 }) (va_Pc [.ref h0, .int p0] (PZ D cT [(h0, .inr (11, [.ref x_studio, .ref x_script, .ref x_teller, .ref x_planner, .ref x_plan, .ref x_drifts, .ref x_floor, .ref x_trial, .ref x_tape, .int 0, .int (-1)])), (x_floor, .inr (1, [.ref f_studio, .int 1, .int 0, .ref f_taken, .ref f_on, .ref f_queues, .ref f_queued, .ref f_engaged, .ref f_dressing, .ref f_dressed, .ref f_standing, .ref f_stations, .int 0, .ref f_limits, .ref f_worked, .int 0, .int 0, .int 0])), (f_standing, .inl (cT 0, 8, .inl fsg))] sz)) (va_Qi (fun (r : Int32) (_ : Unit) => th_stands p0 = 0 ∧ r = -1) (fun (_ : Unit) (_ : State) => True) (va_A [(h0, .inr (11, [.ref x_studio, .ref x_script, .ref x_teller, .ref x_planner, .ref x_plan, .ref x_drifts, .ref x_floor, .ref x_trial, .ref x_tape, .int 0, .int (-1)])), (x_floor, .inr (1, [.ref f_studio, .int 1, .int 0, .ref f_taken, .ref f_on, .ref f_queues, .ref f_queued, .ref f_engaged, .ref f_dressing, .ref f_dressed, .ref f_standing, .ref f_stations, .int 0, .ref f_limits, .ref f_worked, .int 0, .int 0, .int 0])), (f_standing, .inl (cT 0, 8, .inl fsg))] sz)) (vx_X (fun _ : Unit => True) (fun (E : String) (_ : Unit) (_ : State) => (E = "java/lang/IllegalArgumentException" ∧ th_stands p0 = 1)) (va_A [(h0, .inr (11, [.ref x_studio, .ref x_script, .ref x_teller, .ref x_planner, .ref x_plan, .ref x_drifts, .ref x_floor, .ref x_trial, .ref x_tape, .int 0, .int (-1)])), (x_floor, .inr (1, [.ref f_studio, .int 1, .int 0, .ref f_taken, .ref f_on, .ref f_queues, .ref f_queued, .ref f_engaged, .ref f_dressing, .ref f_dressed, .ref f_standing, .ref f_stations, .int 0, .ref f_limits, .ref f_worked, .int 0, .int 0, .int 0])), (f_standing, .inl (cT 0, 8, .inl fsg))] sz)) 1 6 (va_A [(h0, .inr (11, [.ref x_studio, .ref x_script, .ref x_teller, .ref x_planner, .ref x_plan, .ref x_drifts, .ref x_floor, .ref x_trial, .ref x_tape, .int 0, .int (-1)])), (x_floor, .inr (1, [.ref f_studio, .int 1, .int 0, .ref f_taken, .ref f_on, .ref f_queues, .ref f_queued, .ref f_engaged, .ref f_dressing, .ref f_dressed, .ref f_standing, .ref f_stations, .int 0, .ref f_limits, .ref f_worked, .int 0, .int 0, .int 0])), (f_standing, .inl (cT 0, 8, .inl fsg))] sz) := by
  refine vx_ofW (cc := cX11_stands) (maxL := 2) (ret := (some .int)) (by decide) rfl ?_
  intro p e s m args below meth c s₁ B hml hex hv
  obtain ⟨rfl, ⟨hsz, hP, hK, hD0, hG⟩, hZ⟩ := hv
  have hx := B.exec
  have hb := B.bytes
  have hr := B.returns
  have hts := atoms_spec (ws := wsX11_stands) B.pre
  have hown : s.vm.findClass RX11 = some m.cls := findClass_of_methodNamed B.named
  have hlocks := B.notSynchronized
  subst hsz
  have hD := hD0.self (sz := s.heap.size)
  generalize hAe : va_A [(h0, .inr (11, [.ref x_studio, .ref x_script, .ref x_teller, .ref x_planner, .ref x_plan, .ref x_drifts, .ref x_floor, .ref x_trial, .ref x_tape, .int 0, .int (-1)])), (x_floor, .inr (1, [.ref f_studio, .int 1, .int 0, .ref f_taken, .ref f_on, .ref f_queues, .ref f_queued, .ref f_engaged, .ref f_dressing, .ref f_dressed, .ref f_standing, .ref f_stations, .int 0, .ref f_limits, .ref f_worked, .int 0, .int 0, .int 0])), (f_standing, .inl (cT 0, 8, .inl fsg))] s.heap.size = A at hD hZ ⊢
  have hA : ∀ q : Nat, s.heap.size ≤ q → A q := fun q h => by rw [← hAe]; exact Or.inr h
  have hS : va_S A s.heap s.heap [] := va_S.rf
  have hP : va_P D vwCl [(h0, .inr (11, [.ref x_studio, .ref x_script, .ref x_teller, .ref x_planner, .ref x_plan, .ref x_drifts, .ref x_floor, .ref x_trial, .ref x_tape, .int 0, .int (-1)])), (x_floor, .inr (1, [.ref f_studio, .int 1, .int 0, .ref f_taken, .ref f_on, .ref f_queues, .ref f_queued, .ref f_engaged, .ref f_dressing, .ref f_dressed, .ref f_standing, .ref f_stations, .int 0, .ref f_limits, .ref f_worked, .int 0, .int 0, .int 0])), (f_standing, .inl (cT 0, 8, .inl fsg))] s.heap := hP
  have hl := lv_entry ([.ref h0, .int p0]) (n := 2) (Nat.le_of_ble_eq_true rfl)
  rw [lg_entry_eq]
  generalize (lg_sl ([.ref h0, .int p0]) ++ List.replicate (2 - (lg_sl ([.ref h0, .int p0])).length) Slot.unset).toArray = ls at hl ⊢
  have hl : lv_has ls 2 [(0, .ref h0), (1, .int p0)] := hl
  refine lv_iload_n hx hb dX11_stands_0 rfl (lv_at hl 1 rfl) ?_
  refine lv_iconst (v := 0) hx hb dX11_stands_1 (by decide) ?_
  refine lv_bipush (v := 7) hx hb dX11_stands_2 (by decide) ?_
  have hF := va_free (wc := []) hD hS hA [] rfl
  refine va_calli (va_runS (As := [.int p0, .int 0, .int 7]) (rest := []) ⟨hx, hb, hml, hown, hts⟩ (c_X11_within l D cT p0 0 7 _ ) (va_cwS 3 hts gX11_stands_X11_within rfl rfl rfl (by decide +kernel) ⟨Nat.le_of_ble_eq_true rfl, Nat.le_of_ble_eq_true rfl⟩) (ps_w hP hD hK hG [] rfl rfl rfl) rfl rfl hl.1 rfl (lv_room (Nat.le_of_ble_eq_true rfl)) dX11_stands_4 ⟨Nat.le_of_ble_eq_true rfl, Nat.le_of_ble_eq_true rfl⟩) hS (fun q _ h => hF q h) hF (fun r_1 uu9 tt9 H locs ht hvm wr_1 hB hz1 hk1 hS => ?_)
  obtain ⟨hP, hD⟩ := va_join (wr := [(h0, .inr (11, [.ref x_studio, .ref x_script, .ref x_teller, .ref x_planner, .ref x_plan, .ref x_drifts, .ref x_floor, .ref x_trial, .ref x_tape, .int 0, .int (-1)])), (x_floor, .inr (1, [.ref f_studio, .int 1, .int 0, .ref f_taken, .ref f_on, .ref f_queues, .ref f_queued, .ref f_engaged, .ref f_dressing, .ref f_dressed, .ref f_standing, .ref f_stations, .int 0, .ref f_limits, .ref f_worked, .int 0, .int 0, .int 0])), (f_standing, .inl (cT 0, 8, .inl fsg))]) (w1 := []) hP hD [] [0, 1, 2] rfl rfl (by decide) (by decide) hk1 hF vp_nil vd_nil
  have hP : va_P D vwCl [(h0, .inr (11, [.ref x_studio, .ref x_script, .ref x_teller, .ref x_planner, .ref x_plan, .ref x_drifts, .ref x_floor, .ref x_trial, .ref x_tape, .int 0, .int (-1)])), (x_floor, .inr (1, [.ref f_studio, .int 1, .int 0, .ref f_taken, .ref f_on, .ref f_queues, .ref f_queued, .ref f_engaged, .ref f_dressing, .ref f_dressed, .ref f_standing, .ref f_stations, .int 0, .ref f_limits, .ref f_worked, .int 0, .int 0, .int 0])), (f_standing, .inl (cT 0, 8, .inl fsg))] _ := hP
  have hD : va_D A [(h0, .inr (11, [.ref x_studio, .ref x_script, .ref x_teller, .ref x_planner, .ref x_plan, .ref x_drifts, .ref x_floor, .ref x_trial, .ref x_tape, .int 0, .int (-1)])), (x_floor, .inr (1, [.ref f_studio, .int 1, .int 0, .ref f_taken, .ref f_on, .ref f_queues, .ref f_queued, .ref f_engaged, .ref f_dressing, .ref f_dressed, .ref f_standing, .ref f_stations, .int 0, .ref f_limits, .ref f_worked, .int 0, .int 0, .int 0])), (f_standing, .inl (cT 0, 8, .inl fsg))] := hD
  have g9 := wi_01 p0 0 7
  rw [← wr_1] at g9
  rcases g9 with rfl | rfl
  · have hF := va_free (wc := []) hD hS hA [] rfl
    refine vx_callv (vx_runS (As := [.int 0]) (rest := []) ⟨hx, hb, hml, hown, hts⟩ (c_X11_need l hst D cT 0 _ ) (va_cwS 1 hts gX11_stands_X11_need rfl rfl rfl (by decide +kernel) ⟨Nat.le_of_ble_eq_true rfl, Nat.le_of_ble_eq_true rfl⟩) (ps_z hP hD hK hG hZ hS hF [] rfl rfl rfl) rfl rfl hl.1 rfl (lv_room (Nat.le_of_ble_eq_true rfl)) dX11_stands_7 ⟨Nat.le_of_ble_eq_true rfl, Nat.le_of_ble_eq_true rfl⟩) hS (fun q _ h => hF q h) hF (fun q _ h => hF q h) (fun E ce q9 uu9 tt9 H locs ht hvm hw hB hz1 hk1 hS hq9 hv9 hc9 => ?_) (fun uu9 tt9 H locs ht hvm wr_2 hB hz1 hk1 hS => ((wr_2 rfl : False)).elim)
    obtain ⟨rfl, hpx⟩ := hB
    exact vx_out (fun x hx9 => (hex x hx9).elim) hlocks hq9 hv9 hc9 (fun t ht9 hA9 => ⟨(), trivial, ⟨rfl, (by simp [th_stands, ← wr_1])⟩, hS.F ht9⟩) hS.2.2 (Nat.le_of_ble_eq_true rfl) (Nat.le_of_ble_eq_true rfl)
  · have hF := va_free (wc := []) hD hS hA [] rfl
    refine vx_callv (vx_runS (As := [.int 1]) (rest := []) ⟨hx, hb, hml, hown, hts⟩ (c_X11_need l hst D cT 1 _ ) (va_cwS 1 hts gX11_stands_X11_need rfl rfl rfl (by decide +kernel) ⟨Nat.le_of_ble_eq_true rfl, Nat.le_of_ble_eq_true rfl⟩) (ps_z hP hD hK hG hZ hS hF [] rfl rfl rfl) rfl rfl hl.1 rfl (lv_room (Nat.le_of_ble_eq_true rfl)) dX11_stands_7 ⟨Nat.le_of_ble_eq_true rfl, Nat.le_of_ble_eq_true rfl⟩) hS (fun q _ h => hF q h) hF (fun q _ h => hF q h) (fun E ce q9 uu9 tt9 H locs ht hvm hw hB hz1 hk1 hS hq9 hv9 hc9 => ((absurd hB.2 (by decide) : False)).elim) (fun uu9 tt9 H locs ht hvm wr_3 hB hz1 hk1 hS => ?_)
    obtain ⟨hP, hD⟩ := va_join (wr := [(h0, .inr (11, [.ref x_studio, .ref x_script, .ref x_teller, .ref x_planner, .ref x_plan, .ref x_drifts, .ref x_floor, .ref x_trial, .ref x_tape, .int 0, .int (-1)])), (x_floor, .inr (1, [.ref f_studio, .int 1, .int 0, .ref f_taken, .ref f_on, .ref f_queues, .ref f_queued, .ref f_engaged, .ref f_dressing, .ref f_dressed, .ref f_standing, .ref f_stations, .int 0, .ref f_limits, .ref f_worked, .int 0, .int 0, .int 0])), (f_standing, .inl (cT 0, 8, .inl fsg))]) (w1 := []) hP hD [] [0, 1, 2] rfl rfl (by decide) (by decide) hk1 hF vp_nil vd_nil
    have hP : va_P D vwCl [(h0, .inr (11, [.ref x_studio, .ref x_script, .ref x_teller, .ref x_planner, .ref x_plan, .ref x_drifts, .ref x_floor, .ref x_trial, .ref x_tape, .int 0, .int (-1)])), (x_floor, .inr (1, [.ref f_studio, .int 1, .int 0, .ref f_taken, .ref f_on, .ref f_queues, .ref f_queued, .ref f_engaged, .ref f_dressing, .ref f_dressed, .ref f_standing, .ref f_stations, .int 0, .ref f_limits, .ref f_worked, .int 0, .int 0, .int 0])), (f_standing, .inl (cT 0, 8, .inl fsg))] _ := hP
    have hD : va_D A [(h0, .inr (11, [.ref x_studio, .ref x_script, .ref x_teller, .ref x_planner, .ref x_plan, .ref x_drifts, .ref x_floor, .ref x_trial, .ref x_tape, .int 0, .int (-1)])), (x_floor, .inr (1, [.ref f_studio, .int 1, .int 0, .ref f_taken, .ref f_on, .ref f_queues, .ref f_queued, .ref f_engaged, .ref f_dressing, .ref f_dressed, .ref f_standing, .ref f_stations, .int 0, .ref f_limits, .ref f_worked, .int 0, .int 0, .int 0])), (f_standing, .inl (cT 0, 8, .inl fsg))] := hD
    refine W.widen (k := 1) (n := 6) (Nat.le_of_ble_eq_true rfl) (Nat.le_of_ble_eq_true rfl) ?_
    refine lv_aload_n hx hb dX11_stands_10 rfl (lv_at hl 0 rfl) ?_
    refine va_get (D := D) (ci := 11) (v := .ref x_floor) (C := RX11) (T := TX11) (N := 11) hx hb hts (fun _ h => List.mem_cons_of_mem _ (List.mem_append_left _ (List.mem_append_left _ (List.mem_append_right _ h)))) hown hK hP 0 rfl rfl 6 (by decide) (hts (.fieldLink RX11 60 "PuppetFilm" "floor" "LPuppetFilm$Floor;") (List.mem_of_getElem? (i := 1) (by decide +kernel))) (fun _ h9 => h9) rfl dX11_stands_11 ?_
    refine lv_iload_n hx hb dX11_stands_14 rfl (lv_at hl 1 rfl) ?_
    have hF := va_free (wc := [(x_floor, .inr (1, [.ref f_studio, .int 1, .int 0, .ref f_taken, .ref f_on, .ref f_queues, .ref f_queued, .ref f_engaged, .ref f_dressing, .ref f_dressed, .ref f_standing, .ref f_stations, .int 0, .ref f_limits, .ref f_worked, .int 0, .int 0, .int 0])), (f_standing, .inl (cT 0, 8, .inl fsg))]) hD hS hA [1, 2] rfl
    refine va_calli (va_runV (As := [.int p0]) (rest := []) ⟨hx, hb, hml, hown, hts⟩ (c_X1_standsIn l D cT x_floor p0 f_studio f_taken f_on f_queues f_queued f_engaged f_dressing f_dressed f_standing f_stations f_limits f_worked fsg _ (by assumption)) (cwV 1 hts gX11_stands_X1_standsIn rfl rfl rfl (by decide +kernel) ⟨Nat.le_of_ble_eq_true rfl, Nat.le_of_ble_eq_true rfl⟩) (pv_w hP hD hK hG [1, 2] rfl rfl rfl 1 rfl rfl) rfl rfl hl.1 rfl (lv_room (Nat.le_of_ble_eq_true rfl)) dX11_stands_15 ⟨Nat.le_of_ble_eq_true rfl, Nat.le_of_ble_eq_true rfl⟩) hS (fun q _ h => hF q h) hF (fun r_4 uu9 tt9 H locs ht hvm wr_4 hB hz1 hk1 hS => ?_)
    obtain ⟨hP1, hD1⟩ := hB
    rw [ht] at hP1
    obtain ⟨hP, hD⟩ := va_join (wr := [(h0, .inr (11, [.ref x_studio, .ref x_script, .ref x_teller, .ref x_planner, .ref x_plan, .ref x_drifts, .ref x_floor, .ref x_trial, .ref x_tape, .int 0, .int (-1)]))]) (w1 := [(x_floor, .inr (1, [.ref f_studio, .int 1, .int 0, .ref f_taken, .ref f_on, .ref f_queues, .ref f_queued, .ref f_engaged, .ref f_dressing, .ref f_dressed, .ref f_standing, .ref f_stations, .int 0, .ref f_limits, .ref f_worked, .int 0, .int 0, .int 0])), (f_standing, .inl (cT 0, 8, .inl fsg))]) hP hD [1, 2] [0] rfl rfl (by decide) (by decide) hk1 hF hP1 hD1
    have hP : va_P D vwCl [(h0, .inr (11, [.ref x_studio, .ref x_script, .ref x_teller, .ref x_planner, .ref x_plan, .ref x_drifts, .ref x_floor, .ref x_trial, .ref x_tape, .int 0, .int (-1)])), (x_floor, .inr (1, [.ref f_studio, .int 1, .int 0, .ref f_taken, .ref f_on, .ref f_queues, .ref f_queued, .ref f_engaged, .ref f_dressing, .ref f_dressed, .ref f_standing, .ref f_stations, .int 0, .ref f_limits, .ref f_worked, .int 0, .int 0, .int 0])), (f_standing, .inl (cT 0, 8, .inl fsg))] _ := hP
    have hD : va_D A [(h0, .inr (11, [.ref x_studio, .ref x_script, .ref x_teller, .ref x_planner, .ref x_plan, .ref x_drifts, .ref x_floor, .ref x_trial, .ref x_tape, .int 0, .int (-1)])), (x_floor, .inr (1, [.ref f_studio, .int 1, .int 0, .ref f_taken, .ref f_on, .ref f_queues, .ref f_queued, .ref f_engaged, .ref f_dressing, .ref f_dressed, .ref f_standing, .ref f_stations, .int 0, .ref f_limits, .ref f_worked, .int 0, .int 0, .int 0])), (f_standing, .inl (cT 0, 8, .inl fsg))] := hD
    obtain rfl : r_4 = (-1) := wr_4.trans (rfl)
    refine vx_ret ?_
    exact W.iret (v := (-1)) hx hb hr (fun t ht hW => ⟨⟨(-1), (), rfl, ⟨by simp [th_stands, ← wr_1], rfl⟩, trivial⟩, hS.F ht⟩) hS.2.2 dX11_stands_18
theorem dX11_on_0 : decode cX11_on 0 = .ok (.iload_n 1, 1) := by decide +kernel
theorem dX11_on_1 : decode cX11_on 1 = .ok (.invokestatic 361, 3) := by decide +kernel
theorem dX11_on_36 : decode cX11_on 36 = .ok (.aload_n 0, 1) := by decide +kernel
theorem dX11_on_37 : decode cX11_on 37 = .ok (.getfield 60, 3) := by decide +kernel
theorem dX11_on_4 : decode cX11_on 4 = .ok (.iload_n 2, 1) := by decide +kernel
theorem dX11_on_40 : decode cX11_on 40 = .ok (.iload_n 1, 1) := by decide +kernel
theorem dX11_on_41 : decode cX11_on 41 = .ok (.invokevirtual 382, 3) := by decide +kernel
theorem dX11_on_44 : decode cX11_on 44 = .ok (.ireturn, 1) := by decide +kernel
theorem dX11_on_45 : decode cX11_on 45 = .ok (.aload_n 0, 1) := by decide +kernel
theorem dX11_on_46 : decode cX11_on 46 = .ok (.getfield 60, 3) := by decide +kernel
theorem dX11_on_49 : decode cX11_on 49 = .ok (.iload_n 1, 1) := by decide +kernel
theorem dX11_on_5 : decode cX11_on 5 = .ok (.tableswitch 67 0 3 #[31, 40, 49, 58], 31) := by decide +kernel
theorem dX11_on_50 : decode cX11_on 50 = .ok (.invokevirtual 385, 3) := by decide +kernel
theorem dX11_on_53 : decode cX11_on 53 = .ok (.ireturn, 1) := by decide +kernel
theorem dX11_on_54 : decode cX11_on 54 = .ok (.aload_n 0, 1) := by decide +kernel
theorem dX11_on_55 : decode cX11_on 55 = .ok (.getfield 60, 3) := by decide +kernel
theorem dX11_on_58 : decode cX11_on 58 = .ok (.iload_n 1, 1) := by decide +kernel
theorem dX11_on_59 : decode cX11_on 59 = .ok (.invokevirtual 370, 3) := by decide +kernel
theorem dX11_on_62 : decode cX11_on 62 = .ok (.ireturn, 1) := by decide +kernel
theorem dX11_on_63 : decode cX11_on 63 = .ok (.aload_n 0, 1) := by decide +kernel
theorem dX11_on_64 : decode cX11_on 64 = .ok (.getfield 60, 3) := by decide +kernel
theorem dX11_on_67 : decode cX11_on 67 = .ok (.iload_n 1, 1) := by decide +kernel
theorem dX11_on_68 : decode cX11_on 68 = .ok (.invokevirtual 388, 3) := by decide +kernel
theorem dX11_on_71 : decode cX11_on 71 = .ok (.ireturn, 1) := by decide +kernel
theorem dX11_on_72 : decode cX11_on 72 = .ok (.new 192, 3) := by decide +kernel
theorem dX11_on_75 : decode cX11_on 75 = .ok (.dup, 1) := by decide +kernel
theorem dX11_on_76 : decode cX11_on 76 = .ok (.ldc 194, 2) := by decide +kernel
theorem dX11_on_78 : decode cX11_on 78 = .ok (.invokespecial 196, 3) := by decide +kernel
theorem dX11_on_81 : decode cX11_on 81 = .ok (.athrow, 1) := by decide +kernel
set_option maxRecDepth 20000 in
theorem ggX11_on_X11_needUnit : GoodIn wsX11_on wsX11_needUnit := goodIn_ca (goodIn_r _ [7, 8, 9, 10, 11, 6, 12] (by decide +kernel) (by decide +kernel)) (goodIn_sub (fun _ h => List.mem_cons_of_mem _ (List.mem_append_right _ h)) (by decide +kernel))
set_option maxRecDepth 20000 in
theorem gX11_on_X11_needUnit : GoodIn wsX11_on (va_wsS RX11 361 yX11_needUnit wsX11_needUnit) := goodIn_app (goodIn_of _ (by decide +kernel)) ggX11_on_X11_needUnit
set_option maxRecDepth 20000 in
theorem ggX11_on_X1_dressedIn : GoodIn wsX11_on wsX1_dressedIn := goodIn_r _ [24, 25, 26, 27, 28, 29, 14, 15, 16, 17, 18, 19, 6, 20, 30, 31, 32, 33, 34, 35, 62, 63, 64, 65, 66, 67, 68, 69, 70, 71, 72, 73, 74, 75, 76, 77, 78, 79, 80, 81, 82, 83, 84, 85, 86, 87, 88, 89, 90, 91, 92, 93, 94, 95, 96, 97, 98, 99, 100, 101] (by decide +kernel) (by decide +kernel)
set_option maxRecDepth 20000 in
theorem gX11_on_X1_dressedIn : GoodIn wsX11_on (wsV RX11 385 RX1 yX1_dressedIn wsX1_dressedIn) := goodIn_app (goodIn_of _ (by decide +kernel)) ggX11_on_X1_dressedIn
set_option maxRecDepth 20000 in
theorem ggX11_on_X1_firstIn : GoodIn wsX11_on wsX1_firstIn := goodIn_r _ [44, 45, 37, 38, 16, 39, 40, 19, 6, 20, 46, 47, 48, 49, 50, 11, 12, 62, 63, 64, 65, 66, 67, 68, 69, 70, 71, 72, 73, 74, 75, 76, 77, 78, 79] (by decide +kernel) (by decide +kernel)
set_option maxRecDepth 20000 in
theorem gX11_on_X1_firstIn : GoodIn wsX11_on (wsV RX11 388 RX1 yX1_firstIn wsX1_firstIn) := goodIn_app (goodIn_of _ (by decide +kernel)) ggX11_on_X1_firstIn
set_option maxRecDepth 20000 in
theorem ggX11_on_X1_onIn : GoodIn wsX11_on wsX1_onIn := goodIn_r _ [17, 18, 19, 6, 20, 62, 63, 64, 65, 66, 67, 68, 69, 70, 71, 72, 73, 74, 75, 76, 77, 78, 79] (by decide +kernel) (by decide +kernel)
set_option maxRecDepth 20000 in
theorem gX11_on_X1_onIn : GoodIn wsX11_on (wsV RX11 382 RX1 yX1_onIn wsX1_onIn) := goodIn_app (goodIn_of _ (by decide +kernel)) ggX11_on_X1_onIn
set_option maxRecDepth 20000 in
theorem ggX11_on_X1_queuedIn : GoodIn wsX11_on wsX1_queuedIn := goodIn_r _ [39, 40, 19, 6, 20, 62, 63, 64, 65, 66, 67, 68, 69, 70, 71, 72, 73, 74, 75, 76, 77, 78, 79] (by decide +kernel) (by decide +kernel)
set_option maxRecDepth 20000 in
theorem gX11_on_X1_queuedIn : GoodIn wsX11_on (wsV RX11 370 RX1 yX1_queuedIn wsX1_queuedIn) := goodIn_app (goodIn_of _ (by decide +kernel)) ggX11_on_X1_queuedIn
set_option maxHeartbeats 4000000 in
set_option maxRecDepth 100000 in
theorem c_X11_on (l : Launch) (hst : l.stackTraces = false) (D : va_G) (cT : Nat → ClassId) (h0 : Nat) (p0 : Int32) (p1 : Int32) (x_studio : Nat) (x_script : Nat) (x_teller : Nat) (x_planner : Nat) (x_plan : Nat) (x_drifts : Nat) (x_floor : Nat) (x_trial : Nat) (x_tape : Nat) (f_taken : Nat) (f_on : Nat) (f_queues : Nat) (f_queued : Nat) (f_engaged : Nat) (f_dressing : Nat) (f_dressed : Nat) (f_standing : Nat) (f_stations : Nat) (f_limits : Nat) (f_worked : Nat) (fon : Nat → Int32) (s_puppets : Nat) (s_shots : Nat) (s_sounds : Nat) (s_rates : Nat) (s_dresses : Nat) (sz : Nat) (hon : ∀ k, k < 3 → fon k = -1) : vx_Met l yX11_on wsX11_on ({ frames := 11, cells := 2, slots := 12, locals := 340 }) (va_Pc [.ref h0, .int p0, .int p1] (PZ D cT [(h0, .inr (11, [.ref x_studio, .ref x_script, .ref x_teller, .ref x_planner, .ref x_plan, .ref x_drifts, .ref x_floor, .ref x_trial, .ref x_tape, .int 0, .int (-1)])), (x_floor, .inr (1, [.ref x_studio, .int 1, .int 0, .ref f_taken, .ref f_on, .ref f_queues, .ref f_queued, .ref f_engaged, .ref f_dressing, .ref f_dressed, .ref f_standing, .ref f_stations, .int 0, .ref f_limits, .ref f_worked, .int 0, .int 0, .int 0])), (f_on, .inl (cT 0, 3, .inl fon)), (f_queued, .inl (cT 0, 3, .inl (fun _ => 0))), (x_studio, .inr (8, [.ref s_puppets, .int 0, .ref s_shots, .int 0, .ref s_sounds, .ref s_rates, .ref s_dresses])), (s_shots, .inl (cT 5, 12, .inr (.inr (.inr (.inr (fun _ => none))))))] sz)) (va_Qi (fun (r : Int32) (_ : Unit) => th_on p0 p1 = 0 ∧ r = vl_on p1) (fun (_ : Unit) (_ : State) => True) (va_A [(h0, .inr (11, [.ref x_studio, .ref x_script, .ref x_teller, .ref x_planner, .ref x_plan, .ref x_drifts, .ref x_floor, .ref x_trial, .ref x_tape, .int 0, .int (-1)])), (x_floor, .inr (1, [.ref x_studio, .int 1, .int 0, .ref f_taken, .ref f_on, .ref f_queues, .ref f_queued, .ref f_engaged, .ref f_dressing, .ref f_dressed, .ref f_standing, .ref f_stations, .int 0, .ref f_limits, .ref f_worked, .int 0, .int 0, .int 0])), (f_on, .inl (cT 0, 3, .inl fon)), (f_queued, .inl (cT 0, 3, .inl (fun _ => 0))), (x_studio, .inr (8, [.ref s_puppets, .int 0, .ref s_shots, .int 0, .ref s_sounds, .ref s_rates, .ref s_dresses])), (s_shots, .inl (cT 5, 12, .inr (.inr (.inr (.inr (fun _ => none))))))] sz)) (vx_X (fun _ : Unit => True) (fun (E : String) (_ : Unit) (_ : State) => (E = "java/lang/IndexOutOfBoundsException" ∧ th_on p0 p1 = 1) ∨ (E = "java/lang/IllegalArgumentException" ∧ th_on p0 p1 = 2)) (va_A [(h0, .inr (11, [.ref x_studio, .ref x_script, .ref x_teller, .ref x_planner, .ref x_plan, .ref x_drifts, .ref x_floor, .ref x_trial, .ref x_tape, .int 0, .int (-1)])), (x_floor, .inr (1, [.ref x_studio, .int 1, .int 0, .ref f_taken, .ref f_on, .ref f_queues, .ref f_queued, .ref f_engaged, .ref f_dressing, .ref f_dressed, .ref f_standing, .ref f_stations, .int 0, .ref f_limits, .ref f_worked, .int 0, .int 0, .int 0])), (f_on, .inl (cT 0, 3, .inl fon)), (f_queued, .inl (cT 0, 3, .inl (fun _ => 0))), (x_studio, .inr (8, [.ref s_puppets, .int 0, .ref s_shots, .int 0, .ref s_sounds, .ref s_rates, .ref s_dresses])), (s_shots, .inl (cT 5, 12, .inr (.inr (.inr (.inr (fun _ => none))))))] sz)) 2 12 (va_A [(h0, .inr (11, [.ref x_studio, .ref x_script, .ref x_teller, .ref x_planner, .ref x_plan, .ref x_drifts, .ref x_floor, .ref x_trial, .ref x_tape, .int 0, .int (-1)])), (x_floor, .inr (1, [.ref x_studio, .int 1, .int 0, .ref f_taken, .ref f_on, .ref f_queues, .ref f_queued, .ref f_engaged, .ref f_dressing, .ref f_dressed, .ref f_standing, .ref f_stations, .int 0, .ref f_limits, .ref f_worked, .int 0, .int 0, .int 0])), (f_on, .inl (cT 0, 3, .inl fon)), (f_queued, .inl (cT 0, 3, .inl (fun _ => 0))), (x_studio, .inr (8, [.ref s_puppets, .int 0, .ref s_shots, .int 0, .ref s_sounds, .ref s_rates, .ref s_dresses])), (s_shots, .inl (cT 5, 12, .inr (.inr (.inr (.inr (fun _ => none))))))] sz) := by
  refine vx_ofW (cc := cX11_on) (maxL := 3) (ret := (some .int)) (by decide) rfl ?_
  intro p e s m args below meth c s₁ B hml hex hv
  obtain ⟨rfl, ⟨hsz, hP, hK, hD0, hG⟩, hZ⟩ := hv
  have hx := B.exec
  have hb := B.bytes
  have hr := B.returns
  have hts := atoms_spec (ws := wsX11_on) B.pre
  have hown : s.vm.findClass RX11 = some m.cls := findClass_of_methodNamed B.named
  have hlocks := B.notSynchronized
  subst hsz
  have hD := hD0.self (sz := s.heap.size)
  generalize hAe : va_A [(h0, .inr (11, [.ref x_studio, .ref x_script, .ref x_teller, .ref x_planner, .ref x_plan, .ref x_drifts, .ref x_floor, .ref x_trial, .ref x_tape, .int 0, .int (-1)])), (x_floor, .inr (1, [.ref x_studio, .int 1, .int 0, .ref f_taken, .ref f_on, .ref f_queues, .ref f_queued, .ref f_engaged, .ref f_dressing, .ref f_dressed, .ref f_standing, .ref f_stations, .int 0, .ref f_limits, .ref f_worked, .int 0, .int 0, .int 0])), (f_on, .inl (cT 0, 3, .inl fon)), (f_queued, .inl (cT 0, 3, .inl (fun _ => 0))), (x_studio, .inr (8, [.ref s_puppets, .int 0, .ref s_shots, .int 0, .ref s_sounds, .ref s_rates, .ref s_dresses])), (s_shots, .inl (cT 5, 12, .inr (.inr (.inr (.inr (fun _ => none))))))] s.heap.size = A at hD hZ ⊢
  have hA : ∀ q : Nat, s.heap.size ≤ q → A q := fun q h => by rw [← hAe]; exact Or.inr h
  have hS : va_S A s.heap s.heap [] := va_S.rf
  have hP : va_P D vwCl [(h0, .inr (11, [.ref x_studio, .ref x_script, .ref x_teller, .ref x_planner, .ref x_plan, .ref x_drifts, .ref x_floor, .ref x_trial, .ref x_tape, .int 0, .int (-1)])), (x_floor, .inr (1, [.ref x_studio, .int 1, .int 0, .ref f_taken, .ref f_on, .ref f_queues, .ref f_queued, .ref f_engaged, .ref f_dressing, .ref f_dressed, .ref f_standing, .ref f_stations, .int 0, .ref f_limits, .ref f_worked, .int 0, .int 0, .int 0])), (f_on, .inl (cT 0, 3, .inl fon)), (f_queued, .inl (cT 0, 3, .inl (fun _ => 0))), (x_studio, .inr (8, [.ref s_puppets, .int 0, .ref s_shots, .int 0, .ref s_sounds, .ref s_rates, .ref s_dresses])), (s_shots, .inl (cT 5, 12, .inr (.inr (.inr (.inr (fun _ => none))))))] s.heap := hP
  have hl := lv_entry ([.ref h0, .int p0, .int p1]) (n := 3) (Nat.le_of_ble_eq_true rfl)
  rw [lg_entry_eq]
  generalize (lg_sl ([.ref h0, .int p0, .int p1]) ++ List.replicate (3 - (lg_sl ([.ref h0, .int p0, .int p1])).length) Slot.unset).toArray = ls at hl ⊢
  have hl : lv_has ls 3 [(0, .ref h0), (1, .int p0), (2, .int p1)] := hl
  refine lv_iload_n hx hb dX11_on_0 rfl (lv_at hl 1 rfl) ?_
  have hF := va_free (wc := []) hD hS hA [] rfl
  refine vx_callv (vx_runS (As := [.int p0]) (rest := []) ⟨hx, hb, hml, hown, hts⟩ (c_X11_needUnit l hst D cT p0 _ ) (va_cwS 1 hts gX11_on_X11_needUnit rfl rfl rfl (by decide +kernel) ⟨Nat.le_of_ble_eq_true rfl, Nat.le_of_ble_eq_true rfl⟩) (ps_z hP hD hK hG hZ hS hF [] rfl rfl rfl) rfl rfl hl.1 rfl (lv_room (Nat.le_of_ble_eq_true rfl)) dX11_on_1 ⟨Nat.le_of_ble_eq_true rfl, Nat.le_of_ble_eq_true rfl⟩) hS (fun q _ h => hF q h) hF (fun q _ h => hF q h) (fun E ce q9 uu9 tt9 H locs ht hvm hw hB hz1 hk1 hS hq9 hv9 hc9 => ?_) (fun uu9 tt9 H locs ht hvm wr_1 hB hz1 hk1 hS => ?_)
  · obtain ⟨rfl, hpx⟩ := hB
    exact vx_out (fun x hx9 => (hex x hx9).elim) hlocks hq9 hv9 hc9 (fun t ht9 hA9 => ⟨(), trivial, (Or.inl ⟨rfl, (by simp [th_on, hpx])⟩), hS.F ht9⟩) hS.2.2 (Nat.le_of_ble_eq_true rfl) (Nat.le_of_ble_eq_true rfl)
  · obtain ⟨hP, hD⟩ := va_join (wr := [(h0, .inr (11, [.ref x_studio, .ref x_script, .ref x_teller, .ref x_planner, .ref x_plan, .ref x_drifts, .ref x_floor, .ref x_trial, .ref x_tape, .int 0, .int (-1)])), (x_floor, .inr (1, [.ref x_studio, .int 1, .int 0, .ref f_taken, .ref f_on, .ref f_queues, .ref f_queued, .ref f_engaged, .ref f_dressing, .ref f_dressed, .ref f_standing, .ref f_stations, .int 0, .ref f_limits, .ref f_worked, .int 0, .int 0, .int 0])), (f_on, .inl (cT 0, 3, .inl fon)), (f_queued, .inl (cT 0, 3, .inl (fun _ => 0))), (x_studio, .inr (8, [.ref s_puppets, .int 0, .ref s_shots, .int 0, .ref s_sounds, .ref s_rates, .ref s_dresses])), (s_shots, .inl (cT 5, 12, .inr (.inr (.inr (.inr (fun _ => none))))))]) (w1 := []) hP hD [] [0, 1, 2, 3, 4, 5] rfl rfl (by decide) (by decide) hk1 hF vp_nil vd_nil
    have hP : va_P D vwCl [(h0, .inr (11, [.ref x_studio, .ref x_script, .ref x_teller, .ref x_planner, .ref x_plan, .ref x_drifts, .ref x_floor, .ref x_trial, .ref x_tape, .int 0, .int (-1)])), (x_floor, .inr (1, [.ref x_studio, .int 1, .int 0, .ref f_taken, .ref f_on, .ref f_queues, .ref f_queued, .ref f_engaged, .ref f_dressing, .ref f_dressed, .ref f_standing, .ref f_stations, .int 0, .ref f_limits, .ref f_worked, .int 0, .int 0, .int 0])), (f_on, .inl (cT 0, 3, .inl fon)), (f_queued, .inl (cT 0, 3, .inl (fun _ => 0))), (x_studio, .inr (8, [.ref s_puppets, .int 0, .ref s_shots, .int 0, .ref s_sounds, .ref s_rates, .ref s_dresses])), (s_shots, .inl (cT 5, 12, .inr (.inr (.inr (.inr (fun _ => none))))))] _ := hP
    have hD : va_D A [(h0, .inr (11, [.ref x_studio, .ref x_script, .ref x_teller, .ref x_planner, .ref x_plan, .ref x_drifts, .ref x_floor, .ref x_trial, .ref x_tape, .int 0, .int (-1)])), (x_floor, .inr (1, [.ref x_studio, .int 1, .int 0, .ref f_taken, .ref f_on, .ref f_queues, .ref f_queued, .ref f_engaged, .ref f_dressing, .ref f_dressed, .ref f_standing, .ref f_stations, .int 0, .ref f_limits, .ref f_worked, .int 0, .int 0, .int 0])), (f_on, .inl (cT 0, 3, .inl fon)), (f_queued, .inl (cT 0, 3, .inl (fun _ => 0))), (x_studio, .inr (8, [.ref s_puppets, .int 0, .ref s_shots, .int 0, .ref s_sounds, .ref s_rates, .ref s_dresses])), (s_shots, .inl (cT 5, 12, .inr (.inr (.inr (.inr (fun _ => none))))))] := hD
    refine W.widen (k := 1) (n := 6) (Nat.le_of_ble_eq_true rfl) (Nat.le_of_ble_eq_true rfl) ?_
    refine lv_iload_n hx hb dX11_on_4 rfl (lv_at hl 2 rfl) ?_
    by_cases c_2 : p1 = 0
    · refine lv_tableIn (off := 31) (tgt := 36) hx hb dX11_on_5 (by rw [c_2]; decide) (by rw [c_2]; decide) (by rw [c_2]; rfl) (by decide) ?_
      refine lv_aload_n hx hb dX11_on_36 rfl (lv_at hl 0 rfl) ?_
      refine va_get (D := D) (ci := 11) (v := .ref x_floor) (C := RX11) (T := TX11) (N := 11) hx hb hts (fun _ h => List.mem_cons_of_mem _ (List.mem_append_left _ (List.mem_append_left _ (List.mem_append_left _ (List.mem_append_left _ (List.mem_append_left _ (List.mem_append_right _ h))))))) hown hK hP 0 rfl rfl 6 (by decide) (hts (.fieldLink RX11 60 "PuppetFilm" "floor" "LPuppetFilm$Floor;") (List.mem_of_getElem? (i := 3) (by decide +kernel))) (fun _ h9 => h9) rfl dX11_on_37 ?_
      refine lv_iload_n hx hb dX11_on_40 rfl (lv_at hl 1 rfl) ?_
      have hF := va_free (wc := [(x_floor, .inr (1, [.ref x_studio, .int 1, .int 0, .ref f_taken, .ref f_on, .ref f_queues, .ref f_queued, .ref f_engaged, .ref f_dressing, .ref f_dressed, .ref f_standing, .ref f_stations, .int 0, .ref f_limits, .ref f_worked, .int 0, .int 0, .int 0])), (f_on, .inl (cT 0, 3, .inl fon))]) hD hS hA [1, 2] rfl
      refine va_calli (va_runV (As := [.int p0]) (rest := []) ⟨hx, hb, hml, hown, hts⟩ (c_X1_onIn l D cT x_floor p0 x_studio f_taken f_on f_queues f_queued f_engaged f_dressing f_dressed f_standing f_stations f_limits f_worked fon _ (by assumption)) (cwV 1 hts gX11_on_X1_onIn rfl rfl rfl (by decide +kernel) ⟨Nat.le_of_ble_eq_true rfl, Nat.le_of_ble_eq_true rfl⟩) (pv_w hP hD hK hG [1, 2] rfl rfl rfl 1 rfl rfl) rfl rfl hl.1 rfl (lv_room (Nat.le_of_ble_eq_true rfl)) dX11_on_41 ⟨Nat.le_of_ble_eq_true rfl, Nat.le_of_ble_eq_true rfl⟩) hS (fun q _ h => hF q h) hF (fun r_3 uu9 tt9 H locs ht hvm wr_3 hB hz1 hk1 hS => ?_)
      obtain ⟨hP1, hD1⟩ := hB
      rw [ht] at hP1
      obtain ⟨hP, hD⟩ := va_join (wr := [(h0, .inr (11, [.ref x_studio, .ref x_script, .ref x_teller, .ref x_planner, .ref x_plan, .ref x_drifts, .ref x_floor, .ref x_trial, .ref x_tape, .int 0, .int (-1)])), (f_queued, .inl (cT 0, 3, .inl (fun _ => 0))), (x_studio, .inr (8, [.ref s_puppets, .int 0, .ref s_shots, .int 0, .ref s_sounds, .ref s_rates, .ref s_dresses])), (s_shots, .inl (cT 5, 12, .inr (.inr (.inr (.inr (fun _ => none))))))]) (w1 := [(x_floor, .inr (1, [.ref x_studio, .int 1, .int 0, .ref f_taken, .ref f_on, .ref f_queues, .ref f_queued, .ref f_engaged, .ref f_dressing, .ref f_dressed, .ref f_standing, .ref f_stations, .int 0, .ref f_limits, .ref f_worked, .int 0, .int 0, .int 0])), (f_on, .inl (cT 0, 3, .inl fon))]) hP hD [1, 2] [0, 3, 4, 5] rfl rfl (by decide) (by decide) hk1 hF hP1 hD1
      have hP : va_P D vwCl [(h0, .inr (11, [.ref x_studio, .ref x_script, .ref x_teller, .ref x_planner, .ref x_plan, .ref x_drifts, .ref x_floor, .ref x_trial, .ref x_tape, .int 0, .int (-1)])), (f_queued, .inl (cT 0, 3, .inl (fun _ => 0))), (x_studio, .inr (8, [.ref s_puppets, .int 0, .ref s_shots, .int 0, .ref s_sounds, .ref s_rates, .ref s_dresses])), (s_shots, .inl (cT 5, 12, .inr (.inr (.inr (.inr (fun _ => none)))))), (x_floor, .inr (1, [.ref x_studio, .int 1, .int 0, .ref f_taken, .ref f_on, .ref f_queues, .ref f_queued, .ref f_engaged, .ref f_dressing, .ref f_dressed, .ref f_standing, .ref f_stations, .int 0, .ref f_limits, .ref f_worked, .int 0, .int 0, .int 0])), (f_on, .inl (cT 0, 3, .inl fon))] _ := hP
      have hD : va_D A [(h0, .inr (11, [.ref x_studio, .ref x_script, .ref x_teller, .ref x_planner, .ref x_plan, .ref x_drifts, .ref x_floor, .ref x_trial, .ref x_tape, .int 0, .int (-1)])), (f_queued, .inl (cT 0, 3, .inl (fun _ => 0))), (x_studio, .inr (8, [.ref s_puppets, .int 0, .ref s_shots, .int 0, .ref s_sounds, .ref s_rates, .ref s_dresses])), (s_shots, .inl (cT 5, 12, .inr (.inr (.inr (.inr (fun _ => none)))))), (x_floor, .inr (1, [.ref x_studio, .int 1, .int 0, .ref f_taken, .ref f_on, .ref f_queues, .ref f_queued, .ref f_engaged, .ref f_dressing, .ref f_dressed, .ref f_standing, .ref f_stations, .int 0, .ref f_limits, .ref f_worked, .int 0, .int 0, .int 0])), (f_on, .inl (cT 0, 3, .inl fon))] := hD
      obtain rfl : r_3 = (-1) := wr_3.trans (rfl)
      refine vx_ret ?_
      refine W.widen (k := 2) (n := 12) (Nat.le_of_ble_eq_true rfl) (Nat.le_of_ble_eq_true rfl) ?_
      exact W.iret (v := (-1)) hx hb hr (fun t ht hW => ⟨⟨(-1), (), rfl, ⟨by simp [th_on, wi_1 wr_1, c_2], by simp [vl_on, c_2]⟩, trivial⟩, hS.F ht⟩) hS.2.2 dX11_on_44
    by_cases c_4 : p1 = 1
    · refine lv_tableIn (off := 40) (tgt := 45) hx hb dX11_on_5 (by rw [c_4]; decide) (by rw [c_4]; decide) (by rw [c_4]; rfl) (by decide) ?_
      refine lv_aload_n hx hb dX11_on_45 rfl (lv_at hl 0 rfl) ?_
      refine va_get (D := D) (ci := 11) (v := .ref x_floor) (C := RX11) (T := TX11) (N := 11) hx hb hts (fun _ h => List.mem_cons_of_mem _ (List.mem_append_left _ (List.mem_append_left _ (List.mem_append_left _ (List.mem_append_left _ (List.mem_append_left _ (List.mem_append_right _ h))))))) hown hK hP 0 rfl rfl 6 (by decide) (hts (.fieldLink RX11 60 "PuppetFilm" "floor" "LPuppetFilm$Floor;") (List.mem_of_getElem? (i := 3) (by decide +kernel))) (fun _ h9 => h9) rfl dX11_on_46 ?_
      refine lv_iload_n hx hb dX11_on_49 rfl (lv_at hl 1 rfl) ?_
      have hF := va_free (wc := [(x_floor, .inr (1, [.ref x_studio, .int 1, .int 0, .ref f_taken, .ref f_on, .ref f_queues, .ref f_queued, .ref f_engaged, .ref f_dressing, .ref f_dressed, .ref f_standing, .ref f_stations, .int 0, .ref f_limits, .ref f_worked, .int 0, .int 0, .int 0])), (f_on, .inl (cT 0, 3, .inl fon)), (x_studio, .inr (8, [.ref s_puppets, .int 0, .ref s_shots, .int 0, .ref s_sounds, .ref s_rates, .ref s_dresses])), (s_shots, .inl (cT 5, 12, .inr (.inr (.inr (.inr (fun _ => none))))))]) hD hS hA [1, 2, 4, 5] rfl
      refine va_calli (va_runV (As := [.int p0]) (rest := []) ⟨hx, hb, hml, hown, hts⟩ (c_X1_dressedIn l D cT x_floor p0 x_studio f_taken f_on f_queues f_queued f_engaged f_dressing f_dressed f_standing f_stations f_limits f_worked fon s_puppets s_shots s_sounds s_rates s_dresses _ (by assumption)) (cwV 1 hts gX11_on_X1_dressedIn rfl rfl rfl (by decide +kernel) ⟨Nat.le_of_ble_eq_true rfl, Nat.le_of_ble_eq_true rfl⟩) (pv_w hP hD hK hG [1, 2, 4, 5] rfl rfl rfl 1 rfl rfl) rfl rfl hl.1 rfl (lv_room (Nat.le_of_ble_eq_true rfl)) dX11_on_50 ⟨Nat.le_of_ble_eq_true rfl, Nat.le_of_ble_eq_true rfl⟩) hS (fun q _ h => hF q h) hF (fun r_5 uu9 tt9 H locs ht hvm wr_5 hB hz1 hk1 hS => ?_)
      obtain ⟨hP, hD⟩ := va_join (wr := [(h0, .inr (11, [.ref x_studio, .ref x_script, .ref x_teller, .ref x_planner, .ref x_plan, .ref x_drifts, .ref x_floor, .ref x_trial, .ref x_tape, .int 0, .int (-1)])), (f_queued, .inl (cT 0, 3, .inl (fun _ => 0)))]) (w1 := []) hP hD [1, 2, 4, 5] [0, 3] rfl rfl (by decide) (by decide) hk1 hF vp_nil vd_nil
      have hP : va_P D vwCl [(h0, .inr (11, [.ref x_studio, .ref x_script, .ref x_teller, .ref x_planner, .ref x_plan, .ref x_drifts, .ref x_floor, .ref x_trial, .ref x_tape, .int 0, .int (-1)])), (f_queued, .inl (cT 0, 3, .inl (fun _ => 0)))] _ := hP
      have hD : va_D A [(h0, .inr (11, [.ref x_studio, .ref x_script, .ref x_teller, .ref x_planner, .ref x_plan, .ref x_drifts, .ref x_floor, .ref x_trial, .ref x_tape, .int 0, .int (-1)])), (f_queued, .inl (cT 0, 3, .inl (fun _ => 0)))] := hD
      obtain rfl : r_5 = (-1) := wr_5.trans (rfl)
      refine vx_ret ?_
      refine W.widen (k := 2) (n := 12) (Nat.le_of_ble_eq_true rfl) (Nat.le_of_ble_eq_true rfl) ?_
      exact W.iret (v := (-1)) hx hb hr (fun t ht hW => ⟨⟨(-1), (), rfl, ⟨by simp [th_on, wi_1 wr_1, c_2, c_4], by simp [vl_on, c_2, c_4]⟩, trivial⟩, hS.F ht⟩) hS.2.2 dX11_on_53
    by_cases c_6 : p1 = 2
    · refine lv_tableIn (off := 49) (tgt := 54) hx hb dX11_on_5 (by rw [c_6]; decide) (by rw [c_6]; decide) (by rw [c_6]; rfl) (by decide) ?_
      refine lv_aload_n hx hb dX11_on_54 rfl (lv_at hl 0 rfl) ?_
      refine va_get (D := D) (ci := 11) (v := .ref x_floor) (C := RX11) (T := TX11) (N := 11) hx hb hts (fun _ h => List.mem_cons_of_mem _ (List.mem_append_left _ (List.mem_append_left _ (List.mem_append_left _ (List.mem_append_left _ (List.mem_append_left _ (List.mem_append_right _ h))))))) hown hK hP 0 rfl rfl 6 (by decide) (hts (.fieldLink RX11 60 "PuppetFilm" "floor" "LPuppetFilm$Floor;") (List.mem_of_getElem? (i := 3) (by decide +kernel))) (fun _ h9 => h9) rfl dX11_on_55 ?_
      refine lv_iload_n hx hb dX11_on_58 rfl (lv_at hl 1 rfl) ?_
      have hF := va_free (wc := [(x_floor, .inr (1, [.ref x_studio, .int 1, .int 0, .ref f_taken, .ref f_on, .ref f_queues, .ref f_queued, .ref f_engaged, .ref f_dressing, .ref f_dressed, .ref f_standing, .ref f_stations, .int 0, .ref f_limits, .ref f_worked, .int 0, .int 0, .int 0])), (f_queued, .inl (cT 0, 3, .inl (fun _ => 0)))]) hD hS hA [1, 3] rfl
      refine va_calli (va_runV (As := [.int p0]) (rest := []) ⟨hx, hb, hml, hown, hts⟩ (c_X1_queuedIn l D cT x_floor p0 x_studio f_taken f_on f_queues f_queued f_engaged f_dressing f_dressed f_standing f_stations f_limits f_worked _ ) (cwV 1 hts gX11_on_X1_queuedIn rfl rfl rfl (by decide +kernel) ⟨Nat.le_of_ble_eq_true rfl, Nat.le_of_ble_eq_true rfl⟩) (pv_w hP hD hK hG [1, 3] rfl rfl rfl 1 rfl rfl) rfl rfl hl.1 rfl (lv_room (Nat.le_of_ble_eq_true rfl)) dX11_on_59 ⟨Nat.le_of_ble_eq_true rfl, Nat.le_of_ble_eq_true rfl⟩) hS (fun q _ h => hF q h) hF (fun r_7 uu9 tt9 H locs ht hvm wr_7 hB hz1 hk1 hS => ?_)
      obtain ⟨hP1, hD1⟩ := hB
      rw [ht] at hP1
      obtain ⟨hP, hD⟩ := va_join (wr := [(h0, .inr (11, [.ref x_studio, .ref x_script, .ref x_teller, .ref x_planner, .ref x_plan, .ref x_drifts, .ref x_floor, .ref x_trial, .ref x_tape, .int 0, .int (-1)])), (f_on, .inl (cT 0, 3, .inl fon)), (x_studio, .inr (8, [.ref s_puppets, .int 0, .ref s_shots, .int 0, .ref s_sounds, .ref s_rates, .ref s_dresses])), (s_shots, .inl (cT 5, 12, .inr (.inr (.inr (.inr (fun _ => none))))))]) (w1 := [(x_floor, .inr (1, [.ref x_studio, .int 1, .int 0, .ref f_taken, .ref f_on, .ref f_queues, .ref f_queued, .ref f_engaged, .ref f_dressing, .ref f_dressed, .ref f_standing, .ref f_stations, .int 0, .ref f_limits, .ref f_worked, .int 0, .int 0, .int 0])), (f_queued, .inl (cT 0, 3, .inl (fun _ => 0)))]) hP hD [1, 3] [0, 2, 4, 5] rfl rfl (by decide) (by decide) hk1 hF hP1 hD1
      have hP : va_P D vwCl [(h0, .inr (11, [.ref x_studio, .ref x_script, .ref x_teller, .ref x_planner, .ref x_plan, .ref x_drifts, .ref x_floor, .ref x_trial, .ref x_tape, .int 0, .int (-1)])), (f_on, .inl (cT 0, 3, .inl fon)), (x_studio, .inr (8, [.ref s_puppets, .int 0, .ref s_shots, .int 0, .ref s_sounds, .ref s_rates, .ref s_dresses])), (s_shots, .inl (cT 5, 12, .inr (.inr (.inr (.inr (fun _ => none)))))), (x_floor, .inr (1, [.ref x_studio, .int 1, .int 0, .ref f_taken, .ref f_on, .ref f_queues, .ref f_queued, .ref f_engaged, .ref f_dressing, .ref f_dressed, .ref f_standing, .ref f_stations, .int 0, .ref f_limits, .ref f_worked, .int 0, .int 0, .int 0])), (f_queued, .inl (cT 0, 3, .inl (fun _ => 0)))] _ := hP
      have hD : va_D A [(h0, .inr (11, [.ref x_studio, .ref x_script, .ref x_teller, .ref x_planner, .ref x_plan, .ref x_drifts, .ref x_floor, .ref x_trial, .ref x_tape, .int 0, .int (-1)])), (f_on, .inl (cT 0, 3, .inl fon)), (x_studio, .inr (8, [.ref s_puppets, .int 0, .ref s_shots, .int 0, .ref s_sounds, .ref s_rates, .ref s_dresses])), (s_shots, .inl (cT 5, 12, .inr (.inr (.inr (.inr (fun _ => none)))))), (x_floor, .inr (1, [.ref x_studio, .int 1, .int 0, .ref f_taken, .ref f_on, .ref f_queues, .ref f_queued, .ref f_engaged, .ref f_dressing, .ref f_dressed, .ref f_standing, .ref f_stations, .int 0, .ref f_limits, .ref f_worked, .int 0, .int 0, .int 0])), (f_queued, .inl (cT 0, 3, .inl (fun _ => 0)))] := hD
      obtain rfl : r_7 = 0 := wr_7.trans (rfl)
      refine vx_ret ?_
      refine W.widen (k := 2) (n := 12) (Nat.le_of_ble_eq_true rfl) (Nat.le_of_ble_eq_true rfl) ?_
      exact W.iret (v := 0) hx hb hr (fun t ht hW => ⟨⟨0, (), rfl, ⟨by simp [th_on, wi_1 wr_1, c_2, c_4, c_6], by simp [vl_on, c_2, c_4, c_6]⟩, trivial⟩, hS.F ht⟩) hS.2.2 dX11_on_62
    by_cases c_8 : p1 = 3
    · refine lv_tableIn (off := 58) (tgt := 63) hx hb dX11_on_5 (by rw [c_8]; decide) (by rw [c_8]; decide) (by rw [c_8]; rfl) (by decide) ?_
      refine lv_aload_n hx hb dX11_on_63 rfl (lv_at hl 0 rfl) ?_
      refine va_get (D := D) (ci := 11) (v := .ref x_floor) (C := RX11) (T := TX11) (N := 11) hx hb hts (fun _ h => List.mem_cons_of_mem _ (List.mem_append_left _ (List.mem_append_left _ (List.mem_append_left _ (List.mem_append_left _ (List.mem_append_left _ (List.mem_append_right _ h))))))) hown hK hP 0 rfl rfl 6 (by decide) (hts (.fieldLink RX11 60 "PuppetFilm" "floor" "LPuppetFilm$Floor;") (List.mem_of_getElem? (i := 3) (by decide +kernel))) (fun _ h9 => h9) rfl dX11_on_64 ?_
      refine lv_iload_n hx hb dX11_on_67 rfl (lv_at hl 1 rfl) ?_
      have hF := va_free (wc := [(x_floor, .inr (1, [.ref x_studio, .int 1, .int 0, .ref f_taken, .ref f_on, .ref f_queues, .ref f_queued, .ref f_engaged, .ref f_dressing, .ref f_dressed, .ref f_standing, .ref f_stations, .int 0, .ref f_limits, .ref f_worked, .int 0, .int 0, .int 0])), (f_queued, .inl (cT 0, 3, .inl (fun _ => 0)))]) hD hS hA [1, 3] rfl
      refine va_calli (va_runV (As := [.int p0]) (rest := []) ⟨hx, hb, hml, hown, hts⟩ (c_X1_firstIn l D cT x_floor p0 x_studio f_taken f_on f_queues f_queued f_engaged f_dressing f_dressed f_standing f_stations f_limits f_worked _ ) (cwV 1 hts gX11_on_X1_firstIn rfl rfl rfl (by decide +kernel) ⟨Nat.le_of_ble_eq_true rfl, Nat.le_of_ble_eq_true rfl⟩) (pv_w hP hD hK hG [1, 3] rfl rfl rfl 1 rfl rfl) rfl rfl hl.1 rfl (lv_room (Nat.le_of_ble_eq_true rfl)) dX11_on_68 ⟨Nat.le_of_ble_eq_true rfl, Nat.le_of_ble_eq_true rfl⟩) hS (fun q _ h => hF q h) hF (fun r_9 uu9 tt9 H locs ht hvm wr_9 hB hz1 hk1 hS => ?_)
      obtain ⟨hP, hD⟩ := va_join (wr := [(h0, .inr (11, [.ref x_studio, .ref x_script, .ref x_teller, .ref x_planner, .ref x_plan, .ref x_drifts, .ref x_floor, .ref x_trial, .ref x_tape, .int 0, .int (-1)])), (f_on, .inl (cT 0, 3, .inl fon)), (x_studio, .inr (8, [.ref s_puppets, .int 0, .ref s_shots, .int 0, .ref s_sounds, .ref s_rates, .ref s_dresses])), (s_shots, .inl (cT 5, 12, .inr (.inr (.inr (.inr (fun _ => none))))))]) (w1 := []) hP hD [1, 3] [0, 2, 4, 5] rfl rfl (by decide) (by decide) hk1 hF vp_nil vd_nil
      have hP : va_P D vwCl [(h0, .inr (11, [.ref x_studio, .ref x_script, .ref x_teller, .ref x_planner, .ref x_plan, .ref x_drifts, .ref x_floor, .ref x_trial, .ref x_tape, .int 0, .int (-1)])), (f_on, .inl (cT 0, 3, .inl fon)), (x_studio, .inr (8, [.ref s_puppets, .int 0, .ref s_shots, .int 0, .ref s_sounds, .ref s_rates, .ref s_dresses])), (s_shots, .inl (cT 5, 12, .inr (.inr (.inr (.inr (fun _ => none))))))] _ := hP
      have hD : va_D A [(h0, .inr (11, [.ref x_studio, .ref x_script, .ref x_teller, .ref x_planner, .ref x_plan, .ref x_drifts, .ref x_floor, .ref x_trial, .ref x_tape, .int 0, .int (-1)])), (f_on, .inl (cT 0, 3, .inl fon)), (x_studio, .inr (8, [.ref s_puppets, .int 0, .ref s_shots, .int 0, .ref s_sounds, .ref s_rates, .ref s_dresses])), (s_shots, .inl (cT 5, 12, .inr (.inr (.inr (.inr (fun _ => none))))))] := hD
      obtain rfl : r_9 = (-1) := wr_9.trans (rfl)
      refine vx_ret ?_
      refine W.widen (k := 2) (n := 12) (Nat.le_of_ble_eq_true rfl) (Nat.le_of_ble_eq_true rfl) ?_
      exact W.iret (v := (-1)) hx hb hr (fun t ht hW => ⟨⟨(-1), (), rfl, ⟨by simp [th_on, wi_1 wr_1, c_2, c_4, c_6, c_8], by simp [vl_on, c_2, c_4, c_6, c_8]⟩, trivial⟩, hS.F ht⟩) hS.2.2 dX11_on_71
    have tc_2 : p1.toInt ≠ 0 := ne_toInt c_2
    have tc_4 : p1.toInt ≠ 1 := ne_toInt c_4
    have tc_6 : p1.toInt ≠ 2 := ne_toInt c_6
    have tc_8 : p1.toInt ≠ 3 := ne_toInt c_8
    refine lv_tableOut (tgt := 72) hx hb dX11_on_5 (by omega) (by decide) ?_
    obtain ⟨sa9, hsa9⟩ := hG.2.2.2.1 (194, "another what") (by decide +kernel)
    exact vx_throwS (own := RX11) (cls := "java/lang/IllegalArgumentException") (text := "another what") (names := ["java/lang/RuntimeException", "java/lang/Exception"]) (ik := 192) (is := 194) (ic := 196) (A := A) hx hb hst hown (by decide +kernel) (by decide +kernel) (hts (.classLink RX11 192 "java/lang/IllegalArgumentException") (List.mem_of_getElem? (i := 1) (by decide +kernel))) (hts (.initialized "java/lang/IllegalArgumentException") (List.mem_of_getElem? (i := 2) (by decide +kernel))) hsa9 (vx_hat (fun w h => hts w (List.mem_cons_of_mem _ (List.mem_append_left _ (List.mem_append_right _ h)))) (by decide +kernel) (gwB_any hG)) (by decide +kernel) hZ.1 hZ.2 hS (hl.1.trans hml.symm) dX11_on_72 dX11_on_75 dX11_on_76 dX11_on_78 dX11_on_81 (fun x hx9 => (hex x hx9).elim) (Nat.le_of_ble_eq_true rfl) (Nat.le_of_ble_eq_true rfl) (Nat.le_of_ble_eq_true rfl) (Nat.le_of_ble_eq_true rfl) hlocks (fun t hA9 h1 h2 => ⟨(), trivial, (Or.inr ⟨rfl, (by simp [th_on, c_2, c_4, c_6, c_8, wi_1 wr_1])⟩), Nat.le_trans hS.1 h1, fun q hq hA => (h2 q (Nat.lt_of_lt_of_le hq hS.1)).trans (hS.2.1 q hq hA)⟩) hS.2.2 (Nat.le_of_ble_eq_true rfl) (Nat.le_of_ble_eq_true rfl)
theorem dX11_count_0 : decode cX11_count 0 = .ok (.iload_n 1, 1) := by decide +kernel
theorem dX11_count_1 : decode cX11_count 1 = .ok (.tableswitch 84 0 5 #[39, 47, 55, 63, 71, 76], 39) := by decide +kernel
theorem dX11_count_40 : decode cX11_count 40 = .ok (.aload_n 0, 1) := by decide +kernel
theorem dX11_count_41 : decode cX11_count 41 = .ok (.getfield 10, 3) := by decide +kernel
theorem dX11_count_44 : decode cX11_count 44 = .ok (.getfield 75, 3) := by decide +kernel
theorem dX11_count_47 : decode cX11_count 47 = .ok (.ireturn, 1) := by decide +kernel
theorem dX11_count_48 : decode cX11_count 48 = .ok (.aload_n 0, 1) := by decide +kernel
theorem dX11_count_49 : decode cX11_count 49 = .ok (.getfield 10, 3) := by decide +kernel
theorem dX11_count_52 : decode cX11_count 52 = .ok (.getfield 132, 3) := by decide +kernel
theorem dX11_count_55 : decode cX11_count 55 = .ok (.ireturn, 1) := by decide +kernel
theorem dX11_count_56 : decode cX11_count 56 = .ok (.aload_n 0, 1) := by decide +kernel
theorem dX11_count_57 : decode cX11_count 57 = .ok (.getfield 44, 3) := by decide +kernel
theorem dX11_count_60 : decode cX11_count 60 = .ok (.getfield 304, 3) := by decide +kernel
theorem dX11_count_63 : decode cX11_count 63 = .ok (.ireturn, 1) := by decide +kernel
theorem dX11_count_64 : decode cX11_count 64 = .ok (.aload_n 0, 1) := by decide +kernel
theorem dX11_count_65 : decode cX11_count 65 = .ok (.getfield 60, 3) := by decide +kernel
theorem dX11_count_68 : decode cX11_count 68 = .ok (.getfield 321, 3) := by decide +kernel
theorem dX11_count_71 : decode cX11_count 71 = .ok (.ireturn, 1) := by decide +kernel
theorem dX11_count_72 : decode cX11_count 72 = .ok (.aload_n 0, 1) := by decide +kernel
theorem dX11_count_73 : decode cX11_count 73 = .ok (.getfield 125, 3) := by decide +kernel
theorem dX11_count_76 : decode cX11_count 76 = .ok (.ireturn, 1) := by decide +kernel
theorem dX11_count_77 : decode cX11_count 77 = .ok (.aload_n 0, 1) := by decide +kernel
theorem dX11_count_78 : decode cX11_count 78 = .ok (.getfield 51, 3) := by decide +kernel
theorem dX11_count_81 : decode cX11_count 81 = .ok (.getfield 330, 3) := by decide +kernel
theorem dX11_count_84 : decode cX11_count 84 = .ok (.ireturn, 1) := by decide +kernel
theorem dX11_count_85 : decode cX11_count 85 = .ok (.iconst (-1), 1) := by decide +kernel
theorem dX11_count_86 : decode cX11_count 86 = .ok (.ireturn, 1) := by decide +kernel
set_option maxHeartbeats 4000000 in
set_option maxRecDepth 100000 in
theorem c_X11_count (l : Launch) (D : va_G) (cT : Nat → ClassId) (h0 : Nat) (p0 : Int32) (x_studio : Nat) (x_script : Nat) (x_teller : Nat) (x_planner : Nat) (x_plan : Nat) (x_drifts : Nat) (x_floor : Nat) (x_trial : Nat) (x_tape : Nat) (s_puppets : Nat) (s_shots : Nat) (s_sounds : Nat) (s_rates : Nat) (s_dresses : Nat) (n_studio : Nat) (n_shots : Nat) (n_units : Nat) (n_begins : Nat) (f_studio : Nat) (f_taken : Nat) (f_on : Nat) (f_queues : Nat) (f_queued : Nat) (f_engaged : Nat) (f_dressing : Nat) (f_dressed : Nat) (f_standing : Nat) (f_stations : Nat) (f_limits : Nat) (f_worked : Nat) (d_shots : Nat) (d_frames : Nat) (d_values : Nat) (d_halves : Nat) (sz : Nat)  : Met l yX11_count wsX11_count ({ frames := 8, cells := 0, slots := 0, locals := 160 }) (va_Pc [.ref h0, .int p0] (PW D cT [(h0, .inr (11, [.ref x_studio, .ref x_script, .ref x_teller, .ref x_planner, .ref x_plan, .ref x_drifts, .ref x_floor, .ref x_trial, .ref x_tape, .int 0, .int (-1)])), (x_studio, .inr (8, [.ref s_puppets, .int 0, .ref s_shots, .int 0, .ref s_sounds, .ref s_rates, .ref s_dresses])), (x_plan, .inr (3, [.ref n_studio, .int 0, .ref n_shots, .ref n_units, .ref n_begins])), (x_floor, .inr (1, [.ref f_studio, .int 1, .int 0, .ref f_taken, .ref f_on, .ref f_queues, .ref f_queued, .ref f_engaged, .ref f_dressing, .ref f_dressed, .ref f_standing, .ref f_stations, .int 0, .ref f_limits, .ref f_worked, .int 0, .int 0, .int 0])), (x_drifts, .inr (0, [.int 0, .ref d_shots, .ref d_frames, .ref d_values, .ref d_halves]))] sz)) (va_Qi (fun (r : Int32) (_ : Unit) => r = vl_count p0) (fun (_ : Unit) (_ : State) => True) (va_A [(h0, .inr (11, [.ref x_studio, .ref x_script, .ref x_teller, .ref x_planner, .ref x_plan, .ref x_drifts, .ref x_floor, .ref x_trial, .ref x_tape, .int 0, .int (-1)])), (x_studio, .inr (8, [.ref s_puppets, .int 0, .ref s_shots, .int 0, .ref s_sounds, .ref s_rates, .ref s_dresses])), (x_plan, .inr (3, [.ref n_studio, .int 0, .ref n_shots, .ref n_units, .ref n_begins])), (x_floor, .inr (1, [.ref f_studio, .int 1, .int 0, .ref f_taken, .ref f_on, .ref f_queues, .ref f_queued, .ref f_engaged, .ref f_dressing, .ref f_dressed, .ref f_standing, .ref f_stations, .int 0, .ref f_limits, .ref f_worked, .int 0, .int 0, .int 0])), (x_drifts, .inr (0, [.int 0, .ref d_shots, .ref d_frames, .ref d_values, .ref d_halves]))] sz)) 0 0 (va_A [(h0, .inr (11, [.ref x_studio, .ref x_script, .ref x_teller, .ref x_planner, .ref x_plan, .ref x_drifts, .ref x_floor, .ref x_trial, .ref x_tape, .int 0, .int (-1)])), (x_studio, .inr (8, [.ref s_puppets, .int 0, .ref s_shots, .int 0, .ref s_sounds, .ref s_rates, .ref s_dresses])), (x_plan, .inr (3, [.ref n_studio, .int 0, .ref n_shots, .ref n_units, .ref n_begins])), (x_floor, .inr (1, [.ref f_studio, .int 1, .int 0, .ref f_taken, .ref f_on, .ref f_queues, .ref f_queued, .ref f_engaged, .ref f_dressing, .ref f_dressed, .ref f_standing, .ref f_stations, .int 0, .ref f_limits, .ref f_worked, .int 0, .int 0, .int 0])), (x_drifts, .inr (0, [.int 0, .ref d_shots, .ref d_frames, .ref d_values, .ref d_halves]))] sz) := by
  refine Met.ofW (cc := cX11_count) (maxL := 2) (ret := (some .int)) (by decide) rfl ?_
  intro p e s m args below meth c s₁ B hml hv
  obtain ⟨rfl, hsz, hP, hK, hD0, hG⟩ := hv
  have hx := B.exec
  have hb := B.bytes
  have hr := B.returns
  have hts := atoms_spec (ws := wsX11_count) B.pre
  have hown : s.vm.findClass RX11 = some m.cls := findClass_of_methodNamed B.named
  have hlocks := B.notSynchronized
  subst hsz
  have hD := hD0.self (sz := s.heap.size)
  generalize hAe : va_A [(h0, .inr (11, [.ref x_studio, .ref x_script, .ref x_teller, .ref x_planner, .ref x_plan, .ref x_drifts, .ref x_floor, .ref x_trial, .ref x_tape, .int 0, .int (-1)])), (x_studio, .inr (8, [.ref s_puppets, .int 0, .ref s_shots, .int 0, .ref s_sounds, .ref s_rates, .ref s_dresses])), (x_plan, .inr (3, [.ref n_studio, .int 0, .ref n_shots, .ref n_units, .ref n_begins])), (x_floor, .inr (1, [.ref f_studio, .int 1, .int 0, .ref f_taken, .ref f_on, .ref f_queues, .ref f_queued, .ref f_engaged, .ref f_dressing, .ref f_dressed, .ref f_standing, .ref f_stations, .int 0, .ref f_limits, .ref f_worked, .int 0, .int 0, .int 0])), (x_drifts, .inr (0, [.int 0, .ref d_shots, .ref d_frames, .ref d_values, .ref d_halves]))] s.heap.size = A at hD ⊢
  have hA : ∀ q : Nat, s.heap.size ≤ q → A q := fun q h => by rw [← hAe]; exact Or.inr h
  have hS : va_S A s.heap s.heap [] := va_S.rf
  have hP : va_P D vwCl [(h0, .inr (11, [.ref x_studio, .ref x_script, .ref x_teller, .ref x_planner, .ref x_plan, .ref x_drifts, .ref x_floor, .ref x_trial, .ref x_tape, .int 0, .int (-1)])), (x_studio, .inr (8, [.ref s_puppets, .int 0, .ref s_shots, .int 0, .ref s_sounds, .ref s_rates, .ref s_dresses])), (x_plan, .inr (3, [.ref n_studio, .int 0, .ref n_shots, .ref n_units, .ref n_begins])), (x_floor, .inr (1, [.ref f_studio, .int 1, .int 0, .ref f_taken, .ref f_on, .ref f_queues, .ref f_queued, .ref f_engaged, .ref f_dressing, .ref f_dressed, .ref f_standing, .ref f_stations, .int 0, .ref f_limits, .ref f_worked, .int 0, .int 0, .int 0])), (x_drifts, .inr (0, [.int 0, .ref d_shots, .ref d_frames, .ref d_values, .ref d_halves]))] s.heap := hP
  have hl := lv_entry ([.ref h0, .int p0]) (n := 2) (Nat.le_of_ble_eq_true rfl)
  rw [lg_entry_eq]
  generalize (lg_sl ([.ref h0, .int p0]) ++ List.replicate (2 - (lg_sl ([.ref h0, .int p0])).length) Slot.unset).toArray = ls at hl ⊢
  have hl : lv_has ls 2 [(0, .ref h0), (1, .int p0)] := hl
  refine lv_iload_n hx hb dX11_count_0 rfl (lv_at hl 1 rfl) ?_
  by_cases c_1 : p0 = 0
  · refine lv_tableIn (off := 39) (tgt := 40) hx hb dX11_count_1 (by rw [c_1]; decide) (by rw [c_1]; decide) (by rw [c_1]; rfl) (by decide) ?_
    refine lv_aload_n hx hb dX11_count_40 rfl (lv_at hl 0 rfl) ?_
    refine va_get (D := D) (ci := 11) (v := .ref x_studio) (C := RX11) (T := TX11) (N := 11) hx hb hts (fun _ h => List.mem_cons_of_mem _ (List.mem_append_left _ (List.mem_append_left _ (List.mem_append_left _ (List.mem_append_left _ (List.mem_append_right _ h)))))) hown hK hP 0 rfl rfl 0 (by decide) (hts (.fieldLink RX11 10 "PuppetFilm" "studio" "LPuppetFilm$Studio;") (List.mem_of_getElem? (i := 1) (by decide +kernel))) (fun _ h9 => h9) rfl dX11_count_41 ?_
    refine va_get (D := D) (ci := 8) (v := .int 0) (C := RX8) (T := TX8) (N := 7) hx hb hts (fun _ h => List.mem_cons_of_mem _ (List.mem_append_left _ (List.mem_append_left _ (List.mem_append_left _ (List.mem_append_right _ h))))) hown hK hP 1 rfl rfl 1 (by decide) (hts (.fieldLink RX11 75 "PuppetFilm$Studio" "puppetCount" "I") (List.mem_of_getElem? (i := 2) (by decide +kernel))) (fun _ h9 => h9) rfl dX11_count_44 ?_
    exact W.iret (v := 0) hx hb hr (fun t ht hW => ⟨⟨0, (), rfl, by simp [vl_count, c_1], trivial⟩, hS.F ht⟩) hS.2.2 dX11_count_47
  by_cases c_2 : p0 = 1
  · refine lv_tableIn (off := 47) (tgt := 48) hx hb dX11_count_1 (by rw [c_2]; decide) (by rw [c_2]; decide) (by rw [c_2]; rfl) (by decide) ?_
    refine lv_aload_n hx hb dX11_count_48 rfl (lv_at hl 0 rfl) ?_
    refine va_get (D := D) (ci := 11) (v := .ref x_studio) (C := RX11) (T := TX11) (N := 11) hx hb hts (fun _ h => List.mem_cons_of_mem _ (List.mem_append_left _ (List.mem_append_left _ (List.mem_append_left _ (List.mem_append_left _ (List.mem_append_right _ h)))))) hown hK hP 0 rfl rfl 0 (by decide) (hts (.fieldLink RX11 10 "PuppetFilm" "studio" "LPuppetFilm$Studio;") (List.mem_of_getElem? (i := 1) (by decide +kernel))) (fun _ h9 => h9) rfl dX11_count_49 ?_
    refine va_get (D := D) (ci := 8) (v := .int 0) (C := RX8) (T := TX8) (N := 7) hx hb hts (fun _ h => List.mem_cons_of_mem _ (List.mem_append_left _ (List.mem_append_left _ (List.mem_append_left _ (List.mem_append_right _ h))))) hown hK hP 1 rfl rfl 3 (by decide) (hts (.fieldLink RX11 132 "PuppetFilm$Studio" "shotCount" "I") (List.mem_of_getElem? (i := 3) (by decide +kernel))) (fun _ h9 => h9) rfl dX11_count_52 ?_
    exact W.iret (v := 0) hx hb hr (fun t ht hW => ⟨⟨0, (), rfl, by simp [vl_count, c_1, c_2], trivial⟩, hS.F ht⟩) hS.2.2 dX11_count_55
  by_cases c_3 : p0 = 2
  · refine lv_tableIn (off := 55) (tgt := 56) hx hb dX11_count_1 (by rw [c_3]; decide) (by rw [c_3]; decide) (by rw [c_3]; rfl) (by decide) ?_
    refine lv_aload_n hx hb dX11_count_56 rfl (lv_at hl 0 rfl) ?_
    refine va_get (D := D) (ci := 11) (v := .ref x_plan) (C := RX11) (T := TX11) (N := 11) hx hb hts (fun _ h => List.mem_cons_of_mem _ (List.mem_append_left _ (List.mem_append_left _ (List.mem_append_left _ (List.mem_append_left _ (List.mem_append_right _ h)))))) hown hK hP 0 rfl rfl 4 (by decide) (hts (.fieldLink RX11 44 "PuppetFilm" "plan" "LPuppetFilm$Plan;") (List.mem_of_getElem? (i := 4) (by decide +kernel))) (fun _ h9 => h9) rfl dX11_count_57 ?_
    refine va_get (D := D) (ci := 3) (v := .int 0) (C := RX3) (T := TX3) (N := 5) hx hb hts (fun _ h => List.mem_cons_of_mem _ (List.mem_append_left _ (List.mem_append_left _ (List.mem_append_right _ h)))) hown hK hP 2 rfl rfl 1 (by decide) (hts (.fieldLink RX11 304 "PuppetFilm$Plan" "rows" "I") (List.mem_of_getElem? (i := 5) (by decide +kernel))) (fun _ h9 => h9) rfl dX11_count_60 ?_
    exact W.iret (v := 0) hx hb hr (fun t ht hW => ⟨⟨0, (), rfl, by simp [vl_count, c_1, c_2, c_3], trivial⟩, hS.F ht⟩) hS.2.2 dX11_count_63
  by_cases c_4 : p0 = 3
  · refine lv_tableIn (off := 63) (tgt := 64) hx hb dX11_count_1 (by rw [c_4]; decide) (by rw [c_4]; decide) (by rw [c_4]; rfl) (by decide) ?_
    refine lv_aload_n hx hb dX11_count_64 rfl (lv_at hl 0 rfl) ?_
    refine va_get (D := D) (ci := 11) (v := .ref x_floor) (C := RX11) (T := TX11) (N := 11) hx hb hts (fun _ h => List.mem_cons_of_mem _ (List.mem_append_left _ (List.mem_append_left _ (List.mem_append_left _ (List.mem_append_left _ (List.mem_append_right _ h)))))) hown hK hP 0 rfl rfl 6 (by decide) (hts (.fieldLink RX11 60 "PuppetFilm" "floor" "LPuppetFilm$Floor;") (List.mem_of_getElem? (i := 6) (by decide +kernel))) (fun _ h9 => h9) rfl dX11_count_65 ?_
    refine va_get (D := D) (ci := 1) (v := .int 0) (C := RX1) (T := TX1) (N := 18) hx hb hts (fun _ h => List.mem_cons_of_mem _ (List.mem_append_left _ (List.mem_append_right _ h))) hown hK hP 3 rfl rfl 2 (by decide) (hts (.fieldLink RX11 321 "PuppetFilm$Floor" "half" "I") (List.mem_of_getElem? (i := 7) (by decide +kernel))) (fun _ h9 => h9) rfl dX11_count_68 ?_
    exact W.iret (v := 0) hx hb hr (fun t ht hW => ⟨⟨0, (), rfl, by simp [vl_count, c_1, c_2, c_3, c_4], trivial⟩, hS.F ht⟩) hS.2.2 dX11_count_71
  by_cases c_5 : p0 = 4
  · refine lv_tableIn (off := 71) (tgt := 72) hx hb dX11_count_1 (by rw [c_5]; decide) (by rw [c_5]; decide) (by rw [c_5]; rfl) (by decide) ?_
    refine lv_aload_n hx hb dX11_count_72 rfl (lv_at hl 0 rfl) ?_
    refine va_get (D := D) (ci := 11) (v := .int 0) (C := RX11) (T := TX11) (N := 11) hx hb hts (fun _ h => List.mem_cons_of_mem _ (List.mem_append_left _ (List.mem_append_left _ (List.mem_append_left _ (List.mem_append_left _ (List.mem_append_right _ h)))))) hown hK hP 0 rfl rfl 9 (by decide) (hts (.fieldLink RX11 125 "PuppetFilm" "taped" "I") (List.mem_of_getElem? (i := 8) (by decide +kernel))) (fun _ h9 => h9) rfl dX11_count_73 ?_
    exact W.iret (v := 0) hx hb hr (fun t ht hW => ⟨⟨0, (), rfl, by simp [vl_count, c_1, c_2, c_3, c_4, c_5], trivial⟩, hS.F ht⟩) hS.2.2 dX11_count_76
  by_cases c_6 : p0 = 5
  · refine lv_tableIn (off := 76) (tgt := 77) hx hb dX11_count_1 (by rw [c_6]; decide) (by rw [c_6]; decide) (by rw [c_6]; rfl) (by decide) ?_
    refine lv_aload_n hx hb dX11_count_77 rfl (lv_at hl 0 rfl) ?_
    refine va_get (D := D) (ci := 11) (v := .ref x_drifts) (C := RX11) (T := TX11) (N := 11) hx hb hts (fun _ h => List.mem_cons_of_mem _ (List.mem_append_left _ (List.mem_append_left _ (List.mem_append_left _ (List.mem_append_left _ (List.mem_append_right _ h)))))) hown hK hP 0 rfl rfl 5 (by decide) (hts (.fieldLink RX11 51 "PuppetFilm" "drifts" "LPuppetFilm$Drifts;") (List.mem_of_getElem? (i := 9) (by decide +kernel))) (fun _ h9 => h9) rfl dX11_count_78 ?_
    refine va_get (D := D) (ci := 0) (v := .int 0) (C := RX0) (T := TX0) (N := 5) hx hb hts (fun _ h => List.mem_cons_of_mem _ (List.mem_append_right _ h)) hown hK hP 4 rfl rfl 0 (by decide) (hts (.fieldLink RX11 330 "PuppetFilm$Drifts" "count" "I") (List.mem_of_getElem? (i := 10) (by decide +kernel))) (fun _ h9 => h9) rfl dX11_count_81 ?_
    exact W.iret (v := 0) hx hb hr (fun t ht hW => ⟨⟨0, (), rfl, by simp [vl_count, c_1, c_2, c_3, c_4, c_5, c_6], trivial⟩, hS.F ht⟩) hS.2.2 dX11_count_84
  have tc_1 : p0.toInt ≠ 0 := ne_toInt c_1
  have tc_2 : p0.toInt ≠ 1 := ne_toInt c_2
  have tc_3 : p0.toInt ≠ 2 := ne_toInt c_3
  have tc_4 : p0.toInt ≠ 3 := ne_toInt c_4
  have tc_5 : p0.toInt ≠ 4 := ne_toInt c_5
  have tc_6 : p0.toInt ≠ 5 := ne_toInt c_6
  refine lv_tableOut (tgt := 85) hx hb dX11_count_1 (by omega) (by decide) ?_
  refine lv_iconst (v := (-1)) hx hb dX11_count_85 (by decide) ?_
  exact W.iret (v := (-1)) hx hb hr (fun t ht hW => ⟨⟨(-1), (), rfl, by simp [vl_count, c_1, c_2, c_3, c_4, c_5, c_6], trivial⟩, hS.F ht⟩) hS.2.2 dX11_count_86
