theorem dL_joint_0 : decode cL_joint 0 = .ok (.aload 7, 2) := by decide +kernel
theorem dL_joint_11 : decode cL_joint 11 = .ok (.iload 6, 2) := by decide +kernel
theorem dL_joint_13 : decode cL_joint 13 = .ok (.invokevirtual 7, 3) := by decide +kernel
theorem dL_joint_2 : decode cL_joint 2 = .ok (.iconst 0, 1) := by decide +kernel
theorem dL_joint_21 : decode cL_joint 21 = .ok (.astore 8, 2) := by decide +kernel
theorem dL_joint_23 : decode cL_joint 23 = .ok (.iconst 1, 1) := by decide +kernel
theorem dL_joint_24 : decode cL_joint 24 = .ok (.ireturn, 1) := by decide +kernel
theorem dL_joint_3 : decode cL_joint 3 = .ok (.aload_n 0, 1) := by decide +kernel
theorem dL_joint_4 : decode cL_joint 4 = .ok (.iload_n 1, 1) := by decide +kernel
theorem dL_joint_5 : decode cL_joint 5 = .ok (.iload_n 2, 1) := by decide +kernel
theorem dL_joint_6 : decode cL_joint 6 = .ok (.iload_n 3, 1) := by decide +kernel
theorem dL_joint_7 : decode cL_joint 7 = .ok (.iload 4, 2) := by decide +kernel
theorem dL_joint_9 : decode cL_joint 9 = .ok (.iload 5, 2) := by decide +kernel
set_option maxRecDepth 20000 in
theorem ggL_joint_X11_joint : GoodIn wsL_joint wsX11_joint := goodIn_ca (goodIn_ca (goodIn_r _ [7, 8, 9, 10, 11, 6, 12, 13, 14, 15, 16, 17, 18, 19, 20, 21, 22, 23, 24, 25, 26, 27, 28, 29, 30, 31, 32, 33, 34, 35, 36, 37, 38, 39, 40, 41, 42, 43, 44, 45, 46, 47, 48, 49, 50, 51, 52, 53, 54, 55, 56, 57, 58, 59, 60, 61, 62, 63, 64, 65, 66, 67, 68, 69, 70, 71, 72, 73] (by decide +kernel) (by decide +kernel)) (goodIn_sub (fun _ h => List.mem_cons_of_mem _ (List.mem_append_left _ (List.mem_append_right _ h))) (by decide +kernel))) (goodIn_sub (fun _ h => List.mem_cons_of_mem _ (List.mem_append_right _ h)) (by decide +kernel))
set_option maxRecDepth 20000 in
theorem gL_joint_X11_joint : GoodIn wsL_joint (wsV RL 7 RX11 yX11_joint wsX11_joint) := goodIn_app (goodIn_of _ (by decide +kernel)) ggL_joint_X11_joint
set_option maxHeartbeats 4000000 in
set_option maxRecDepth 100000 in
theorem c_L_joint (l : Launch) (hst : l.stackTraces = false) (D : va_G) (cT : Nat → ClassId) (h0 : Nat) (p0 : Int32) (p1 : Int32) (p2 : Int32) (p3 : Int32) (p4 : Int32) (p5 : Int32) (o9 : Nat) (x_studio : Nat) (x_script : Nat) (x_teller : Nat) (x_planner : Nat) (x_plan : Nat) (x_drifts : Nat) (x_floor : Nat) (x_trial : Nat) (x_tape : Nat) (s_puppets : Nat) (s_shots : Nat) (s_sounds : Nat) (s_rates : Nat) (s_dresses : Nat) (sz : Nat)  : Met l yL_joint wsL_joint ({ frames := 11, cells := 1, slots := 6, locals := 340 }) (va_Pc [.ref h0, .int p0, .int p1, .int p2, .int p3, .int p4, .int p5, .ref o9] (PZ D cT [(h0, .inr (11, [.ref x_studio, .ref x_script, .ref x_teller, .ref x_planner, .ref x_plan, .ref x_drifts, .ref x_floor, .ref x_trial, .ref x_tape, .int 0, .int (-1)])), (x_studio, .inr (8, [.ref s_puppets, .int 0, .ref s_shots, .int 0, .ref s_sounds, .ref s_rates, .ref s_dresses])), (s_puppets, .inl (cT 4, 8, .inr (.inr (.inr (.inr (fun _ => none))))))] sz)) (va_Qi (fun (r : Int32) (_ : Unit) => r = 1) (fun (_ : Unit) (_ : State) => True) (va_A [(h0, .inr (11, [.ref x_studio, .ref x_script, .ref x_teller, .ref x_planner, .ref x_plan, .ref x_drifts, .ref x_floor, .ref x_trial, .ref x_tape, .int 0, .int (-1)])), (x_studio, .inr (8, [.ref s_puppets, .int 0, .ref s_shots, .int 0, .ref s_sounds, .ref s_rates, .ref s_dresses])), (s_puppets, .inl (cT 4, 8, .inr (.inr (.inr (.inr (fun _ => none))))))] sz)) 1 6 (va_A [(h0, .inr (11, [.ref x_studio, .ref x_script, .ref x_teller, .ref x_planner, .ref x_plan, .ref x_drifts, .ref x_floor, .ref x_trial, .ref x_tape, .int 0, .int (-1)])), (x_studio, .inr (8, [.ref s_puppets, .int 0, .ref s_shots, .int 0, .ref s_sounds, .ref s_rates, .ref s_dresses])), (s_puppets, .inl (cT 4, 8, .inr (.inr (.inr (.inr (fun _ => none))))))] sz) := by
  refine va_MetW (cc := cL_joint) (maxL := 9) (ret := (some .int)) (by decide) rfl ?_
  intro p e s m args below meth c s₁ B hml hv
  obtain ⟨rfl, ⟨hsz, hP, hK, hD0, hG⟩, hZ⟩ := hv
  have hx := B.exec
  have hb := B.bytes
  have hr := B.returns
  have hts := atoms_spec (ws := wsL_joint) B.pre
  have hown : s.vm.findClass RL = some m.cls := findClass_of_methodNamed B.named
  have hlocks := B.notSynchronized
  have htb := vx_table (x := yL_joint) B (hts _ List.mem_cons_self)
  subst hsz
  have hD := hD0.self (sz := s.heap.size)
  generalize hAe : va_A [(h0, .inr (11, [.ref x_studio, .ref x_script, .ref x_teller, .ref x_planner, .ref x_plan, .ref x_drifts, .ref x_floor, .ref x_trial, .ref x_tape, .int 0, .int (-1)])), (x_studio, .inr (8, [.ref s_puppets, .int 0, .ref s_shots, .int 0, .ref s_sounds, .ref s_rates, .ref s_dresses])), (s_puppets, .inl (cT 4, 8, .inr (.inr (.inr (.inr (fun _ => none))))))] s.heap.size = A at hD hZ ⊢
  have hA : ∀ q : Nat, s.heap.size ≤ q → A q := fun q h => by rw [← hAe]; exact Or.inr h
  have hS : va_S A s.heap s.heap [] := va_S.rf
  have hP : va_P D vwCl [(h0, .inr (11, [.ref x_studio, .ref x_script, .ref x_teller, .ref x_planner, .ref x_plan, .ref x_drifts, .ref x_floor, .ref x_trial, .ref x_tape, .int 0, .int (-1)])), (x_studio, .inr (8, [.ref s_puppets, .int 0, .ref s_shots, .int 0, .ref s_sounds, .ref s_rates, .ref s_dresses])), (s_puppets, .inl (cT 4, 8, .inr (.inr (.inr (.inr (fun _ => none))))))] s.heap := hP
  have hl := lv_entry ([.ref h0, .int p0, .int p1, .int p2, .int p3, .int p4, .int p5, .ref o9]) (n := 9) (Nat.le_of_ble_eq_true rfl)
  rw [lg_entry_eq]
  generalize (lg_sl ([.ref h0, .int p0, .int p1, .int p2, .int p3, .int p4, .int p5, .ref o9]) ++ List.replicate (9 - (lg_sl ([.ref h0, .int p0, .int p1, .int p2, .int p3, .int p4, .int p5, .ref o9])).length) Slot.unset).toArray = ls at hl ⊢
  have hl : lv_has ls 9 [(0, .ref h0), (1, .int p0), (2, .int p1), (3, .int p2), (4, .int p3), (5, .int p4), (6, .int p5), (7, .ref o9)] := hl
  refine lv_aload hx hb dL_joint_0 (lv_at hl 7 rfl) ?_
  refine lv_iconst (v := 0) hx hb dL_joint_2 (by decide) ?_
  refine lv_aload_n hx hb dL_joint_3 rfl (lv_at hl 0 rfl) ?_
  refine lv_iload_n hx hb dL_joint_4 rfl (lv_at hl 1 rfl) ?_
  refine lv_iload_n hx hb dL_joint_5 rfl (lv_at hl 2 rfl) ?_
  refine lv_iload_n hx hb dL_joint_6 rfl (lv_at hl 3 rfl) ?_
  refine lv_iload hx hb dL_joint_7 (lv_at hl 4 rfl) ?_
  refine lv_iload hx hb dL_joint_9 (lv_at hl 5 rfl) ?_
  refine lv_iload hx hb dL_joint_11 (lv_at hl 6 rfl) ?_
  have hF := va_free (wc := [(h0, .inr (11, [.ref x_studio, .ref x_script, .ref x_teller, .ref x_planner, .ref x_plan, .ref x_drifts, .ref x_floor, .ref x_trial, .ref x_tape, .int 0, .int (-1)])), (x_studio, .inr (8, [.ref s_puppets, .int 0, .ref s_shots, .int 0, .ref s_sounds, .ref s_rates, .ref s_dresses])), (s_puppets, .inl (cT 4, 8, .inr (.inr (.inr (.inr (fun _ => none))))))]) hD hS hA [0, 1, 2] rfl
  refine vx_calli (vx_runV (As := [.int p0, .int p1, .int p2, .int p3, .int p4, .int p5]) (rest := [.int 0, .ref o9]) ⟨hx, hb, hml, hown, hts⟩ (c_X11_joint l hst D cT h0 p0 p1 p2 p3 p4 p5 x_studio x_script x_teller x_planner x_plan x_drifts x_floor x_trial x_tape s_puppets s_shots s_sounds s_rates s_dresses _ ) (cwV 6 hts gL_joint_X11_joint rfl rfl rfl (by decide +kernel) ⟨Nat.le_of_ble_eq_true rfl, Nat.le_of_ble_eq_true rfl⟩) (pv_z hP hD hK hG hZ hS hF [0, 1, 2] rfl rfl rfl 0 rfl rfl) rfl rfl hl.1 rfl (lv_room (Nat.le_of_ble_eq_true rfl)) dL_joint_13 ⟨Nat.le_of_ble_eq_true rfl, Nat.le_of_ble_eq_true rfl⟩) hS (fun q _ h => hF q h) hF (fun q _ h => hF q h) (fun E ce q9 uu9 tt9 H locs ht hvm hw hB hz1 hk1 hS hq9 hv9 hc9 => ?_) (fun r_1 uu9 tt9 H locs ht hvm wr_1 hB hz1 hk1 hS => wr_1.elim)
  obtain ⟨rfl, hpx⟩ := hB
  refine vx_widen (k := 1) (n := 6) (Nat.le_of_ble_eq_true rfl) (Nat.le_of_ble_eq_true rfl) ?_
  refine vx_catch (E := "java/lang/IndexOutOfBoundsException") (name := "java/lang/IndexOutOfBoundsException") hown [] ⟨0, 18, 21, 13⟩ [⟨0, 18, 25, 15⟩] htb (fun z hz => nomatch hz) (by decide) (by decide) (hts (.classLink RL 13 "java/lang/IndexOutOfBoundsException") (List.mem_of_getElem? (i := 1) (by decide +kernel))) (gwB_any hG (Cond.castable "java/lang/IndexOutOfBoundsException" "java/lang/IndexOutOfBoundsException") (by decide +kernel)) hq9 hv9 hc9 ?_
  obtain ⟨hP, hD⟩ := va_join (wr := []) (w1 := []) hP hD [0, 1, 2] [] rfl rfl (by decide) (by decide) hk1 hF vp_nil vd_nil
  have hP : va_P D vwCl [] _ := hP
  have hD : va_D A [] := hD
  refine W.eq (g2 := F0 m 21 ls [.ref q9]) rfl ?_
  refine lv_astore (lv' := [(8, .ref q9), (0, .ref h0), (1, .int p0), (2, .int p1), (3, .int p2), (4, .int p3), (5, .int p4), (6, .int p5), (7, .ref o9)]) hx hb dL_joint_21 hl (by decide) rfl (fun ls hl => ?_)
  refine lv_iconst (v := 1) hx hb dL_joint_23 (by decide) ?_
  exact W.iret (v := 1) hx hb hr (fun t ht hW => ⟨⟨1, (), rfl, rfl, trivial⟩, hS.F ht⟩) hS.2.2 dL_joint_24
theorem dL_feet_0 : decode cL_feet 0 = .ok (.aload_n 0, 1) := by decide +kernel
theorem dL_feet_1 : decode cL_feet 1 = .ok (.iload_n 1, 1) := by decide +kernel
theorem dL_feet_10 : decode cL_feet 10 = .ok (.astore 4, 2) := by decide +kernel
theorem dL_feet_12 : decode cL_feet 12 = .ok (.iconst 1, 1) := by decide +kernel
theorem dL_feet_13 : decode cL_feet 13 = .ok (.ireturn, 1) := by decide +kernel
theorem dL_feet_2 : decode cL_feet 2 = .ok (.iload_n 2, 1) := by decide +kernel
theorem dL_feet_3 : decode cL_feet 3 = .ok (.iload_n 3, 1) := by decide +kernel
theorem dL_feet_4 : decode cL_feet 4 = .ok (.invokevirtual 17, 3) := by decide +kernel
set_option maxRecDepth 20000 in
theorem ggL_feet_X11_feet : GoodIn wsL_feet wsX11_feet := goodIn_ca (goodIn_ca (goodIn_r _ [7, 8, 9, 10, 11, 12, 6, 13, 14, 15, 16, 17, 18, 19, 20, 21, 22, 23, 24, 25, 26, 27, 28, 29, 30, 31, 32, 33, 34, 35, 36, 37, 38, 39, 40, 41, 42, 43, 44, 45, 46, 47, 48, 49, 50, 51, 52, 53, 54, 55, 56, 57, 58, 59] (by decide +kernel) (by decide +kernel)) (goodIn_sub (fun _ h => List.mem_cons_of_mem _ (List.mem_append_left _ (List.mem_append_right _ h))) (by decide +kernel))) (goodIn_sub (fun _ h => List.mem_cons_of_mem _ (List.mem_append_right _ h)) (by decide +kernel))
set_option maxRecDepth 20000 in
theorem gL_feet_X11_feet : GoodIn wsL_feet (wsV RL 17 RX11 yX11_feet wsX11_feet) := goodIn_app (goodIn_of _ (by decide +kernel)) ggL_feet_X11_feet
set_option maxHeartbeats 4000000 in
set_option maxRecDepth 100000 in
theorem c_L_feet (l : Launch) (hst : l.stackTraces = false) (D : va_G) (cT : Nat → ClassId) (h0 : Nat) (p0 : Int32) (p1 : Int32) (p2 : Int32) (x_studio : Nat) (x_script : Nat) (x_teller : Nat) (x_planner : Nat) (x_plan : Nat) (x_drifts : Nat) (x_floor : Nat) (x_trial : Nat) (x_tape : Nat) (s_puppets : Nat) (s_shots : Nat) (s_sounds : Nat) (s_rates : Nat) (s_dresses : Nat) (sz : Nat)  : Met l yL_feet wsL_feet ({ frames := 11, cells := 1, slots := 6, locals := 340 }) (va_Pc [.ref h0, .int p0, .int p1, .int p2] (PZ D cT [(h0, .inr (11, [.ref x_studio, .ref x_script, .ref x_teller, .ref x_planner, .ref x_plan, .ref x_drifts, .ref x_floor, .ref x_trial, .ref x_tape, .int 0, .int (-1)])), (x_studio, .inr (8, [.ref s_puppets, .int 0, .ref s_shots, .int 0, .ref s_sounds, .ref s_rates, .ref s_dresses])), (s_puppets, .inl (cT 4, 8, .inr (.inr (.inr (.inr (fun _ => none))))))] sz)) (va_Qi (fun (r : Int32) (_ : Unit) => r = 1) (fun (_ : Unit) (_ : State) => True) (va_A [(h0, .inr (11, [.ref x_studio, .ref x_script, .ref x_teller, .ref x_planner, .ref x_plan, .ref x_drifts, .ref x_floor, .ref x_trial, .ref x_tape, .int 0, .int (-1)])), (x_studio, .inr (8, [.ref s_puppets, .int 0, .ref s_shots, .int 0, .ref s_sounds, .ref s_rates, .ref s_dresses])), (s_puppets, .inl (cT 4, 8, .inr (.inr (.inr (.inr (fun _ => none))))))] sz)) 1 6 (va_A [(h0, .inr (11, [.ref x_studio, .ref x_script, .ref x_teller, .ref x_planner, .ref x_plan, .ref x_drifts, .ref x_floor, .ref x_trial, .ref x_tape, .int 0, .int (-1)])), (x_studio, .inr (8, [.ref s_puppets, .int 0, .ref s_shots, .int 0, .ref s_sounds, .ref s_rates, .ref s_dresses])), (s_puppets, .inl (cT 4, 8, .inr (.inr (.inr (.inr (fun _ => none))))))] sz) := by
  refine va_MetW (cc := cL_feet) (maxL := 5) (ret := (some .int)) (by decide) rfl ?_
  intro p e s m args below meth c s₁ B hml hv
  obtain ⟨rfl, ⟨hsz, hP, hK, hD0, hG⟩, hZ⟩ := hv
  have hx := B.exec
  have hb := B.bytes
  have hr := B.returns
  have hts := atoms_spec (ws := wsL_feet) B.pre
  have hown : s.vm.findClass RL = some m.cls := findClass_of_methodNamed B.named
  have hlocks := B.notSynchronized
  have htb := vx_table (x := yL_feet) B (hts _ List.mem_cons_self)
  subst hsz
  have hD := hD0.self (sz := s.heap.size)
  generalize hAe : va_A [(h0, .inr (11, [.ref x_studio, .ref x_script, .ref x_teller, .ref x_planner, .ref x_plan, .ref x_drifts, .ref x_floor, .ref x_trial, .ref x_tape, .int 0, .int (-1)])), (x_studio, .inr (8, [.ref s_puppets, .int 0, .ref s_shots, .int 0, .ref s_sounds, .ref s_rates, .ref s_dresses])), (s_puppets, .inl (cT 4, 8, .inr (.inr (.inr (.inr (fun _ => none))))))] s.heap.size = A at hD hZ ⊢
  have hA : ∀ q : Nat, s.heap.size ≤ q → A q := fun q h => by rw [← hAe]; exact Or.inr h
  have hS : va_S A s.heap s.heap [] := va_S.rf
  have hP : va_P D vwCl [(h0, .inr (11, [.ref x_studio, .ref x_script, .ref x_teller, .ref x_planner, .ref x_plan, .ref x_drifts, .ref x_floor, .ref x_trial, .ref x_tape, .int 0, .int (-1)])), (x_studio, .inr (8, [.ref s_puppets, .int 0, .ref s_shots, .int 0, .ref s_sounds, .ref s_rates, .ref s_dresses])), (s_puppets, .inl (cT 4, 8, .inr (.inr (.inr (.inr (fun _ => none))))))] s.heap := hP
  have hl := lv_entry ([.ref h0, .int p0, .int p1, .int p2]) (n := 5) (Nat.le_of_ble_eq_true rfl)
  rw [lg_entry_eq]
  generalize (lg_sl ([.ref h0, .int p0, .int p1, .int p2]) ++ List.replicate (5 - (lg_sl ([.ref h0, .int p0, .int p1, .int p2])).length) Slot.unset).toArray = ls at hl ⊢
  have hl : lv_has ls 5 [(0, .ref h0), (1, .int p0), (2, .int p1), (3, .int p2)] := hl
  refine lv_aload_n hx hb dL_feet_0 rfl (lv_at hl 0 rfl) ?_
  refine lv_iload_n hx hb dL_feet_1 rfl (lv_at hl 1 rfl) ?_
  refine lv_iload_n hx hb dL_feet_2 rfl (lv_at hl 2 rfl) ?_
  refine lv_iload_n hx hb dL_feet_3 rfl (lv_at hl 3 rfl) ?_
  have hF := va_free (wc := [(h0, .inr (11, [.ref x_studio, .ref x_script, .ref x_teller, .ref x_planner, .ref x_plan, .ref x_drifts, .ref x_floor, .ref x_trial, .ref x_tape, .int 0, .int (-1)])), (x_studio, .inr (8, [.ref s_puppets, .int 0, .ref s_shots, .int 0, .ref s_sounds, .ref s_rates, .ref s_dresses])), (s_puppets, .inl (cT 4, 8, .inr (.inr (.inr (.inr (fun _ => none))))))]) hD hS hA [0, 1, 2] rfl
  refine vx_callv (vx_runV (As := [.int p0, .int p1, .int p2]) (rest := []) ⟨hx, hb, hml, hown, hts⟩ (c_X11_feet l hst D cT h0 p0 p1 p2 x_studio x_script x_teller x_planner x_plan x_drifts x_floor x_trial x_tape s_puppets s_shots s_sounds s_rates s_dresses _ ) (cwV 3 hts gL_feet_X11_feet rfl rfl rfl (by decide +kernel) ⟨Nat.le_of_ble_eq_true rfl, Nat.le_of_ble_eq_true rfl⟩) (pv_z hP hD hK hG hZ hS hF [0, 1, 2] rfl rfl rfl 0 rfl rfl) rfl rfl hl.1 rfl (lv_room (Nat.le_of_ble_eq_true rfl)) dL_feet_4 ⟨Nat.le_of_ble_eq_true rfl, Nat.le_of_ble_eq_true rfl⟩) hS (fun q _ h => hF q h) hF (fun q _ h => hF q h) (fun E ce q9 uu9 tt9 H locs ht hvm hw hB hz1 hk1 hS hq9 hv9 hc9 => ?_) (fun uu9 tt9 H locs ht hvm wr_1 hB hz1 hk1 hS => wr_1.elim)
  obtain ⟨rfl, hpx⟩ := hB
  refine vx_widen (k := 1) (n := 6) (Nat.le_of_ble_eq_true rfl) (Nat.le_of_ble_eq_true rfl) ?_
  refine vx_catch (E := "java/lang/IndexOutOfBoundsException") (name := "java/lang/IndexOutOfBoundsException") hown [] ⟨0, 7, 10, 13⟩ [⟨0, 7, 14, 15⟩] htb (fun z hz => nomatch hz) (by decide) (by decide) (hts (.classLink RL 13 "java/lang/IndexOutOfBoundsException") (List.mem_of_getElem? (i := 1) (by decide +kernel))) (gwB_any hG (Cond.castable "java/lang/IndexOutOfBoundsException" "java/lang/IndexOutOfBoundsException") (by decide +kernel)) hq9 hv9 hc9 ?_
  obtain ⟨hP, hD⟩ := va_join (wr := []) (w1 := []) hP hD [0, 1, 2] [] rfl rfl (by decide) (by decide) hk1 hF vp_nil vd_nil
  have hP : va_P D vwCl [] _ := hP
  have hD : va_D A [] := hD
  refine W.eq (g2 := F0 m 10 ls [.ref q9]) rfl ?_
  refine lv_astore (lv' := [(4, .ref q9), (0, .ref h0), (1, .int p0), (2, .int p1), (3, .int p2)]) hx hb dL_feet_10 hl (by decide) rfl (fun ls hl => ?_)
  refine lv_iconst (v := 1) hx hb dL_feet_12 (by decide) ?_
  exact W.iret (v := 1) hx hb hr (fun t ht hW => ⟨⟨1, (), rfl, rfl, trivial⟩, hS.F ht⟩) hS.2.2 dL_feet_13
theorem dL_kit_0 : decode cL_kit 0 = .ok (.aload_n 3, 1) := by decide +kernel
theorem dL_kit_1 : decode cL_kit 1 = .ok (.iconst 0, 1) := by decide +kernel
theorem dL_kit_13 : decode cL_kit 13 = .ok (.astore 4, 2) := by decide +kernel
theorem dL_kit_15 : decode cL_kit 15 = .ok (.iconst 1, 1) := by decide +kernel
theorem dL_kit_16 : decode cL_kit 16 = .ok (.ireturn, 1) := by decide +kernel
theorem dL_kit_2 : decode cL_kit 2 = .ok (.aload_n 0, 1) := by decide +kernel
theorem dL_kit_3 : decode cL_kit 3 = .ok (.iload_n 1, 1) := by decide +kernel
theorem dL_kit_4 : decode cL_kit 4 = .ok (.iload_n 2, 1) := by decide +kernel
theorem dL_kit_5 : decode cL_kit 5 = .ok (.invokevirtual 21, 3) := by decide +kernel
set_option maxRecDepth 20000 in
theorem ggL_kit_X11_kit : GoodIn wsL_kit wsX11_kit := goodIn_ca (goodIn_ca (goodIn_r _ [7, 8, 9, 10, 11, 6, 12, 13, 14, 15, 16, 17, 18, 19, 20, 21, 22, 23, 24, 25, 26, 27, 28, 29, 30, 31, 32, 33, 34, 35, 36, 37, 38, 39, 40, 41, 42, 43, 44, 45, 46, 47, 48, 49, 50, 51, 52, 53, 54, 55, 56, 57, 58] (by decide +kernel) (by decide +kernel)) (goodIn_sub (fun _ h => List.mem_cons_of_mem _ (List.mem_append_left _ (List.mem_append_right _ h))) (by decide +kernel))) (goodIn_sub (fun _ h => List.mem_cons_of_mem _ (List.mem_append_right _ h)) (by decide +kernel))
set_option maxRecDepth 20000 in
theorem gL_kit_X11_kit : GoodIn wsL_kit (wsV RL 21 RX11 yX11_kit wsX11_kit) := goodIn_app (goodIn_of _ (by decide +kernel)) ggL_kit_X11_kit
set_option maxHeartbeats 4000000 in
set_option maxRecDepth 100000 in
theorem c_L_kit (l : Launch) (hst : l.stackTraces = false) (D : va_G) (cT : Nat → ClassId) (h0 : Nat) (p0 : Int32) (p1 : Int32) (o9 : Nat) (x_studio : Nat) (x_script : Nat) (x_teller : Nat) (x_planner : Nat) (x_plan : Nat) (x_drifts : Nat) (x_floor : Nat) (x_trial : Nat) (x_tape : Nat) (s_puppets : Nat) (s_shots : Nat) (s_sounds : Nat) (s_rates : Nat) (s_dresses : Nat) (sz : Nat)  : Met l yL_kit wsL_kit ({ frames := 11, cells := 1, slots := 6, locals := 340 }) (va_Pc [.ref h0, .int p0, .int p1, .ref o9] (PZ D cT [(h0, .inr (11, [.ref x_studio, .ref x_script, .ref x_teller, .ref x_planner, .ref x_plan, .ref x_drifts, .ref x_floor, .ref x_trial, .ref x_tape, .int 0, .int (-1)])), (x_studio, .inr (8, [.ref s_puppets, .int 0, .ref s_shots, .int 0, .ref s_sounds, .ref s_rates, .ref s_dresses])), (s_puppets, .inl (cT 4, 8, .inr (.inr (.inr (.inr (fun _ => none))))))] sz)) (va_Qi (fun (r : Int32) (_ : Unit) => r = 1) (fun (_ : Unit) (_ : State) => True) (va_A [(h0, .inr (11, [.ref x_studio, .ref x_script, .ref x_teller, .ref x_planner, .ref x_plan, .ref x_drifts, .ref x_floor, .ref x_trial, .ref x_tape, .int 0, .int (-1)])), (x_studio, .inr (8, [.ref s_puppets, .int 0, .ref s_shots, .int 0, .ref s_sounds, .ref s_rates, .ref s_dresses])), (s_puppets, .inl (cT 4, 8, .inr (.inr (.inr (.inr (fun _ => none))))))] sz)) 1 6 (va_A [(h0, .inr (11, [.ref x_studio, .ref x_script, .ref x_teller, .ref x_planner, .ref x_plan, .ref x_drifts, .ref x_floor, .ref x_trial, .ref x_tape, .int 0, .int (-1)])), (x_studio, .inr (8, [.ref s_puppets, .int 0, .ref s_shots, .int 0, .ref s_sounds, .ref s_rates, .ref s_dresses])), (s_puppets, .inl (cT 4, 8, .inr (.inr (.inr (.inr (fun _ => none))))))] sz) := by
  refine va_MetW (cc := cL_kit) (maxL := 5) (ret := (some .int)) (by decide) rfl ?_
  intro p e s m args below meth c s₁ B hml hv
  obtain ⟨rfl, ⟨hsz, hP, hK, hD0, hG⟩, hZ⟩ := hv
  have hx := B.exec
  have hb := B.bytes
  have hr := B.returns
  have hts := atoms_spec (ws := wsL_kit) B.pre
  have hown : s.vm.findClass RL = some m.cls := findClass_of_methodNamed B.named
  have hlocks := B.notSynchronized
  have htb := vx_table (x := yL_kit) B (hts _ List.mem_cons_self)
  subst hsz
  have hD := hD0.self (sz := s.heap.size)
  generalize hAe : va_A [(h0, .inr (11, [.ref x_studio, .ref x_script, .ref x_teller, .ref x_planner, .ref x_plan, .ref x_drifts, .ref x_floor, .ref x_trial, .ref x_tape, .int 0, .int (-1)])), (x_studio, .inr (8, [.ref s_puppets, .int 0, .ref s_shots, .int 0, .ref s_sounds, .ref s_rates, .ref s_dresses])), (s_puppets, .inl (cT 4, 8, .inr (.inr (.inr (.inr (fun _ => none))))))] s.heap.size = A at hD hZ ⊢
  have hA : ∀ q : Nat, s.heap.size ≤ q → A q := fun q h => by rw [← hAe]; exact Or.inr h
  have hS : va_S A s.heap s.heap [] := va_S.rf
  have hP : va_P D vwCl [(h0, .inr (11, [.ref x_studio, .ref x_script, .ref x_teller, .ref x_planner, .ref x_plan, .ref x_drifts, .ref x_floor, .ref x_trial, .ref x_tape, .int 0, .int (-1)])), (x_studio, .inr (8, [.ref s_puppets, .int 0, .ref s_shots, .int 0, .ref s_sounds, .ref s_rates, .ref s_dresses])), (s_puppets, .inl (cT 4, 8, .inr (.inr (.inr (.inr (fun _ => none))))))] s.heap := hP
  have hl := lv_entry ([.ref h0, .int p0, .int p1, .ref o9]) (n := 5) (Nat.le_of_ble_eq_true rfl)
  rw [lg_entry_eq]
  generalize (lg_sl ([.ref h0, .int p0, .int p1, .ref o9]) ++ List.replicate (5 - (lg_sl ([.ref h0, .int p0, .int p1, .ref o9])).length) Slot.unset).toArray = ls at hl ⊢
  have hl : lv_has ls 5 [(0, .ref h0), (1, .int p0), (2, .int p1), (3, .ref o9)] := hl
  refine lv_aload_n hx hb dL_kit_0 rfl (lv_at hl 3 rfl) ?_
  refine lv_iconst (v := 0) hx hb dL_kit_1 (by decide) ?_
  refine lv_aload_n hx hb dL_kit_2 rfl (lv_at hl 0 rfl) ?_
  refine lv_iload_n hx hb dL_kit_3 rfl (lv_at hl 1 rfl) ?_
  refine lv_iload_n hx hb dL_kit_4 rfl (lv_at hl 2 rfl) ?_
  have hF := va_free (wc := [(h0, .inr (11, [.ref x_studio, .ref x_script, .ref x_teller, .ref x_planner, .ref x_plan, .ref x_drifts, .ref x_floor, .ref x_trial, .ref x_tape, .int 0, .int (-1)])), (x_studio, .inr (8, [.ref s_puppets, .int 0, .ref s_shots, .int 0, .ref s_sounds, .ref s_rates, .ref s_dresses])), (s_puppets, .inl (cT 4, 8, .inr (.inr (.inr (.inr (fun _ => none))))))]) hD hS hA [0, 1, 2] rfl
  refine vx_calli (vx_runV (As := [.int p0, .int p1]) (rest := [.int 0, .ref o9]) ⟨hx, hb, hml, hown, hts⟩ (c_X11_kit l hst D cT h0 p0 p1 x_studio x_script x_teller x_planner x_plan x_drifts x_floor x_trial x_tape s_puppets s_shots s_sounds s_rates s_dresses _ ) (cwV 2 hts gL_kit_X11_kit rfl rfl rfl (by decide +kernel) ⟨Nat.le_of_ble_eq_true rfl, Nat.le_of_ble_eq_true rfl⟩) (pv_z hP hD hK hG hZ hS hF [0, 1, 2] rfl rfl rfl 0 rfl rfl) rfl rfl hl.1 rfl (lv_room (Nat.le_of_ble_eq_true rfl)) dL_kit_5 ⟨Nat.le_of_ble_eq_true rfl, Nat.le_of_ble_eq_true rfl⟩) hS (fun q _ h => hF q h) hF (fun q _ h => hF q h) (fun E ce q9 uu9 tt9 H locs ht hvm hw hB hz1 hk1 hS hq9 hv9 hc9 => ?_) (fun r_1 uu9 tt9 H locs ht hvm wr_1 hB hz1 hk1 hS => wr_1.elim)
  obtain ⟨rfl, hpx⟩ := hB
  refine vx_widen (k := 1) (n := 6) (Nat.le_of_ble_eq_true rfl) (Nat.le_of_ble_eq_true rfl) ?_
  refine vx_catch (E := "java/lang/IndexOutOfBoundsException") (name := "java/lang/IndexOutOfBoundsException") hown [] ⟨0, 10, 13, 13⟩ [⟨0, 10, 17, 15⟩] htb (fun z hz => nomatch hz) (by decide) (by decide) (hts (.classLink RL 13 "java/lang/IndexOutOfBoundsException") (List.mem_of_getElem? (i := 1) (by decide +kernel))) (gwB_any hG (Cond.castable "java/lang/IndexOutOfBoundsException" "java/lang/IndexOutOfBoundsException") (by decide +kernel)) hq9 hv9 hc9 ?_
  obtain ⟨hP, hD⟩ := va_join (wr := []) (w1 := []) hP hD [0, 1, 2] [] rfl rfl (by decide) (by decide) hk1 hF vp_nil vd_nil
  have hP : va_P D vwCl [] _ := hP
  have hD : va_D A [] := hD
  refine W.eq (g2 := F0 m 13 ls [.ref q9]) rfl ?_
  refine lv_astore (lv' := [(4, .ref q9), (0, .ref h0), (1, .int p0), (2, .int p1), (3, .ref o9)]) hx hb dL_kit_13 hl (by decide) rfl (fun ls hl => ?_)
  refine lv_iconst (v := 1) hx hb dL_kit_15 (by decide) ?_
  exact W.iret (v := 1) hx hb hr (fun t ht hW => ⟨⟨1, (), rfl, rfl, trivial⟩, hS.F ht⟩) hS.2.2 dL_kit_16
theorem dL_best_0 : decode cL_best 0 = .ok (.aload 4, 2) := by decide +kernel
theorem dL_best_15 : decode cL_best 15 = .ok (.astore 5, 2) := by decide +kernel
theorem dL_best_17 : decode cL_best 17 = .ok (.iconst 1, 1) := by decide +kernel
theorem dL_best_18 : decode cL_best 18 = .ok (.ireturn, 1) := by decide +kernel
theorem dL_best_2 : decode cL_best 2 = .ok (.iconst 0, 1) := by decide +kernel
theorem dL_best_3 : decode cL_best 3 = .ok (.aload_n 0, 1) := by decide +kernel
theorem dL_best_4 : decode cL_best 4 = .ok (.iload_n 1, 1) := by decide +kernel
theorem dL_best_5 : decode cL_best 5 = .ok (.iload_n 2, 1) := by decide +kernel
theorem dL_best_6 : decode cL_best 6 = .ok (.iload_n 3, 1) := by decide +kernel
theorem dL_best_7 : decode cL_best 7 = .ok (.invokevirtual 79, 3) := by decide +kernel
set_option maxRecDepth 20000 in
theorem ggL_best_X11_best : GoodIn wsL_best wsX11_best := goodIn_ca (goodIn_r _ [6, 7, 8, 9, 10, 11, 12, 13, 5, 14, 15, 16, 17, 18, 19, 20, 21, 22, 23, 24, 25, 26, 27, 28, 29, 30, 31, 32, 33, 34, 35, 36, 37, 38, 39, 40, 41, 42, 43, 44, 45, 46, 47, 48, 49, 50, 51, 52, 53, 54, 55, 56, 57, 58, 59, 60, 61, 62, 63, 64, 65, 66, 67, 68, 69, 70, 71, 72, 73, 74, 75, 76, 77, 78, 79, 80, 81, 82, 83, 84, 85, 86, 87, 88, 89, 90, 91, 92, 93, 94, 95, 96, 97, 98, 99, 100, 101, 102, 103, 104, 105, 106, 107, 108, 109, 110, 111, 112, 113, 114, 115, 116, 117, 118, 119, 120, 121, 122, 123, 124, 125, 126, 127, 128, 129, 130, 131, 132, 133, 134, 135, 136, 137, 138, 139, 140, 141, 142, 143, 144, 145, 146, 147, 148, 149, 150, 151, 152, 153, 154, 155, 156, 157, 158, 159, 160, 161, 162, 163, 164, 165, 166, 167, 168, 169, 170, 171, 172, 173, 174, 175, 176, 177, 178, 179, 180, 181, 182, 183, 184, 185, 186, 187, 188, 189, 190, 191, 192, 193, 194, 195, 196, 197, 198, 199, 200, 201, 202, 203, 204, 205, 206, 207, 208, 209, 210, 211, 212, 213, 214, 215, 216, 217, 218, 219, 220, 221, 222, 223, 224, 225, 226, 227, 228, 229, 230, 231, 232, 233, 234, 235, 236, 237] (by decide +kernel) (by decide +kernel)) (goodIn_sub (fun _ h => List.mem_cons_of_mem _ (List.mem_append_right _ h)) (by decide +kernel))
set_option maxRecDepth 20000 in
theorem gL_best_X11_best : GoodIn wsL_best (wsV RL 79 RX11 yX11_best wsX11_best) := goodIn_app (goodIn_of _ (by decide +kernel)) ggL_best_X11_best
set_option maxHeartbeats 4000000 in
set_option maxRecDepth 100000 in
theorem c_L_best (l : Launch) (hst : l.stackTraces = false) (D : va_G) (cT : Nat → ClassId) (h0 : Nat) (p0 : Int32) (p1 : Int32) (p2 : Int32) (o9 : Nat) (x_studio : Nat) (x_script : Nat) (x_teller : Nat) (x_planner : Nat) (x_plan : Nat) (x_drifts : Nat) (x_floor : Nat) (x_trial : Nat) (x_tape : Nat) (s_puppets : Nat) (s_shots : Nat) (s_sounds : Nat) (s_rates : Nat) (s_dresses : Nat) (sz : Nat)  : Met l yL_best wsL_best ({ frames := 10, cells := 1, slots := 6, locals := 280 }) (va_Pc [.ref h0, .int p0, .int p1, .int p2, .ref o9] (PZ D cT [(h0, .inr (11, [.ref x_studio, .ref x_script, .ref x_teller, .ref x_planner, .ref x_plan, .ref x_drifts, .ref x_floor, .ref x_trial, .ref x_tape, .int 0, .int (-1)])), (x_studio, .inr (8, [.ref s_puppets, .int 0, .ref s_shots, .int 0, .ref s_sounds, .ref s_rates, .ref s_dresses]))] sz)) (va_Qi (fun (r : Int32) (_ : Unit) => r = 1) (fun (_ : Unit) (_ : State) => True) (va_A [(h0, .inr (11, [.ref x_studio, .ref x_script, .ref x_teller, .ref x_planner, .ref x_plan, .ref x_drifts, .ref x_floor, .ref x_trial, .ref x_tape, .int 0, .int (-1)])), (x_studio, .inr (8, [.ref s_puppets, .int 0, .ref s_shots, .int 0, .ref s_sounds, .ref s_rates, .ref s_dresses]))] sz)) 1 6 (va_A [(h0, .inr (11, [.ref x_studio, .ref x_script, .ref x_teller, .ref x_planner, .ref x_plan, .ref x_drifts, .ref x_floor, .ref x_trial, .ref x_tape, .int 0, .int (-1)])), (x_studio, .inr (8, [.ref s_puppets, .int 0, .ref s_shots, .int 0, .ref s_sounds, .ref s_rates, .ref s_dresses]))] sz) := by
  refine va_MetW (cc := cL_best) (maxL := 6) (ret := (some .int)) (by decide) rfl ?_
  intro p e s m args below meth c s₁ B hml hv
  obtain ⟨rfl, ⟨hsz, hP, hK, hD0, hG⟩, hZ⟩ := hv
  have hx := B.exec
  have hb := B.bytes
  have hr := B.returns
  have hts := atoms_spec (ws := wsL_best) B.pre
  have hown : s.vm.findClass RL = some m.cls := findClass_of_methodNamed B.named
  have hlocks := B.notSynchronized
  have htb := vx_table (x := yL_best) B (hts _ List.mem_cons_self)
  subst hsz
  have hD := hD0.self (sz := s.heap.size)
  generalize hAe : va_A [(h0, .inr (11, [.ref x_studio, .ref x_script, .ref x_teller, .ref x_planner, .ref x_plan, .ref x_drifts, .ref x_floor, .ref x_trial, .ref x_tape, .int 0, .int (-1)])), (x_studio, .inr (8, [.ref s_puppets, .int 0, .ref s_shots, .int 0, .ref s_sounds, .ref s_rates, .ref s_dresses]))] s.heap.size = A at hD hZ ⊢
  have hA : ∀ q : Nat, s.heap.size ≤ q → A q := fun q h => by rw [← hAe]; exact Or.inr h
  have hS : va_S A s.heap s.heap [] := va_S.rf
  have hP : va_P D vwCl [(h0, .inr (11, [.ref x_studio, .ref x_script, .ref x_teller, .ref x_planner, .ref x_plan, .ref x_drifts, .ref x_floor, .ref x_trial, .ref x_tape, .int 0, .int (-1)])), (x_studio, .inr (8, [.ref s_puppets, .int 0, .ref s_shots, .int 0, .ref s_sounds, .ref s_rates, .ref s_dresses]))] s.heap := hP
  have hl := lv_entry ([.ref h0, .int p0, .int p1, .int p2, .ref o9]) (n := 6) (Nat.le_of_ble_eq_true rfl)
  rw [lg_entry_eq]
  generalize (lg_sl ([.ref h0, .int p0, .int p1, .int p2, .ref o9]) ++ List.replicate (6 - (lg_sl ([.ref h0, .int p0, .int p1, .int p2, .ref o9])).length) Slot.unset).toArray = ls at hl ⊢
  have hl : lv_has ls 6 [(0, .ref h0), (1, .int p0), (2, .int p1), (3, .int p2), (4, .ref o9)] := hl
  refine lv_aload hx hb dL_best_0 (lv_at hl 4 rfl) ?_
  refine lv_iconst (v := 0) hx hb dL_best_2 (by decide) ?_
  refine lv_aload_n hx hb dL_best_3 rfl (lv_at hl 0 rfl) ?_
  refine lv_iload_n hx hb dL_best_4 rfl (lv_at hl 1 rfl) ?_
  refine lv_iload_n hx hb dL_best_5 rfl (lv_at hl 2 rfl) ?_
  refine lv_iload_n hx hb dL_best_6 rfl (lv_at hl 3 rfl) ?_
  have hF := va_free (wc := [(h0, .inr (11, [.ref x_studio, .ref x_script, .ref x_teller, .ref x_planner, .ref x_plan, .ref x_drifts, .ref x_floor, .ref x_trial, .ref x_tape, .int 0, .int (-1)])), (x_studio, .inr (8, [.ref s_puppets, .int 0, .ref s_shots, .int 0, .ref s_sounds, .ref s_rates, .ref s_dresses]))]) hD hS hA [0, 1] rfl
  refine vx_calli (vx_runV (As := [.int p0, .int p1, .int p2]) (rest := [.int 0, .ref o9]) ⟨hx, hb, hml, hown, hts⟩ (c_X11_best l hst D cT h0 p0 p1 p2 x_studio x_script x_teller x_planner x_plan x_drifts x_floor x_trial x_tape s_puppets s_shots s_sounds s_rates s_dresses _ ) (cwV 3 hts gL_best_X11_best rfl rfl rfl (by decide +kernel) ⟨Nat.le_of_ble_eq_true rfl, Nat.le_of_ble_eq_true rfl⟩) (pv_z hP hD hK hG hZ hS hF [0, 1] rfl rfl rfl 0 rfl rfl) rfl rfl hl.1 rfl (lv_room (Nat.le_of_ble_eq_true rfl)) dL_best_7 ⟨Nat.le_of_ble_eq_true rfl, Nat.le_of_ble_eq_true rfl⟩) hS (fun q _ h => hF q h) hF (fun q _ h => hF q h) (fun E ce q9 uu9 tt9 H locs ht hvm hw hB hz1 hk1 hS hq9 hv9 hc9 => ?_) (fun r_1 uu9 tt9 H locs ht hvm wr_1 hB hz1 hk1 hS => wr_1.elim)
  obtain ⟨rfl, hpx⟩ := hB
  refine vx_widen (k := 1) (n := 6) (Nat.le_of_ble_eq_true rfl) (Nat.le_of_ble_eq_true rfl) ?_
  refine vx_catch (E := "java/lang/IllegalArgumentException") (name := "java/lang/IllegalArgumentException") hown [] ⟨0, 12, 15, 15⟩ [] htb (fun z hz => nomatch hz) (by decide) (by decide) (hts (.classLink RL 15 "java/lang/IllegalArgumentException") (List.mem_of_getElem? (i := 1) (by decide +kernel))) (gwB_any hG (Cond.castable "java/lang/IllegalArgumentException" "java/lang/IllegalArgumentException") (by decide +kernel)) hq9 hv9 hc9 ?_
  obtain ⟨hP, hD⟩ := va_join (wr := []) (w1 := []) hP hD [0, 1] [] rfl rfl (by decide) (by decide) hk1 hF vp_nil vd_nil
  have hP : va_P D vwCl [] _ := hP
  have hD : va_D A [] := hD
  refine W.eq (g2 := F0 m 15 ls [.ref q9]) rfl ?_
  refine lv_astore (lv' := [(5, .ref q9), (0, .ref h0), (1, .int p0), (2, .int p1), (3, .int p2), (4, .ref o9)]) hx hb dL_best_15 hl (by decide) rfl (fun ls hl => ?_)
  refine lv_iconst (v := 1) hx hb dL_best_17 (by decide) ?_
  exact W.iret (v := 1) hx hb hr (fun t ht hW => ⟨⟨1, (), rfl, rfl, trivial⟩, hS.F ht⟩) hS.2.2 dL_best_18
theorem dL_worked_0 : decode cL_worked 0 = .ok (.aload_n 2, 1) := by decide +kernel
theorem dL_worked_1 : decode cL_worked 1 = .ok (.iconst 0, 1) := by decide +kernel
theorem dL_worked_12 : decode cL_worked 12 = .ok (.astore_n 3, 1) := by decide +kernel
theorem dL_worked_13 : decode cL_worked 13 = .ok (.iconst 1, 1) := by decide +kernel
theorem dL_worked_14 : decode cL_worked 14 = .ok (.ireturn, 1) := by decide +kernel
theorem dL_worked_2 : decode cL_worked 2 = .ok (.aload_n 0, 1) := by decide +kernel
theorem dL_worked_3 : decode cL_worked 3 = .ok (.iload_n 1, 1) := by decide +kernel
theorem dL_worked_4 : decode cL_worked 4 = .ok (.invokevirtual 131, 3) := by decide +kernel
set_option maxRecDepth 20000 in
theorem ggL_worked_X11_worked : GoodIn wsL_worked wsX11_worked := goodIn_ca (goodIn_r _ [6, 7, 8, 9, 10, 5, 11, 12, 13, 14, 15, 16, 17, 18, 19, 20, 21, 22, 23, 24, 25, 26, 27, 28, 29, 30, 31, 32, 33, 34, 35, 36, 37, 38, 39, 40, 41, 42, 43, 44, 45, 46, 47, 48, 49, 50, 51, 52, 53, 54, 55, 56, 57, 58, 59, 60, 61, 62, 63] (by decide +kernel) (by decide +kernel)) (goodIn_sub (fun _ h => List.mem_cons_of_mem _ (List.mem_append_right _ h)) (by decide +kernel))
set_option maxRecDepth 20000 in
theorem gL_worked_X11_worked : GoodIn wsL_worked (wsV RL 131 RX11 yX11_worked wsX11_worked) := goodIn_app (goodIn_of _ (by decide +kernel)) ggL_worked_X11_worked
set_option maxHeartbeats 4000000 in
set_option maxRecDepth 100000 in
theorem c_L_worked (l : Launch) (hst : l.stackTraces = false) (D : va_G) (cT : Nat → ClassId) (h0 : Nat) (p0 : Int32) (o9 : Nat) (x_studio : Nat) (x_script : Nat) (x_teller : Nat) (x_planner : Nat) (x_plan : Nat) (x_drifts : Nat) (x_floor : Nat) (x_trial : Nat) (x_tape : Nat) (f_studio : Nat) (f_taken : Nat) (f_on : Nat) (f_queues : Nat) (f_queued : Nat) (f_engaged : Nat) (f_dressing : Nat) (f_dressed : Nat) (f_standing : Nat) (f_stations : Nat) (f_limits : Nat) (f_worked : Nat) (sz : Nat)  : Met l yL_worked wsL_worked ({ frames := 10, cells := 1, slots := 6, locals := 280 }) (va_Pc [.ref h0, .int p0, .ref o9] (PZ D cT [(h0, .inr (11, [.ref x_studio, .ref x_script, .ref x_teller, .ref x_planner, .ref x_plan, .ref x_drifts, .ref x_floor, .ref x_trial, .ref x_tape, .int 0, .int (-1)])), (x_floor, .inr (1, [.ref f_studio, .int 1, .int 0, .ref f_taken, .ref f_on, .ref f_queues, .ref f_queued, .ref f_engaged, .ref f_dressing, .ref f_dressed, .ref f_standing, .ref f_stations, .int 0, .ref f_limits, .ref f_worked, .int 0, .int 0, .int 0]))] sz)) (va_Qi (fun (r : Int32) (_ : Unit) => r = 1) (fun (_ : Unit) (_ : State) => True) (va_A [(h0, .inr (11, [.ref x_studio, .ref x_script, .ref x_teller, .ref x_planner, .ref x_plan, .ref x_drifts, .ref x_floor, .ref x_trial, .ref x_tape, .int 0, .int (-1)])), (x_floor, .inr (1, [.ref f_studio, .int 1, .int 0, .ref f_taken, .ref f_on, .ref f_queues, .ref f_queued, .ref f_engaged, .ref f_dressing, .ref f_dressed, .ref f_standing, .ref f_stations, .int 0, .ref f_limits, .ref f_worked, .int 0, .int 0, .int 0]))] sz)) 1 6 (va_A [(h0, .inr (11, [.ref x_studio, .ref x_script, .ref x_teller, .ref x_planner, .ref x_plan, .ref x_drifts, .ref x_floor, .ref x_trial, .ref x_tape, .int 0, .int (-1)])), (x_floor, .inr (1, [.ref f_studio, .int 1, .int 0, .ref f_taken, .ref f_on, .ref f_queues, .ref f_queued, .ref f_engaged, .ref f_dressing, .ref f_dressed, .ref f_standing, .ref f_stations, .int 0, .ref f_limits, .ref f_worked, .int 0, .int 0, .int 0]))] sz) := by
  refine va_MetW (cc := cL_worked) (maxL := 4) (ret := (some .int)) (by decide) rfl ?_
  intro p e s m args below meth c s₁ B hml hv
  obtain ⟨rfl, ⟨hsz, hP, hK, hD0, hG⟩, hZ⟩ := hv
  have hx := B.exec
  have hb := B.bytes
  have hr := B.returns
  have hts := atoms_spec (ws := wsL_worked) B.pre
  have hown : s.vm.findClass RL = some m.cls := findClass_of_methodNamed B.named
  have hlocks := B.notSynchronized
  have htb := vx_table (x := yL_worked) B (hts _ List.mem_cons_self)
  subst hsz
  have hD := hD0.self (sz := s.heap.size)
  generalize hAe : va_A [(h0, .inr (11, [.ref x_studio, .ref x_script, .ref x_teller, .ref x_planner, .ref x_plan, .ref x_drifts, .ref x_floor, .ref x_trial, .ref x_tape, .int 0, .int (-1)])), (x_floor, .inr (1, [.ref f_studio, .int 1, .int 0, .ref f_taken, .ref f_on, .ref f_queues, .ref f_queued, .ref f_engaged, .ref f_dressing, .ref f_dressed, .ref f_standing, .ref f_stations, .int 0, .ref f_limits, .ref f_worked, .int 0, .int 0, .int 0]))] s.heap.size = A at hD hZ ⊢
  have hA : ∀ q : Nat, s.heap.size ≤ q → A q := fun q h => by rw [← hAe]; exact Or.inr h
  have hS : va_S A s.heap s.heap [] := va_S.rf
  have hP : va_P D vwCl [(h0, .inr (11, [.ref x_studio, .ref x_script, .ref x_teller, .ref x_planner, .ref x_plan, .ref x_drifts, .ref x_floor, .ref x_trial, .ref x_tape, .int 0, .int (-1)])), (x_floor, .inr (1, [.ref f_studio, .int 1, .int 0, .ref f_taken, .ref f_on, .ref f_queues, .ref f_queued, .ref f_engaged, .ref f_dressing, .ref f_dressed, .ref f_standing, .ref f_stations, .int 0, .ref f_limits, .ref f_worked, .int 0, .int 0, .int 0]))] s.heap := hP
  have hl := lv_entry ([.ref h0, .int p0, .ref o9]) (n := 4) (Nat.le_of_ble_eq_true rfl)
  rw [lg_entry_eq]
  generalize (lg_sl ([.ref h0, .int p0, .ref o9]) ++ List.replicate (4 - (lg_sl ([.ref h0, .int p0, .ref o9])).length) Slot.unset).toArray = ls at hl ⊢
  have hl : lv_has ls 4 [(0, .ref h0), (1, .int p0), (2, .ref o9)] := hl
  refine lv_aload_n hx hb dL_worked_0 rfl (lv_at hl 2 rfl) ?_
  refine lv_iconst (v := 0) hx hb dL_worked_1 (by decide) ?_
  refine lv_aload_n hx hb dL_worked_2 rfl (lv_at hl 0 rfl) ?_
  refine lv_iload_n hx hb dL_worked_3 rfl (lv_at hl 1 rfl) ?_
  have hF := va_free (wc := [(h0, .inr (11, [.ref x_studio, .ref x_script, .ref x_teller, .ref x_planner, .ref x_plan, .ref x_drifts, .ref x_floor, .ref x_trial, .ref x_tape, .int 0, .int (-1)])), (x_floor, .inr (1, [.ref f_studio, .int 1, .int 0, .ref f_taken, .ref f_on, .ref f_queues, .ref f_queued, .ref f_engaged, .ref f_dressing, .ref f_dressed, .ref f_standing, .ref f_stations, .int 0, .ref f_limits, .ref f_worked, .int 0, .int 0, .int 0]))]) hD hS hA [0, 1] rfl
  refine vx_calli (vx_runV (As := [.int p0]) (rest := [.int 0, .ref o9]) ⟨hx, hb, hml, hown, hts⟩ (c_X11_worked l hst D cT h0 p0 x_studio x_script x_teller x_planner x_plan x_drifts x_floor x_trial x_tape f_studio f_taken f_on f_queues f_queued f_engaged f_dressing f_dressed f_standing f_stations f_limits f_worked _ ) (cwV 1 hts gL_worked_X11_worked rfl rfl rfl (by decide +kernel) ⟨Nat.le_of_ble_eq_true rfl, Nat.le_of_ble_eq_true rfl⟩) (pv_z hP hD hK hG hZ hS hF [0, 1] rfl rfl rfl 0 rfl rfl) rfl rfl hl.1 rfl (lv_room (Nat.le_of_ble_eq_true rfl)) dL_worked_4 ⟨Nat.le_of_ble_eq_true rfl, Nat.le_of_ble_eq_true rfl⟩) hS (fun q _ h => hF q h) hF (fun q _ h => hF q h) (fun E ce q9 uu9 tt9 H locs ht hvm hw hB hz1 hk1 hS hq9 hv9 hc9 => ?_) (fun r_1 uu9 tt9 H locs ht hvm wr_1 hB hz1 hk1 hS => wr_1.elim)
  obtain ⟨rfl, hpx⟩ := hB
  refine vx_widen (k := 1) (n := 6) (Nat.le_of_ble_eq_true rfl) (Nat.le_of_ble_eq_true rfl) ?_
  refine vx_catch (E := "java/lang/IllegalArgumentException") (name := "java/lang/IllegalArgumentException") hown [] ⟨0, 9, 12, 15⟩ [] htb (fun z hz => nomatch hz) (by decide) (by decide) (hts (.classLink RL 15 "java/lang/IllegalArgumentException") (List.mem_of_getElem? (i := 1) (by decide +kernel))) (gwB_any hG (Cond.castable "java/lang/IllegalArgumentException" "java/lang/IllegalArgumentException") (by decide +kernel)) hq9 hv9 hc9 ?_
  obtain ⟨hP, hD⟩ := va_join (wr := []) (w1 := []) hP hD [0, 1] [] rfl rfl (by decide) (by decide) hk1 hF vp_nil vd_nil
  have hP : va_P D vwCl [] _ := hP
  have hD : va_D A [] := hD
  refine W.eq (g2 := F0 m 12 ls [.ref q9]) rfl ?_
  refine lv_astore_n (lv' := [(3, .ref q9), (0, .ref h0), (1, .int p0), (2, .ref o9)]) hx hb dL_worked_12 rfl hl (by decide) rfl (fun ls hl => ?_)
  refine lv_iconst (v := 1) hx hb dL_worked_13 (by decide) ?_
  exact W.iret (v := 1) hx hb hr (fun t ht hW => ⟨⟨1, (), rfl, rfl, trivial⟩, hS.F ht⟩) hS.2.2 dL_worked_14
