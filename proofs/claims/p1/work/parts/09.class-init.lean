theorem dX2_init_0 : decode cX2_init 0 = .ok (.aload_n 0, 1) := by decide +kernel
theorem dX2_init_1 : decode cX2_init 1 = .ok (.invokespecial 1, 3) := by decide +kernel
theorem dX2_init_4 : decode cX2_init 4 = .ok (.return_, 1) := by decide +kernel
set_option maxHeartbeats 4000000 in
set_option maxRecDepth 100000 in
theorem c_X2_init (l : Launch) (D : va_G) (cT : Nat → ClassId) (h0 : Nat) (sz : Nat)  : Met l yX2_init wsX2_init ({ frames := 9, cells := 0, slots := 0, locals := 220 }) (va_Pc [.ref h0] (PW D cT [(h0, .inr (2, [.int 0, .int 0, .int 0, .int 0, .int 0, .int 0, .int 0, .int 0]))] sz)) (va_Qv (fun _ : Unit => True) (fun (_ : Unit) (t : State) => va_P D vwCl [(h0, .inr (2, [.int 0, .int 0, .int 0, .int 0, .int 0, .int 0, .int 0, .int 0]))] t.heap ∧ va_D (va_A [(h0, .inr (2, [.int 0, .int 0, .int 0, .int 0, .int 0, .int 0, .int 0, .int 0]))] sz) [(h0, .inr (2, [.int 0, .int 0, .int 0, .int 0, .int 0, .int 0, .int 0, .int 0]))]) (va_A [(h0, .inr (2, [.int 0, .int 0, .int 0, .int 0, .int 0, .int 0, .int 0, .int 0]))] sz)) 0 0 (va_A [(h0, .inr (2, [.int 0, .int 0, .int 0, .int 0, .int 0, .int 0, .int 0, .int 0]))] sz) := by
  refine Met.ofW (cc := cX2_init) (maxL := 1) (ret := none) (by decide) rfl ?_
  intro p e s m args below meth c s₁ B hml hv
  obtain ⟨rfl, hsz, hP, hK, hD0, hG⟩ := hv
  have hx := B.exec
  have hb := B.bytes
  have hr := B.returns
  have hts := atoms_spec (ws := wsX2_init) B.pre
  have hown : s.vm.findClass RX2 = some m.cls := findClass_of_methodNamed B.named
  have hlocks := B.notSynchronized
  have hin : meth.name = "<init>" := (name_of_methodNamed B.named B.method).1
  subst hsz
  have hD := hD0.self (sz := s.heap.size)
  generalize hAe : va_A [(h0, .inr (2, [.int 0, .int 0, .int 0, .int 0, .int 0, .int 0, .int 0, .int 0]))] s.heap.size = A at hD ⊢
  have hA : ∀ q : Nat, s.heap.size ≤ q → A q := fun q h => by rw [← hAe]; exact Or.inr h
  have hS : va_S A s.heap s.heap [] := va_S.rf
  have hP : va_P D vwCl [(h0, .inr (2, [.int 0, .int 0, .int 0, .int 0, .int 0, .int 0, .int 0, .int 0]))] s.heap := hP
  have hl := lv_entry ([.ref h0]) (n := 1) (Nat.le_of_ble_eq_true rfl)
  rw [lg_entry_eq]
  generalize (lg_sl ([.ref h0]) ++ List.replicate (1 - (lg_sl ([.ref h0])).length) Slot.unset).toArray = ls at hl ⊢
  have hl : lv_has ls 1 [(0, .ref h0)] := hl
  refine lv_aload_n hx hb dX2_init_0 rfl (lv_at hl 0 rfl) ?_
  refine W.objInit hx hb hown (hts (.methodLink RX2 1 objectInit) (List.mem_of_getElem? (i := 1) (by decide +kernel))) (hts (.instanceMethod objectInit) (List.mem_of_getElem? (i := 2) (by decide +kernel))) (hts _ (List.mem_of_getElem? (i := 3) rfl)) rfl (by rw [hml]; exact hl.1) rfl dX2_init_1 (Nat.le_of_ble_eq_true rfl) (Nat.le_of_ble_eq_true rfl) ?_
  refine W.eq (g2 := F0 m 4 ls []) rfl ?_
  have hP9 := hP.sub (ws' := [(h0, .inr (2, [.int 0, .int 0, .int 0, .int 0, .int 0, .int 0, .int 0, .int 0]))]) [0] rfl
  have hD9 := hD.sub (ws' := [(h0, .inr (2, [.int 0, .int 0, .int 0, .int 0, .int 0, .int 0, .int 0, .int 0]))]) [0] (by decide) rfl
  exact W.vret hx hb hr (fun t ht hW => ⟨⟨(), rfl, trivial, ⟨by rw [ht]; exact hP9, hD9⟩⟩, hS.F ht⟩) hS.2.2 dX2_init_4
theorem dX0_init_0 : decode cX0_init 0 = .ok (.aload_n 0, 1) := by decide +kernel
theorem dX0_init_1 : decode cX0_init 1 = .ok (.invokespecial 3, 3) := by decide +kernel
theorem dX0_init_12 : decode cX0_init 12 = .ok (.aload_n 0, 1) := by decide +kernel
theorem dX0_init_13 : decode cX0_init 13 = .ok (.bipush 80, 2) := by decide +kernel
theorem dX0_init_15 : decode cX0_init 15 = .ok (.newarray .int, 2) := by decide +kernel
theorem dX0_init_17 : decode cX0_init 17 = .ok (.putfield 15, 3) := by decide +kernel
theorem dX0_init_20 : decode cX0_init 20 = .ok (.aload_n 0, 1) := by decide +kernel
theorem dX0_init_21 : decode cX0_init 21 = .ok (.bipush 80, 2) := by decide +kernel
theorem dX0_init_23 : decode cX0_init 23 = .ok (.newarray .int, 2) := by decide +kernel
theorem dX0_init_25 : decode cX0_init 25 = .ok (.putfield 18, 3) := by decide +kernel
theorem dX0_init_28 : decode cX0_init 28 = .ok (.aload_n 0, 1) := by decide +kernel
theorem dX0_init_29 : decode cX0_init 29 = .ok (.bipush 80, 2) := by decide +kernel
theorem dX0_init_31 : decode cX0_init 31 = .ok (.newarray .int, 2) := by decide +kernel
theorem dX0_init_33 : decode cX0_init 33 = .ok (.putfield 21, 3) := by decide +kernel
theorem dX0_init_36 : decode cX0_init 36 = .ok (.return_, 1) := by decide +kernel
theorem dX0_init_4 : decode cX0_init 4 = .ok (.aload_n 0, 1) := by decide +kernel
theorem dX0_init_5 : decode cX0_init 5 = .ok (.bipush 80, 2) := by decide +kernel
theorem dX0_init_7 : decode cX0_init 7 = .ok (.newarray .int, 2) := by decide +kernel
theorem dX0_init_9 : decode cX0_init 9 = .ok (.putfield 11, 3) := by decide +kernel
set_option maxHeartbeats 4000000 in
set_option maxRecDepth 100000 in
theorem c_X0_init (l : Launch) (D : va_G) (cT : Nat → ClassId) (h0 : Nat) (sz : Nat)  : Met l yX0_init wsX0_init ({ frames := 10, cells := 4, slots := 320, locals := 280 }) (va_Pc [.ref h0] (PW D cT [(h0, .inr (0, [.int 0, .null, .null, .null, .null]))] sz)) (va_Qv (fun _ : Unit => True) (fun (_ : Unit) (t : State) => ∃ (a_shots : Nat), ∃ (a_frames : Nat), ∃ (a_values : Nat), ∃ (a_halves : Nat), va_P D vwCl [(h0, .inr (0, [.int 0, .ref a_shots, .ref a_frames, .ref a_values, .ref a_halves]))] t.heap ∧ va_D (va_A [(h0, .inr (0, [.int 0, .null, .null, .null, .null]))] sz) [(h0, .inr (0, [.int 0, .ref a_shots, .ref a_frames, .ref a_values, .ref a_halves]))]) (va_A [(h0, .inr (0, [.int 0, .null, .null, .null, .null]))] sz)) 4 320 (va_A [(h0, .inr (0, [.int 0, .null, .null, .null, .null]))] sz) := by
  refine Met.ofW (cc := cX0_init) (maxL := 1) (ret := none) (by decide) rfl ?_
  intro p e s m args below meth c s₁ B hml hv
  obtain ⟨rfl, hsz, hP, hK, hD0, hG⟩ := hv
  have hx := B.exec
  have hb := B.bytes
  have hr := B.returns
  have hts := atoms_spec (ws := wsX0_init) B.pre
  have hown : s.vm.findClass RX0 = some m.cls := findClass_of_methodNamed B.named
  have hlocks := B.notSynchronized
  have hin : meth.name = "<init>" := (name_of_methodNamed B.named B.method).1
  subst hsz
  have hD := hD0.self (sz := s.heap.size)
  generalize hAe : va_A [(h0, .inr (0, [.int 0, .null, .null, .null, .null]))] s.heap.size = A at hD ⊢
  have hA : ∀ q : Nat, s.heap.size ≤ q → A q := fun q h => by rw [← hAe]; exact Or.inr h
  have hS : va_S A s.heap s.heap [] := va_S.rf
  have hP : va_P D vwCl [(h0, .inr (0, [.int 0, .null, .null, .null, .null]))] s.heap := hP
  have hl := lv_entry ([.ref h0]) (n := 1) (Nat.le_of_ble_eq_true rfl)
  rw [lg_entry_eq]
  generalize (lg_sl ([.ref h0]) ++ List.replicate (1 - (lg_sl ([.ref h0])).length) Slot.unset).toArray = ls at hl ⊢
  have hl : lv_has ls 1 [(0, .ref h0)] := hl
  refine lv_aload_n hx hb dX0_init_0 rfl (lv_at hl 0 rfl) ?_
  refine W.objInit hx hb hown (hts (.methodLink RX0 3 objectInit) (List.mem_of_getElem? (i := 1) (by decide +kernel))) (hts (.instanceMethod objectInit) (List.mem_of_getElem? (i := 2) (by decide +kernel))) (hts _ (List.mem_of_getElem? (i := 3) rfl)) rfl (by rw [hml]; exact hl.1) rfl dX0_init_1 (Nat.le_of_ble_eq_true rfl) (Nat.le_of_ble_eq_true rfl) ?_
  refine W.eq (g2 := F0 m 4 ls []) rfl ?_
  refine lv_aload_n hx hb dX0_init_4 rfl (lv_at hl 0 rfl) ?_
  refine lv_bipush (v := 80) hx hb dX0_init_5 (by decide) ?_
  refine va_newa (atype := .int) (ty := .int) (n := 80) (N' := 80) (a0 := (80, .inl (fun _ => 0))) hx hb (hts (.arrayClass .int) (List.mem_of_getElem? (i := 4) (by decide +kernel))) rfl hK hP hD hS hA (fun _ => rfl) (by decide) (by decide) (Nat.le_of_ble_eq_true rfl) (Nat.le_of_ble_eq_true rfl) (Nat.le_of_ble_eq_true rfl) dX0_init_7 (fun q_1 cA9 H hK hP hD hS => ?_)
  obtain rfl := ty_new hK 0 rfl
  have hK := ty_cut hK
  have hP : va_P D vwCl [(h0, .inr (0, [.int 0, .null, .null, .null, .null])), (q_1, .inl (cT 0, 80, .inl (fun _ => 0)))] _ := hP
  have hD : va_D A [(h0, .inr (0, [.int 0, .null, .null, .null, .null])), (q_1, .inl (cT 0, 80, .inl (fun _ => 0)))] := hD
  refine W.widen (k := 1) (n := 80) (Nat.le_of_ble_eq_true rfl) (Nat.le_of_ble_eq_true rfl) ?_
  refine va_putF (D := D) (ci := 0) (v := .ref q_1) (ty := (.array .int)) (C := RX0) (T := TX0) (N := 5) hx hb hts (fun _ h => List.mem_cons_of_mem _ (List.mem_append_right _ h)) tyX0 tyX0_ok nmX0 hown hK hP hD hS 0 rfl rfl 1 (by decide) (hts (.fieldLink RX0 11 "PuppetFilm$Drifts" "shots" "[I") (List.mem_of_getElem? (i := 5) (by decide +kernel))) (fun _ h9 => h9) rfl hin rfl (by decide +kernel) rfl rfl (Nat.le_of_ble_eq_true rfl) dX0_init_9 (fun H locs hP hD hS => ?_)
  have hP : va_P D vwCl [(h0, .inr (0, [.int 0, .ref q_1, .null, .null, .null])), (q_1, .inl (cT 0, 80, .inl (fun _ => 0)))] _ := hP
  have hD : va_D A [(h0, .inr (0, [.int 0, .ref q_1, .null, .null, .null])), (q_1, .inl (cT 0, 80, .inl (fun _ => 0)))] := hD
  have hP := hP.sub (ws' := [(h0, .inr (0, [.int 0, .ref q_1, .null, .null, .null]))]) [0] rfl
  have hD := hD.sub (ws' := [(h0, .inr (0, [.int 0, .ref q_1, .null, .null, .null]))]) [0] (by decide) rfl
  refine lv_aload_n hx hb dX0_init_12 rfl (lv_at hl 0 rfl) ?_
  refine lv_bipush (v := 80) hx hb dX0_init_13 (by decide) ?_
  refine va_newa (atype := .int) (ty := .int) (n := 80) (N' := 80) (a0 := (80, .inl (fun _ => 0))) hx hb (hts (.arrayClass .int) (List.mem_of_getElem? (i := 4) (by decide +kernel))) rfl hK hP hD hS hA (fun _ => rfl) (by decide) (by decide) (Nat.le_of_ble_eq_true rfl) (Nat.le_of_ble_eq_true rfl) (Nat.le_of_ble_eq_true rfl) dX0_init_15 (fun q_2 cA9 H hK hP hD hS => ?_)
  obtain rfl := ty_new hK 0 rfl
  have hK := ty_cut hK
  have hP : va_P D vwCl [(h0, .inr (0, [.int 0, .ref q_1, .null, .null, .null])), (q_2, .inl (cT 0, 80, .inl (fun _ => 0)))] _ := hP
  have hD : va_D A [(h0, .inr (0, [.int 0, .ref q_1, .null, .null, .null])), (q_2, .inl (cT 0, 80, .inl (fun _ => 0)))] := hD
  refine W.widen (k := 2) (n := 160) (Nat.le_of_ble_eq_true rfl) (Nat.le_of_ble_eq_true rfl) ?_
  refine va_putF (D := D) (ci := 0) (v := .ref q_2) (ty := (.array .int)) (C := RX0) (T := TX0) (N := 5) hx hb hts (fun _ h => List.mem_cons_of_mem _ (List.mem_append_right _ h)) tyX0 tyX0_ok nmX0 hown hK hP hD hS 0 rfl rfl 2 (by decide) (hts (.fieldLink RX0 15 "PuppetFilm$Drifts" "frames" "[I") (List.mem_of_getElem? (i := 6) (by decide +kernel))) (fun _ h9 => h9) rfl hin rfl (by decide +kernel) rfl rfl (Nat.le_of_ble_eq_true rfl) dX0_init_17 (fun H locs hP hD hS => ?_)
  have hP : va_P D vwCl [(h0, .inr (0, [.int 0, .ref q_1, .ref q_2, .null, .null])), (q_2, .inl (cT 0, 80, .inl (fun _ => 0)))] _ := hP
  have hD : va_D A [(h0, .inr (0, [.int 0, .ref q_1, .ref q_2, .null, .null])), (q_2, .inl (cT 0, 80, .inl (fun _ => 0)))] := hD
  have hP := hP.sub (ws' := [(h0, .inr (0, [.int 0, .ref q_1, .ref q_2, .null, .null]))]) [0] rfl
  have hD := hD.sub (ws' := [(h0, .inr (0, [.int 0, .ref q_1, .ref q_2, .null, .null]))]) [0] (by decide) rfl
  refine lv_aload_n hx hb dX0_init_20 rfl (lv_at hl 0 rfl) ?_
  refine lv_bipush (v := 80) hx hb dX0_init_21 (by decide) ?_
  refine va_newa (atype := .int) (ty := .int) (n := 80) (N' := 80) (a0 := (80, .inl (fun _ => 0))) hx hb (hts (.arrayClass .int) (List.mem_of_getElem? (i := 4) (by decide +kernel))) rfl hK hP hD hS hA (fun _ => rfl) (by decide) (by decide) (Nat.le_of_ble_eq_true rfl) (Nat.le_of_ble_eq_true rfl) (Nat.le_of_ble_eq_true rfl) dX0_init_23 (fun q_3 cA9 H hK hP hD hS => ?_)
  obtain rfl := ty_new hK 0 rfl
  have hK := ty_cut hK
  have hP : va_P D vwCl [(h0, .inr (0, [.int 0, .ref q_1, .ref q_2, .null, .null])), (q_3, .inl (cT 0, 80, .inl (fun _ => 0)))] _ := hP
  have hD : va_D A [(h0, .inr (0, [.int 0, .ref q_1, .ref q_2, .null, .null])), (q_3, .inl (cT 0, 80, .inl (fun _ => 0)))] := hD
  refine W.widen (k := 3) (n := 240) (Nat.le_of_ble_eq_true rfl) (Nat.le_of_ble_eq_true rfl) ?_
  refine va_putF (D := D) (ci := 0) (v := .ref q_3) (ty := (.array .int)) (C := RX0) (T := TX0) (N := 5) hx hb hts (fun _ h => List.mem_cons_of_mem _ (List.mem_append_right _ h)) tyX0 tyX0_ok nmX0 hown hK hP hD hS 0 rfl rfl 3 (by decide) (hts (.fieldLink RX0 18 "PuppetFilm$Drifts" "values" "[I") (List.mem_of_getElem? (i := 7) (by decide +kernel))) (fun _ h9 => h9) rfl hin rfl (by decide +kernel) rfl rfl (Nat.le_of_ble_eq_true rfl) dX0_init_25 (fun H locs hP hD hS => ?_)
  have hP : va_P D vwCl [(h0, .inr (0, [.int 0, .ref q_1, .ref q_2, .ref q_3, .null])), (q_3, .inl (cT 0, 80, .inl (fun _ => 0)))] _ := hP
  have hD : va_D A [(h0, .inr (0, [.int 0, .ref q_1, .ref q_2, .ref q_3, .null])), (q_3, .inl (cT 0, 80, .inl (fun _ => 0)))] := hD
  have hP := hP.sub (ws' := [(h0, .inr (0, [.int 0, .ref q_1, .ref q_2, .ref q_3, .null]))]) [0] rfl
  have hD := hD.sub (ws' := [(h0, .inr (0, [.int 0, .ref q_1, .ref q_2, .ref q_3, .null]))]) [0] (by decide) rfl
  refine lv_aload_n hx hb dX0_init_28 rfl (lv_at hl 0 rfl) ?_
  refine lv_bipush (v := 80) hx hb dX0_init_29 (by decide) ?_
  refine va_newa (atype := .int) (ty := .int) (n := 80) (N' := 80) (a0 := (80, .inl (fun _ => 0))) hx hb (hts (.arrayClass .int) (List.mem_of_getElem? (i := 4) (by decide +kernel))) rfl hK hP hD hS hA (fun _ => rfl) (by decide) (by decide) (Nat.le_of_ble_eq_true rfl) (Nat.le_of_ble_eq_true rfl) (Nat.le_of_ble_eq_true rfl) dX0_init_31 (fun q_4 cA9 H hK hP hD hS => ?_)
  obtain rfl := ty_new hK 0 rfl
  have hK := ty_cut hK
  have hP : va_P D vwCl [(h0, .inr (0, [.int 0, .ref q_1, .ref q_2, .ref q_3, .null])), (q_4, .inl (cT 0, 80, .inl (fun _ => 0)))] _ := hP
  have hD : va_D A [(h0, .inr (0, [.int 0, .ref q_1, .ref q_2, .ref q_3, .null])), (q_4, .inl (cT 0, 80, .inl (fun _ => 0)))] := hD
  refine W.widen (k := 4) (n := 320) (Nat.le_of_ble_eq_true rfl) (Nat.le_of_ble_eq_true rfl) ?_
  refine va_putF (D := D) (ci := 0) (v := .ref q_4) (ty := (.array .int)) (C := RX0) (T := TX0) (N := 5) hx hb hts (fun _ h => List.mem_cons_of_mem _ (List.mem_append_right _ h)) tyX0 tyX0_ok nmX0 hown hK hP hD hS 0 rfl rfl 4 (by decide) (hts (.fieldLink RX0 21 "PuppetFilm$Drifts" "halves" "[I") (List.mem_of_getElem? (i := 8) (by decide +kernel))) (fun _ h9 => h9) rfl hin rfl (by decide +kernel) rfl rfl (Nat.le_of_ble_eq_true rfl) dX0_init_33 (fun H locs hP hD hS => ?_)
  have hP : va_P D vwCl [(h0, .inr (0, [.int 0, .ref q_1, .ref q_2, .ref q_3, .ref q_4])), (q_4, .inl (cT 0, 80, .inl (fun _ => 0)))] _ := hP
  have hD : va_D A [(h0, .inr (0, [.int 0, .ref q_1, .ref q_2, .ref q_3, .ref q_4])), (q_4, .inl (cT 0, 80, .inl (fun _ => 0)))] := hD
  have hP := hP.sub (ws' := [(h0, .inr (0, [.int 0, .ref q_1, .ref q_2, .ref q_3, .ref q_4]))]) [0] rfl
  have hD := hD.sub (ws' := [(h0, .inr (0, [.int 0, .ref q_1, .ref q_2, .ref q_3, .ref q_4]))]) [0] (by decide) rfl
  have hP9 := hP.sub (ws' := [(h0, .inr (0, [.int 0, .ref q_1, .ref q_2, .ref q_3, .ref q_4]))]) [0] rfl
  have hD9 := hD.sub (ws' := [(h0, .inr (0, [.int 0, .ref q_1, .ref q_2, .ref q_3, .ref q_4]))]) [0] (by decide) rfl
  exact W.vret hx hb hr (fun t ht hW => ⟨⟨(), rfl, trivial, ⟨q_1, q_2, q_3, q_4, by rw [ht]; exact hP9, hD9⟩⟩, hS.F ht⟩) hS.2.2 dX0_init_36
theorem dX3_init_0 : decode cX3_init 0 = .ok (.aload_n 0, 1) := by decide +kernel
theorem dX3_init_1 : decode cX3_init 1 = .ok (.invokespecial 3, 3) := by decide +kernel
theorem dX3_init_12 : decode cX3_init 12 = .ok (.aload_n 0, 1) := by decide +kernel
theorem dX3_init_13 : decode cX3_init 13 = .ok (.bipush 12, 2) := by decide +kernel
theorem dX3_init_15 : decode cX3_init 15 = .ok (.newarray .int, 2) := by decide +kernel
theorem dX3_init_17 : decode cX3_init 17 = .ok (.putfield 15, 3) := by decide +kernel
theorem dX3_init_20 : decode cX3_init 20 = .ok (.aload_n 0, 1) := by decide +kernel
theorem dX3_init_21 : decode cX3_init 21 = .ok (.bipush 12, 2) := by decide +kernel
theorem dX3_init_23 : decode cX3_init 23 = .ok (.newarray .int, 2) := by decide +kernel
theorem dX3_init_25 : decode cX3_init 25 = .ok (.putfield 18, 3) := by decide +kernel
theorem dX3_init_28 : decode cX3_init 28 = .ok (.aload_n 0, 1) := by decide +kernel
theorem dX3_init_29 : decode cX3_init 29 = .ok (.aload_n 1, 1) := by decide +kernel
theorem dX3_init_30 : decode cX3_init 30 = .ok (.putfield 21, 3) := by decide +kernel
theorem dX3_init_33 : decode cX3_init 33 = .ok (.return_, 1) := by decide +kernel
theorem dX3_init_4 : decode cX3_init 4 = .ok (.aload_n 0, 1) := by decide +kernel
theorem dX3_init_5 : decode cX3_init 5 = .ok (.bipush 12, 2) := by decide +kernel
theorem dX3_init_7 : decode cX3_init 7 = .ok (.newarray .int, 2) := by decide +kernel
theorem dX3_init_9 : decode cX3_init 9 = .ok (.putfield 11, 3) := by decide +kernel
set_option maxHeartbeats 4000000 in
set_option maxRecDepth 100000 in
theorem c_X3_init (l : Launch) (D : va_G) (cT : Nat → ClassId) (h0 : Nat) (st : Nat) (sz : Nat)  : Met l yX3_init wsX3_init ({ frames := 10, cells := 3, slots := 36, locals := 280 }) (va_Pc [.ref h0, .ref st] (PW D cT [(h0, .inr (3, [.null, .int 0, .null, .null, .null]))] sz)) (va_Qv (fun _ : Unit => True) (fun (_ : Unit) (t : State) => ∃ (a_shots : Nat), ∃ (a_units : Nat), ∃ (a_begins : Nat), va_P D vwCl [(h0, .inr (3, [.ref st, .int 0, .ref a_shots, .ref a_units, .ref a_begins]))] t.heap ∧ va_D (va_A [(h0, .inr (3, [.null, .int 0, .null, .null, .null]))] sz) [(h0, .inr (3, [.ref st, .int 0, .ref a_shots, .ref a_units, .ref a_begins]))]) (va_A [(h0, .inr (3, [.null, .int 0, .null, .null, .null]))] sz)) 3 36 (va_A [(h0, .inr (3, [.null, .int 0, .null, .null, .null]))] sz) := by
  refine Met.ofW (cc := cX3_init) (maxL := 2) (ret := none) (by decide) rfl ?_
  intro p e s m args below meth c s₁ B hml hv
  obtain ⟨rfl, hsz, hP, hK, hD0, hG⟩ := hv
  have hx := B.exec
  have hb := B.bytes
  have hr := B.returns
  have hts := atoms_spec (ws := wsX3_init) B.pre
  have hown : s.vm.findClass RX3 = some m.cls := findClass_of_methodNamed B.named
  have hlocks := B.notSynchronized
  have hin : meth.name = "<init>" := (name_of_methodNamed B.named B.method).1
  subst hsz
  have hD := hD0.self (sz := s.heap.size)
  generalize hAe : va_A [(h0, .inr (3, [.null, .int 0, .null, .null, .null]))] s.heap.size = A at hD ⊢
  have hA : ∀ q : Nat, s.heap.size ≤ q → A q := fun q h => by rw [← hAe]; exact Or.inr h
  have hS : va_S A s.heap s.heap [] := va_S.rf
  have hP : va_P D vwCl [(h0, .inr (3, [.null, .int 0, .null, .null, .null]))] s.heap := hP
  have hl := lv_entry ([.ref h0, .ref st]) (n := 2) (Nat.le_of_ble_eq_true rfl)
  rw [lg_entry_eq]
  generalize (lg_sl ([.ref h0, .ref st]) ++ List.replicate (2 - (lg_sl ([.ref h0, .ref st])).length) Slot.unset).toArray = ls at hl ⊢
  have hl : lv_has ls 2 [(0, .ref h0), (1, .ref st)] := hl
  refine lv_aload_n hx hb dX3_init_0 rfl (lv_at hl 0 rfl) ?_
  refine W.objInit hx hb hown (hts (.methodLink RX3 3 objectInit) (List.mem_of_getElem? (i := 1) (by decide +kernel))) (hts (.instanceMethod objectInit) (List.mem_of_getElem? (i := 2) (by decide +kernel))) (hts _ (List.mem_of_getElem? (i := 3) rfl)) rfl (by rw [hml]; exact hl.1) rfl dX3_init_1 (Nat.le_of_ble_eq_true rfl) (Nat.le_of_ble_eq_true rfl) ?_
  refine W.eq (g2 := F0 m 4 ls []) rfl ?_
  refine lv_aload_n hx hb dX3_init_4 rfl (lv_at hl 0 rfl) ?_
  refine lv_bipush (v := 12) hx hb dX3_init_5 (by decide) ?_
  refine va_newa (atype := .int) (ty := .int) (n := 12) (N' := 12) (a0 := (12, .inl (fun _ => 0))) hx hb (hts (.arrayClass .int) (List.mem_of_getElem? (i := 4) (by decide +kernel))) rfl hK hP hD hS hA (fun _ => rfl) (by decide) (by decide) (Nat.le_of_ble_eq_true rfl) (Nat.le_of_ble_eq_true rfl) (Nat.le_of_ble_eq_true rfl) dX3_init_7 (fun q_1 cA9 H hK hP hD hS => ?_)
  obtain rfl := ty_new hK 0 rfl
  have hK := ty_cut hK
  have hP : va_P D vwCl [(h0, .inr (3, [.null, .int 0, .null, .null, .null])), (q_1, .inl (cT 0, 12, .inl (fun _ => 0)))] _ := hP
  have hD : va_D A [(h0, .inr (3, [.null, .int 0, .null, .null, .null])), (q_1, .inl (cT 0, 12, .inl (fun _ => 0)))] := hD
  refine W.widen (k := 1) (n := 12) (Nat.le_of_ble_eq_true rfl) (Nat.le_of_ble_eq_true rfl) ?_
  refine va_putF (D := D) (ci := 3) (v := .ref q_1) (ty := (.array .int)) (C := RX3) (T := TX3) (N := 5) hx hb hts (fun _ h => List.mem_cons_of_mem _ (List.mem_append_right _ h)) tyX3 tyX3_ok nmX3 hown hK hP hD hS 0 rfl rfl 2 (by decide) (hts (.fieldLink RX3 11 "PuppetFilm$Plan" "shots" "[I") (List.mem_of_getElem? (i := 5) (by decide +kernel))) (fun _ h9 => h9) rfl hin rfl (by decide +kernel) rfl rfl (Nat.le_of_ble_eq_true rfl) dX3_init_9 (fun H locs hP hD hS => ?_)
  have hP : va_P D vwCl [(h0, .inr (3, [.null, .int 0, .ref q_1, .null, .null])), (q_1, .inl (cT 0, 12, .inl (fun _ => 0)))] _ := hP
  have hD : va_D A [(h0, .inr (3, [.null, .int 0, .ref q_1, .null, .null])), (q_1, .inl (cT 0, 12, .inl (fun _ => 0)))] := hD
  have hP := hP.sub (ws' := [(h0, .inr (3, [.null, .int 0, .ref q_1, .null, .null]))]) [0] rfl
  have hD := hD.sub (ws' := [(h0, .inr (3, [.null, .int 0, .ref q_1, .null, .null]))]) [0] (by decide) rfl
  refine lv_aload_n hx hb dX3_init_12 rfl (lv_at hl 0 rfl) ?_
  refine lv_bipush (v := 12) hx hb dX3_init_13 (by decide) ?_
  refine va_newa (atype := .int) (ty := .int) (n := 12) (N' := 12) (a0 := (12, .inl (fun _ => 0))) hx hb (hts (.arrayClass .int) (List.mem_of_getElem? (i := 4) (by decide +kernel))) rfl hK hP hD hS hA (fun _ => rfl) (by decide) (by decide) (Nat.le_of_ble_eq_true rfl) (Nat.le_of_ble_eq_true rfl) (Nat.le_of_ble_eq_true rfl) dX3_init_15 (fun q_2 cA9 H hK hP hD hS => ?_)
  obtain rfl := ty_new hK 0 rfl
  have hK := ty_cut hK
  have hP : va_P D vwCl [(h0, .inr (3, [.null, .int 0, .ref q_1, .null, .null])), (q_2, .inl (cT 0, 12, .inl (fun _ => 0)))] _ := hP
  have hD : va_D A [(h0, .inr (3, [.null, .int 0, .ref q_1, .null, .null])), (q_2, .inl (cT 0, 12, .inl (fun _ => 0)))] := hD
  refine W.widen (k := 2) (n := 24) (Nat.le_of_ble_eq_true rfl) (Nat.le_of_ble_eq_true rfl) ?_
  refine va_putF (D := D) (ci := 3) (v := .ref q_2) (ty := (.array .int)) (C := RX3) (T := TX3) (N := 5) hx hb hts (fun _ h => List.mem_cons_of_mem _ (List.mem_append_right _ h)) tyX3 tyX3_ok nmX3 hown hK hP hD hS 0 rfl rfl 3 (by decide) (hts (.fieldLink RX3 15 "PuppetFilm$Plan" "units" "[I") (List.mem_of_getElem? (i := 6) (by decide +kernel))) (fun _ h9 => h9) rfl hin rfl (by decide +kernel) rfl rfl (Nat.le_of_ble_eq_true rfl) dX3_init_17 (fun H locs hP hD hS => ?_)
  have hP : va_P D vwCl [(h0, .inr (3, [.null, .int 0, .ref q_1, .ref q_2, .null])), (q_2, .inl (cT 0, 12, .inl (fun _ => 0)))] _ := hP
  have hD : va_D A [(h0, .inr (3, [.null, .int 0, .ref q_1, .ref q_2, .null])), (q_2, .inl (cT 0, 12, .inl (fun _ => 0)))] := hD
  have hP := hP.sub (ws' := [(h0, .inr (3, [.null, .int 0, .ref q_1, .ref q_2, .null]))]) [0] rfl
  have hD := hD.sub (ws' := [(h0, .inr (3, [.null, .int 0, .ref q_1, .ref q_2, .null]))]) [0] (by decide) rfl
  refine lv_aload_n hx hb dX3_init_20 rfl (lv_at hl 0 rfl) ?_
  refine lv_bipush (v := 12) hx hb dX3_init_21 (by decide) ?_
  refine va_newa (atype := .int) (ty := .int) (n := 12) (N' := 12) (a0 := (12, .inl (fun _ => 0))) hx hb (hts (.arrayClass .int) (List.mem_of_getElem? (i := 4) (by decide +kernel))) rfl hK hP hD hS hA (fun _ => rfl) (by decide) (by decide) (Nat.le_of_ble_eq_true rfl) (Nat.le_of_ble_eq_true rfl) (Nat.le_of_ble_eq_true rfl) dX3_init_23 (fun q_3 cA9 H hK hP hD hS => ?_)
  obtain rfl := ty_new hK 0 rfl
  have hK := ty_cut hK
  have hP : va_P D vwCl [(h0, .inr (3, [.null, .int 0, .ref q_1, .ref q_2, .null])), (q_3, .inl (cT 0, 12, .inl (fun _ => 0)))] _ := hP
  have hD : va_D A [(h0, .inr (3, [.null, .int 0, .ref q_1, .ref q_2, .null])), (q_3, .inl (cT 0, 12, .inl (fun _ => 0)))] := hD
  refine W.widen (k := 3) (n := 36) (Nat.le_of_ble_eq_true rfl) (Nat.le_of_ble_eq_true rfl) ?_
  refine va_putF (D := D) (ci := 3) (v := .ref q_3) (ty := (.array .int)) (C := RX3) (T := TX3) (N := 5) hx hb hts (fun _ h => List.mem_cons_of_mem _ (List.mem_append_right _ h)) tyX3 tyX3_ok nmX3 hown hK hP hD hS 0 rfl rfl 4 (by decide) (hts (.fieldLink RX3 18 "PuppetFilm$Plan" "begins" "[I") (List.mem_of_getElem? (i := 7) (by decide +kernel))) (fun _ h9 => h9) rfl hin rfl (by decide +kernel) rfl rfl (Nat.le_of_ble_eq_true rfl) dX3_init_25 (fun H locs hP hD hS => ?_)
  have hP : va_P D vwCl [(h0, .inr (3, [.null, .int 0, .ref q_1, .ref q_2, .ref q_3])), (q_3, .inl (cT 0, 12, .inl (fun _ => 0)))] _ := hP
  have hD : va_D A [(h0, .inr (3, [.null, .int 0, .ref q_1, .ref q_2, .ref q_3])), (q_3, .inl (cT 0, 12, .inl (fun _ => 0)))] := hD
  have hP := hP.sub (ws' := [(h0, .inr (3, [.null, .int 0, .ref q_1, .ref q_2, .ref q_3]))]) [0] rfl
  have hD := hD.sub (ws' := [(h0, .inr (3, [.null, .int 0, .ref q_1, .ref q_2, .ref q_3]))]) [0] (by decide) rfl
  refine lv_aload_n hx hb dX3_init_28 rfl (lv_at hl 0 rfl) ?_
  refine lv_aload_n hx hb dX3_init_29 rfl (lv_at hl 1 rfl) ?_
  refine va_putF (D := D) (ci := 3) (v := .ref st) (ty := (.object "PuppetFilm$Studio")) (C := RX3) (T := TX3) (N := 5) hx hb hts (fun _ h => List.mem_cons_of_mem _ (List.mem_append_right _ h)) tyX3 tyX3_ok nmX3 hown hK hP hD hS 0 rfl rfl 0 (by decide) (hts (.fieldLink RX3 21 "PuppetFilm$Plan" "studio" "LPuppetFilm$Studio;") (List.mem_of_getElem? (i := 8) (by decide +kernel))) (fun _ h9 => h9) rfl hin rfl (by decide +kernel) rfl rfl (Nat.le_of_ble_eq_true rfl) dX3_init_30 (fun H locs hP hD hS => ?_)
  have hP : va_P D vwCl [(h0, .inr (3, [.ref st, .int 0, .ref q_1, .ref q_2, .ref q_3]))] _ := hP
  have hD : va_D A [(h0, .inr (3, [.ref st, .int 0, .ref q_1, .ref q_2, .ref q_3]))] := hD
  have hP9 := hP.sub (ws' := [(h0, .inr (3, [.ref st, .int 0, .ref q_1, .ref q_2, .ref q_3]))]) [0] rfl
  have hD9 := hD.sub (ws' := [(h0, .inr (3, [.ref st, .int 0, .ref q_1, .ref q_2, .ref q_3]))]) [0] (by decide) rfl
  exact W.vret hx hb hr (fun t ht hW => ⟨⟨(), rfl, trivial, ⟨q_1, q_2, q_3, by rw [ht]; exact hP9, hD9⟩⟩, hS.F ht⟩) hS.2.2 dX3_init_33
theorem dX4_init_0 : decode cX4_init 0 = .ok (.aload_n 0, 1) := by decide +kernel
theorem dX4_init_1 : decode cX4_init 1 = .ok (.invokespecial 3, 3) := by decide +kernel
theorem dX4_init_11 : decode cX4_init 11 = .ok (.aload_n 0, 1) := by decide +kernel
theorem dX4_init_12 : decode cX4_init 12 = .ok (.iconst 5, 1) := by decide +kernel
theorem dX4_init_13 : decode cX4_init 13 = .ok (.newarray .int, 2) := by decide +kernel
theorem dX4_init_15 : decode cX4_init 15 = .ok (.putfield 15, 3) := by decide +kernel
theorem dX4_init_18 : decode cX4_init 18 = .ok (.aload_n 0, 1) := by decide +kernel
theorem dX4_init_19 : decode cX4_init 19 = .ok (.iconst 5, 1) := by decide +kernel
theorem dX4_init_20 : decode cX4_init 20 = .ok (.newarray .int, 2) := by decide +kernel
theorem dX4_init_22 : decode cX4_init 22 = .ok (.putfield 18, 3) := by decide +kernel
theorem dX4_init_25 : decode cX4_init 25 = .ok (.aload_n 0, 1) := by decide +kernel
theorem dX4_init_26 : decode cX4_init 26 = .ok (.bipush 15, 2) := by decide +kernel
theorem dX4_init_28 : decode cX4_init 28 = .ok (.newarray .int, 2) := by decide +kernel
theorem dX4_init_30 : decode cX4_init 30 = .ok (.putfield 21, 3) := by decide +kernel
theorem dX4_init_33 : decode cX4_init 33 = .ok (.aload_n 0, 1) := by decide +kernel
theorem dX4_init_34 : decode cX4_init 34 = .ok (.iconst 5, 1) := by decide +kernel
theorem dX4_init_35 : decode cX4_init 35 = .ok (.newarray .int, 2) := by decide +kernel
theorem dX4_init_37 : decode cX4_init 37 = .ok (.putfield 24, 3) := by decide +kernel
theorem dX4_init_4 : decode cX4_init 4 = .ok (.aload_n 0, 1) := by decide +kernel
theorem dX4_init_40 : decode cX4_init 40 = .ok (.aload_n 0, 1) := by decide +kernel
theorem dX4_init_41 : decode cX4_init 41 = .ok (.iconst 5, 1) := by decide +kernel
theorem dX4_init_42 : decode cX4_init 42 = .ok (.newarray .int, 2) := by decide +kernel
theorem dX4_init_44 : decode cX4_init 44 = .ok (.putfield 27, 3) := by decide +kernel
theorem dX4_init_47 : decode cX4_init 47 = .ok (.aload_n 0, 1) := by decide +kernel
theorem dX4_init_48 : decode cX4_init 48 = .ok (.iconst 5, 1) := by decide +kernel
theorem dX4_init_49 : decode cX4_init 49 = .ok (.newarray .int, 2) := by decide +kernel
theorem dX4_init_5 : decode cX4_init 5 = .ok (.iconst 5, 1) := by decide +kernel
theorem dX4_init_51 : decode cX4_init 51 = .ok (.putfield 30, 3) := by decide +kernel
theorem dX4_init_54 : decode cX4_init 54 = .ok (.aload_n 0, 1) := by decide +kernel
theorem dX4_init_55 : decode cX4_init 55 = .ok (.iconst 3, 1) := by decide +kernel
theorem dX4_init_56 : decode cX4_init 56 = .ok (.newarray .int, 2) := by decide +kernel
theorem dX4_init_58 : decode cX4_init 58 = .ok (.putfield 33, 3) := by decide +kernel
theorem dX4_init_6 : decode cX4_init 6 = .ok (.newarray .int, 2) := by decide +kernel
theorem dX4_init_61 : decode cX4_init 61 = .ok (.aload_n 0, 1) := by decide +kernel
theorem dX4_init_62 : decode cX4_init 62 = .ok (.iconst 3, 1) := by decide +kernel
theorem dX4_init_63 : decode cX4_init 63 = .ok (.newarray .int, 2) := by decide +kernel
theorem dX4_init_65 : decode cX4_init 65 = .ok (.putfield 36, 3) := by decide +kernel
theorem dX4_init_68 : decode cX4_init 68 = .ok (.aload_n 0, 1) := by decide +kernel
theorem dX4_init_69 : decode cX4_init 69 = .ok (.bipush 20, 2) := by decide +kernel
theorem dX4_init_71 : decode cX4_init 71 = .ok (.newarray .int, 2) := by decide +kernel
theorem dX4_init_73 : decode cX4_init 73 = .ok (.putfield 39, 3) := by decide +kernel
theorem dX4_init_76 : decode cX4_init 76 = .ok (.aload_n 0, 1) := by decide +kernel
theorem dX4_init_77 : decode cX4_init 77 = .ok (.bipush 20, 2) := by decide +kernel
theorem dX4_init_79 : decode cX4_init 79 = .ok (.newarray .int, 2) := by decide +kernel
theorem dX4_init_8 : decode cX4_init 8 = .ok (.putfield 11, 3) := by decide +kernel
theorem dX4_init_81 : decode cX4_init 81 = .ok (.putfield 42, 3) := by decide +kernel
theorem dX4_init_84 : decode cX4_init 84 = .ok (.aload_n 0, 1) := by decide +kernel
theorem dX4_init_85 : decode cX4_init 85 = .ok (.aload_n 1, 1) := by decide +kernel
theorem dX4_init_86 : decode cX4_init 86 = .ok (.putfield 45, 3) := by decide +kernel
theorem dX4_init_89 : decode cX4_init 89 = .ok (.return_, 1) := by decide +kernel
set_option maxHeartbeats 4000000 in
set_option maxRecDepth 100000 in
theorem c_X4_init (l : Launch) (D : va_G) (cT : Nat → ClassId) (h0 : Nat) (st : Nat) (sz : Nat)  : Met l yX4_init wsX4_init ({ frames := 10, cells := 11, slots := 91, locals := 280 }) (va_Pc [.ref h0, .ref st] (PW D cT [(h0, .inr (4, [.null, .int 0, .null, .null, .null, .null, .null, .null, .int 0, .int 0, .int 0, .int 0, .null, .null, .null, .null, .null, .int 0, .int 0]))] sz)) (va_Qv (fun _ : Unit => True) (fun (_ : Unit) (_ : State) => True) (va_A [(h0, .inr (4, [.null, .int 0, .null, .null, .null, .null, .null, .null, .int 0, .int 0, .int 0, .int 0, .null, .null, .null, .null, .null, .int 0, .int 0]))] sz)) 11 91 (va_A [(h0, .inr (4, [.null, .int 0, .null, .null, .null, .null, .null, .null, .int 0, .int 0, .int 0, .int 0, .null, .null, .null, .null, .null, .int 0, .int 0]))] sz) := by
  refine Met.ofW (cc := cX4_init) (maxL := 2) (ret := none) (by decide) rfl ?_
  intro p e s m args below meth c s₁ B hml hv
  obtain ⟨rfl, hsz, hP, hK, hD0, hG⟩ := hv
  have hx := B.exec
  have hb := B.bytes
  have hr := B.returns
  have hts := atoms_spec (ws := wsX4_init) B.pre
  have hown : s.vm.findClass RX4 = some m.cls := findClass_of_methodNamed B.named
  have hlocks := B.notSynchronized
  have hin : meth.name = "<init>" := (name_of_methodNamed B.named B.method).1
  subst hsz
  have hD := hD0.self (sz := s.heap.size)
  generalize hAe : va_A [(h0, .inr (4, [.null, .int 0, .null, .null, .null, .null, .null, .null, .int 0, .int 0, .int 0, .int 0, .null, .null, .null, .null, .null, .int 0, .int 0]))] s.heap.size = A at hD ⊢
  have hA : ∀ q : Nat, s.heap.size ≤ q → A q := fun q h => by rw [← hAe]; exact Or.inr h
  have hS : va_S A s.heap s.heap [] := va_S.rf
  have hP : va_P D vwCl [(h0, .inr (4, [.null, .int 0, .null, .null, .null, .null, .null, .null, .int 0, .int 0, .int 0, .int 0, .null, .null, .null, .null, .null, .int 0, .int 0]))] s.heap := hP
  have hl := lv_entry ([.ref h0, .ref st]) (n := 2) (Nat.le_of_ble_eq_true rfl)
  rw [lg_entry_eq]
  generalize (lg_sl ([.ref h0, .ref st]) ++ List.replicate (2 - (lg_sl ([.ref h0, .ref st])).length) Slot.unset).toArray = ls at hl ⊢
  have hl : lv_has ls 2 [(0, .ref h0), (1, .ref st)] := hl
  refine lv_aload_n hx hb dX4_init_0 rfl (lv_at hl 0 rfl) ?_
  refine W.objInit hx hb hown (hts (.methodLink RX4 3 objectInit) (List.mem_of_getElem? (i := 1) (by decide +kernel))) (hts (.instanceMethod objectInit) (List.mem_of_getElem? (i := 2) (by decide +kernel))) (hts _ (List.mem_of_getElem? (i := 3) rfl)) rfl (by rw [hml]; exact hl.1) rfl dX4_init_1 (Nat.le_of_ble_eq_true rfl) (Nat.le_of_ble_eq_true rfl) ?_
  refine W.eq (g2 := F0 m 4 ls []) rfl ?_
  refine lv_aload_n hx hb dX4_init_4 rfl (lv_at hl 0 rfl) ?_
  refine lv_iconst (v := 5) hx hb dX4_init_5 (by decide) ?_
  refine va_newa (atype := .int) (ty := .int) (n := 5) (N' := 5) (a0 := (5, .inl (fun _ => 0))) hx hb (hts (.arrayClass .int) (List.mem_of_getElem? (i := 4) (by decide +kernel))) rfl hK hP hD hS hA (fun _ => rfl) (by decide) (by decide) (Nat.le_of_ble_eq_true rfl) (Nat.le_of_ble_eq_true rfl) (Nat.le_of_ble_eq_true rfl) dX4_init_6 (fun q_1 cA9 H hK hP hD hS => ?_)
  obtain rfl := ty_new hK 0 rfl
  have hK := ty_cut hK
  have hP : va_P D vwCl [(h0, .inr (4, [.null, .int 0, .null, .null, .null, .null, .null, .null, .int 0, .int 0, .int 0, .int 0, .null, .null, .null, .null, .null, .int 0, .int 0])), (q_1, .inl (cT 0, 5, .inl (fun _ => 0)))] _ := hP
  have hD : va_D A [(h0, .inr (4, [.null, .int 0, .null, .null, .null, .null, .null, .null, .int 0, .int 0, .int 0, .int 0, .null, .null, .null, .null, .null, .int 0, .int 0])), (q_1, .inl (cT 0, 5, .inl (fun _ => 0)))] := hD
  refine W.widen (k := 1) (n := 5) (Nat.le_of_ble_eq_true rfl) (Nat.le_of_ble_eq_true rfl) ?_
  refine va_putF (D := D) (ci := 4) (v := .ref q_1) (ty := (.array .int)) (C := RX4) (T := TX4) (N := 19) hx hb hts (fun _ h => List.mem_cons_of_mem _ (List.mem_append_right _ h)) tyX4 tyX4_ok nmX4 hown hK hP hD hS 0 rfl rfl 2 (by decide) (hts (.fieldLink RX4 11 "PuppetFilm$Planner" "numbers" "[I") (List.mem_of_getElem? (i := 5) (by decide +kernel))) (fun _ h9 => h9) rfl hin rfl (by decide +kernel) rfl rfl (Nat.le_of_ble_eq_true rfl) dX4_init_8 (fun H locs hP hD hS => ?_)
  have hP : va_P D vwCl [(h0, .inr (4, [.null, .int 0, .ref q_1, .null, .null, .null, .null, .null, .int 0, .int 0, .int 0, .int 0, .null, .null, .null, .null, .null, .int 0, .int 0])), (q_1, .inl (cT 0, 5, .inl (fun _ => 0)))] _ := hP
  have hD : va_D A [(h0, .inr (4, [.null, .int 0, .ref q_1, .null, .null, .null, .null, .null, .int 0, .int 0, .int 0, .int 0, .null, .null, .null, .null, .null, .int 0, .int 0])), (q_1, .inl (cT 0, 5, .inl (fun _ => 0)))] := hD
  have hP := hP.sub (ws' := [(h0, .inr (4, [.null, .int 0, .ref q_1, .null, .null, .null, .null, .null, .int 0, .int 0, .int 0, .int 0, .null, .null, .null, .null, .null, .int 0, .int 0]))]) [0] rfl
  have hD := hD.sub (ws' := [(h0, .inr (4, [.null, .int 0, .ref q_1, .null, .null, .null, .null, .null, .int 0, .int 0, .int 0, .int 0, .null, .null, .null, .null, .null, .int 0, .int 0]))]) [0] (by decide) rfl
  refine lv_aload_n hx hb dX4_init_11 rfl (lv_at hl 0 rfl) ?_
  refine lv_iconst (v := 5) hx hb dX4_init_12 (by decide) ?_
  refine va_newa (atype := .int) (ty := .int) (n := 5) (N' := 5) (a0 := (5, .inl (fun _ => 0))) hx hb (hts (.arrayClass .int) (List.mem_of_getElem? (i := 4) (by decide +kernel))) rfl hK hP hD hS hA (fun _ => rfl) (by decide) (by decide) (Nat.le_of_ble_eq_true rfl) (Nat.le_of_ble_eq_true rfl) (Nat.le_of_ble_eq_true rfl) dX4_init_13 (fun q_2 cA9 H hK hP hD hS => ?_)
  obtain rfl := ty_new hK 0 rfl
  have hK := ty_cut hK
  have hP : va_P D vwCl [(h0, .inr (4, [.null, .int 0, .ref q_1, .null, .null, .null, .null, .null, .int 0, .int 0, .int 0, .int 0, .null, .null, .null, .null, .null, .int 0, .int 0])), (q_2, .inl (cT 0, 5, .inl (fun _ => 0)))] _ := hP
  have hD : va_D A [(h0, .inr (4, [.null, .int 0, .ref q_1, .null, .null, .null, .null, .null, .int 0, .int 0, .int 0, .int 0, .null, .null, .null, .null, .null, .int 0, .int 0])), (q_2, .inl (cT 0, 5, .inl (fun _ => 0)))] := hD
  refine W.widen (k := 2) (n := 10) (Nat.le_of_ble_eq_true rfl) (Nat.le_of_ble_eq_true rfl) ?_
  refine va_putF (D := D) (ci := 4) (v := .ref q_2) (ty := (.array .int)) (C := RX4) (T := TX4) (N := 19) hx hb hts (fun _ h => List.mem_cons_of_mem _ (List.mem_append_right _ h)) tyX4 tyX4_ok nmX4 hown hK hP hD hS 0 rfl rfl 3 (by decide) (hts (.fieldLink RX4 15 "PuppetFilm$Planner" "stages" "[I") (List.mem_of_getElem? (i := 6) (by decide +kernel))) (fun _ h9 => h9) rfl hin rfl (by decide +kernel) rfl rfl (Nat.le_of_ble_eq_true rfl) dX4_init_15 (fun H locs hP hD hS => ?_)
  have hP : va_P D vwCl [(h0, .inr (4, [.null, .int 0, .ref q_1, .ref q_2, .null, .null, .null, .null, .int 0, .int 0, .int 0, .int 0, .null, .null, .null, .null, .null, .int 0, .int 0])), (q_2, .inl (cT 0, 5, .inl (fun _ => 0)))] _ := hP
  have hD : va_D A [(h0, .inr (4, [.null, .int 0, .ref q_1, .ref q_2, .null, .null, .null, .null, .int 0, .int 0, .int 0, .int 0, .null, .null, .null, .null, .null, .int 0, .int 0])), (q_2, .inl (cT 0, 5, .inl (fun _ => 0)))] := hD
  have hP := hP.sub (ws' := [(h0, .inr (4, [.null, .int 0, .ref q_1, .ref q_2, .null, .null, .null, .null, .int 0, .int 0, .int 0, .int 0, .null, .null, .null, .null, .null, .int 0, .int 0]))]) [0] rfl
  have hD := hD.sub (ws' := [(h0, .inr (4, [.null, .int 0, .ref q_1, .ref q_2, .null, .null, .null, .null, .int 0, .int 0, .int 0, .int 0, .null, .null, .null, .null, .null, .int 0, .int 0]))]) [0] (by decide) rfl
  refine lv_aload_n hx hb dX4_init_18 rfl (lv_at hl 0 rfl) ?_
  refine lv_iconst (v := 5) hx hb dX4_init_19 (by decide) ?_
  refine va_newa (atype := .int) (ty := .int) (n := 5) (N' := 5) (a0 := (5, .inl (fun _ => 0))) hx hb (hts (.arrayClass .int) (List.mem_of_getElem? (i := 4) (by decide +kernel))) rfl hK hP hD hS hA (fun _ => rfl) (by decide) (by decide) (Nat.le_of_ble_eq_true rfl) (Nat.le_of_ble_eq_true rfl) (Nat.le_of_ble_eq_true rfl) dX4_init_20 (fun q_3 cA9 H hK hP hD hS => ?_)
  obtain rfl := ty_new hK 0 rfl
  have hK := ty_cut hK
  have hP : va_P D vwCl [(h0, .inr (4, [.null, .int 0, .ref q_1, .ref q_2, .null, .null, .null, .null, .int 0, .int 0, .int 0, .int 0, .null, .null, .null, .null, .null, .int 0, .int 0])), (q_3, .inl (cT 0, 5, .inl (fun _ => 0)))] _ := hP
  have hD : va_D A [(h0, .inr (4, [.null, .int 0, .ref q_1, .ref q_2, .null, .null, .null, .null, .int 0, .int 0, .int 0, .int 0, .null, .null, .null, .null, .null, .int 0, .int 0])), (q_3, .inl (cT 0, 5, .inl (fun _ => 0)))] := hD
  refine W.widen (k := 3) (n := 15) (Nat.le_of_ble_eq_true rfl) (Nat.le_of_ble_eq_true rfl) ?_
  refine va_putF (D := D) (ci := 4) (v := .ref q_3) (ty := (.array .int)) (C := RX4) (T := TX4) (N := 19) hx hb hts (fun _ h => List.mem_cons_of_mem _ (List.mem_append_right _ h)) tyX4 tyX4_ok nmX4 hown hK hP hD hS 0 rfl rfl 4 (by decide) (hts (.fieldLink RX4 18 "PuppetFilm$Planner" "dresses" "[I") (List.mem_of_getElem? (i := 7) (by decide +kernel))) (fun _ h9 => h9) rfl hin rfl (by decide +kernel) rfl rfl (Nat.le_of_ble_eq_true rfl) dX4_init_22 (fun H locs hP hD hS => ?_)
  have hP : va_P D vwCl [(h0, .inr (4, [.null, .int 0, .ref q_1, .ref q_2, .ref q_3, .null, .null, .null, .int 0, .int 0, .int 0, .int 0, .null, .null, .null, .null, .null, .int 0, .int 0])), (q_3, .inl (cT 0, 5, .inl (fun _ => 0)))] _ := hP
  have hD : va_D A [(h0, .inr (4, [.null, .int 0, .ref q_1, .ref q_2, .ref q_3, .null, .null, .null, .int 0, .int 0, .int 0, .int 0, .null, .null, .null, .null, .null, .int 0, .int 0])), (q_3, .inl (cT 0, 5, .inl (fun _ => 0)))] := hD
  have hP := hP.sub (ws' := [(h0, .inr (4, [.null, .int 0, .ref q_1, .ref q_2, .ref q_3, .null, .null, .null, .int 0, .int 0, .int 0, .int 0, .null, .null, .null, .null, .null, .int 0, .int 0]))]) [0] rfl
  have hD := hD.sub (ws' := [(h0, .inr (4, [.null, .int 0, .ref q_1, .ref q_2, .ref q_3, .null, .null, .null, .int 0, .int 0, .int 0, .int 0, .null, .null, .null, .null, .null, .int 0, .int 0]))]) [0] (by decide) rfl
  refine lv_aload_n hx hb dX4_init_25 rfl (lv_at hl 0 rfl) ?_
  refine lv_bipush (v := 15) hx hb dX4_init_26 (by decide) ?_
  refine va_newa (atype := .int) (ty := .int) (n := 15) (N' := 15) (a0 := (15, .inl (fun _ => 0))) hx hb (hts (.arrayClass .int) (List.mem_of_getElem? (i := 4) (by decide +kernel))) rfl hK hP hD hS hA (fun _ => rfl) (by decide) (by decide) (Nat.le_of_ble_eq_true rfl) (Nat.le_of_ble_eq_true rfl) (Nat.le_of_ble_eq_true rfl) dX4_init_28 (fun q_4 cA9 H hK hP hD hS => ?_)
  obtain rfl := ty_new hK 0 rfl
  have hK := ty_cut hK
  have hP : va_P D vwCl [(h0, .inr (4, [.null, .int 0, .ref q_1, .ref q_2, .ref q_3, .null, .null, .null, .int 0, .int 0, .int 0, .int 0, .null, .null, .null, .null, .null, .int 0, .int 0])), (q_4, .inl (cT 0, 15, .inl (fun _ => 0)))] _ := hP
  have hD : va_D A [(h0, .inr (4, [.null, .int 0, .ref q_1, .ref q_2, .ref q_3, .null, .null, .null, .int 0, .int 0, .int 0, .int 0, .null, .null, .null, .null, .null, .int 0, .int 0])), (q_4, .inl (cT 0, 15, .inl (fun _ => 0)))] := hD
  refine W.widen (k := 4) (n := 30) (Nat.le_of_ble_eq_true rfl) (Nat.le_of_ble_eq_true rfl) ?_
  refine va_putF (D := D) (ci := 4) (v := .ref q_4) (ty := (.array .int)) (C := RX4) (T := TX4) (N := 19) hx hb hts (fun _ h => List.mem_cons_of_mem _ (List.mem_append_right _ h)) tyX4 tyX4_ok nmX4 hown hK hP hD hS 0 rfl rfl 5 (by decide) (hts (.fieldLink RX4 21 "PuppetFilm$Planner" "spans" "[I") (List.mem_of_getElem? (i := 8) (by decide +kernel))) (fun _ h9 => h9) rfl hin rfl (by decide +kernel) rfl rfl (Nat.le_of_ble_eq_true rfl) dX4_init_30 (fun H locs hP hD hS => ?_)
  have hP : va_P D vwCl [(h0, .inr (4, [.null, .int 0, .ref q_1, .ref q_2, .ref q_3, .ref q_4, .null, .null, .int 0, .int 0, .int 0, .int 0, .null, .null, .null, .null, .null, .int 0, .int 0])), (q_4, .inl (cT 0, 15, .inl (fun _ => 0)))] _ := hP
  have hD : va_D A [(h0, .inr (4, [.null, .int 0, .ref q_1, .ref q_2, .ref q_3, .ref q_4, .null, .null, .int 0, .int 0, .int 0, .int 0, .null, .null, .null, .null, .null, .int 0, .int 0])), (q_4, .inl (cT 0, 15, .inl (fun _ => 0)))] := hD
  have hP := hP.sub (ws' := [(h0, .inr (4, [.null, .int 0, .ref q_1, .ref q_2, .ref q_3, .ref q_4, .null, .null, .int 0, .int 0, .int 0, .int 0, .null, .null, .null, .null, .null, .int 0, .int 0]))]) [0] rfl
  have hD := hD.sub (ws' := [(h0, .inr (4, [.null, .int 0, .ref q_1, .ref q_2, .ref q_3, .ref q_4, .null, .null, .int 0, .int 0, .int 0, .int 0, .null, .null, .null, .null, .null, .int 0, .int 0]))]) [0] (by decide) rfl
  refine lv_aload_n hx hb dX4_init_33 rfl (lv_at hl 0 rfl) ?_
  refine lv_iconst (v := 5) hx hb dX4_init_34 (by decide) ?_
  refine va_newa (atype := .int) (ty := .int) (n := 5) (N' := 5) (a0 := (5, .inl (fun _ => 0))) hx hb (hts (.arrayClass .int) (List.mem_of_getElem? (i := 4) (by decide +kernel))) rfl hK hP hD hS hA (fun _ => rfl) (by decide) (by decide) (Nat.le_of_ble_eq_true rfl) (Nat.le_of_ble_eq_true rfl) (Nat.le_of_ble_eq_true rfl) dX4_init_35 (fun q_5 cA9 H hK hP hD hS => ?_)
  obtain rfl := ty_new hK 0 rfl
  have hK := ty_cut hK
  have hP : va_P D vwCl [(h0, .inr (4, [.null, .int 0, .ref q_1, .ref q_2, .ref q_3, .ref q_4, .null, .null, .int 0, .int 0, .int 0, .int 0, .null, .null, .null, .null, .null, .int 0, .int 0])), (q_5, .inl (cT 0, 5, .inl (fun _ => 0)))] _ := hP
  have hD : va_D A [(h0, .inr (4, [.null, .int 0, .ref q_1, .ref q_2, .ref q_3, .ref q_4, .null, .null, .int 0, .int 0, .int 0, .int 0, .null, .null, .null, .null, .null, .int 0, .int 0])), (q_5, .inl (cT 0, 5, .inl (fun _ => 0)))] := hD
  refine W.widen (k := 5) (n := 35) (Nat.le_of_ble_eq_true rfl) (Nat.le_of_ble_eq_true rfl) ?_
  refine va_putF (D := D) (ci := 4) (v := .ref q_5) (ty := (.array .int)) (C := RX4) (T := TX4) (N := 19) hx hb hts (fun _ h => List.mem_cons_of_mem _ (List.mem_append_right _ h)) tyX4 tyX4_ok nmX4 hown hK hP hD hS 0 rfl rfl 6 (by decide) (hts (.fieldLink RX4 24 "PuppetFilm$Planner" "leastSpans" "[I") (List.mem_of_getElem? (i := 9) (by decide +kernel))) (fun _ h9 => h9) rfl hin rfl (by decide +kernel) rfl rfl (Nat.le_of_ble_eq_true rfl) dX4_init_37 (fun H locs hP hD hS => ?_)
  have hP : va_P D vwCl [(h0, .inr (4, [.null, .int 0, .ref q_1, .ref q_2, .ref q_3, .ref q_4, .ref q_5, .null, .int 0, .int 0, .int 0, .int 0, .null, .null, .null, .null, .null, .int 0, .int 0])), (q_5, .inl (cT 0, 5, .inl (fun _ => 0)))] _ := hP
  have hD : va_D A [(h0, .inr (4, [.null, .int 0, .ref q_1, .ref q_2, .ref q_3, .ref q_4, .ref q_5, .null, .int 0, .int 0, .int 0, .int 0, .null, .null, .null, .null, .null, .int 0, .int 0])), (q_5, .inl (cT 0, 5, .inl (fun _ => 0)))] := hD
  have hP := hP.sub (ws' := [(h0, .inr (4, [.null, .int 0, .ref q_1, .ref q_2, .ref q_3, .ref q_4, .ref q_5, .null, .int 0, .int 0, .int 0, .int 0, .null, .null, .null, .null, .null, .int 0, .int 0]))]) [0] rfl
  have hD := hD.sub (ws' := [(h0, .inr (4, [.null, .int 0, .ref q_1, .ref q_2, .ref q_3, .ref q_4, .ref q_5, .null, .int 0, .int 0, .int 0, .int 0, .null, .null, .null, .null, .null, .int 0, .int 0]))]) [0] (by decide) rfl
  refine lv_aload_n hx hb dX4_init_40 rfl (lv_at hl 0 rfl) ?_
  refine lv_iconst (v := 5) hx hb dX4_init_41 (by decide) ?_
  refine va_newa (atype := .int) (ty := .int) (n := 5) (N' := 5) (a0 := (5, .inl (fun _ => 0))) hx hb (hts (.arrayClass .int) (List.mem_of_getElem? (i := 4) (by decide +kernel))) rfl hK hP hD hS hA (fun _ => rfl) (by decide) (by decide) (Nat.le_of_ble_eq_true rfl) (Nat.le_of_ble_eq_true rfl) (Nat.le_of_ble_eq_true rfl) dX4_init_42 (fun q_6 cA9 H hK hP hD hS => ?_)
  obtain rfl := ty_new hK 0 rfl
  have hK := ty_cut hK
  have hP : va_P D vwCl [(h0, .inr (4, [.null, .int 0, .ref q_1, .ref q_2, .ref q_3, .ref q_4, .ref q_5, .null, .int 0, .int 0, .int 0, .int 0, .null, .null, .null, .null, .null, .int 0, .int 0])), (q_6, .inl (cT 0, 5, .inl (fun _ => 0)))] _ := hP
  have hD : va_D A [(h0, .inr (4, [.null, .int 0, .ref q_1, .ref q_2, .ref q_3, .ref q_4, .ref q_5, .null, .int 0, .int 0, .int 0, .int 0, .null, .null, .null, .null, .null, .int 0, .int 0])), (q_6, .inl (cT 0, 5, .inl (fun _ => 0)))] := hD
  refine W.widen (k := 6) (n := 40) (Nat.le_of_ble_eq_true rfl) (Nat.le_of_ble_eq_true rfl) ?_
  refine va_putF (D := D) (ci := 4) (v := .ref q_6) (ty := (.array .int)) (C := RX4) (T := TX4) (N := 19) hx hb hts (fun _ h => List.mem_cons_of_mem _ (List.mem_append_right _ h)) tyX4 tyX4_ok nmX4 hown hK hP hD hS 0 rfl rfl 7 (by decide) (hts (.fieldLink RX4 27 "PuppetFilm$Planner" "clashes" "[I") (List.mem_of_getElem? (i := 10) (by decide +kernel))) (fun _ h9 => h9) rfl hin rfl (by decide +kernel) rfl rfl (Nat.le_of_ble_eq_true rfl) dX4_init_44 (fun H locs hP hD hS => ?_)
  have hP : va_P D vwCl [(h0, .inr (4, [.null, .int 0, .ref q_1, .ref q_2, .ref q_3, .ref q_4, .ref q_5, .ref q_6, .int 0, .int 0, .int 0, .int 0, .null, .null, .null, .null, .null, .int 0, .int 0])), (q_6, .inl (cT 0, 5, .inl (fun _ => 0)))] _ := hP
  have hD : va_D A [(h0, .inr (4, [.null, .int 0, .ref q_1, .ref q_2, .ref q_3, .ref q_4, .ref q_5, .ref q_6, .int 0, .int 0, .int 0, .int 0, .null, .null, .null, .null, .null, .int 0, .int 0])), (q_6, .inl (cT 0, 5, .inl (fun _ => 0)))] := hD
  have hP := hP.sub (ws' := [(h0, .inr (4, [.null, .int 0, .ref q_1, .ref q_2, .ref q_3, .ref q_4, .ref q_5, .ref q_6, .int 0, .int 0, .int 0, .int 0, .null, .null, .null, .null, .null, .int 0, .int 0]))]) [0] rfl
  have hD := hD.sub (ws' := [(h0, .inr (4, [.null, .int 0, .ref q_1, .ref q_2, .ref q_3, .ref q_4, .ref q_5, .ref q_6, .int 0, .int 0, .int 0, .int 0, .null, .null, .null, .null, .null, .int 0, .int 0]))]) [0] (by decide) rfl
  refine lv_aload_n hx hb dX4_init_47 rfl (lv_at hl 0 rfl) ?_
  refine lv_iconst (v := 5) hx hb dX4_init_48 (by decide) ?_
  refine va_newa (atype := .int) (ty := .int) (n := 5) (N' := 5) (a0 := (5, .inl (fun _ => 0))) hx hb (hts (.arrayClass .int) (List.mem_of_getElem? (i := 4) (by decide +kernel))) rfl hK hP hD hS hA (fun _ => rfl) (by decide) (by decide) (Nat.le_of_ble_eq_true rfl) (Nat.le_of_ble_eq_true rfl) (Nat.le_of_ble_eq_true rfl) dX4_init_49 (fun q_7 cA9 H hK hP hD hS => ?_)
  obtain rfl := ty_new hK 0 rfl
  have hK := ty_cut hK
  have hP : va_P D vwCl [(h0, .inr (4, [.null, .int 0, .ref q_1, .ref q_2, .ref q_3, .ref q_4, .ref q_5, .ref q_6, .int 0, .int 0, .int 0, .int 0, .null, .null, .null, .null, .null, .int 0, .int 0])), (q_7, .inl (cT 0, 5, .inl (fun _ => 0)))] _ := hP
  have hD : va_D A [(h0, .inr (4, [.null, .int 0, .ref q_1, .ref q_2, .ref q_3, .ref q_4, .ref q_5, .ref q_6, .int 0, .int 0, .int 0, .int 0, .null, .null, .null, .null, .null, .int 0, .int 0])), (q_7, .inl (cT 0, 5, .inl (fun _ => 0)))] := hD
  refine W.widen (k := 7) (n := 45) (Nat.le_of_ble_eq_true rfl) (Nat.le_of_ble_eq_true rfl) ?_
  refine va_putF (D := D) (ci := 4) (v := .ref q_7) (ty := (.array .int)) (C := RX4) (T := TX4) (N := 19) hx hb hts (fun _ h => List.mem_cons_of_mem _ (List.mem_append_right _ h)) tyX4 tyX4_ok nmX4 hown hK hP hD hS 0 rfl rfl 12 (by decide) (hts (.fieldLink RX4 30 "PuppetFilm$Planner" "ends" "[I") (List.mem_of_getElem? (i := 11) (by decide +kernel))) (fun _ h9 => h9) rfl hin rfl (by decide +kernel) rfl rfl (Nat.le_of_ble_eq_true rfl) dX4_init_51 (fun H locs hP hD hS => ?_)
  have hP : va_P D vwCl [(h0, .inr (4, [.null, .int 0, .ref q_1, .ref q_2, .ref q_3, .ref q_4, .ref q_5, .ref q_6, .int 0, .int 0, .int 0, .int 0, .ref q_7, .null, .null, .null, .null, .int 0, .int 0])), (q_7, .inl (cT 0, 5, .inl (fun _ => 0)))] _ := hP
  have hD : va_D A [(h0, .inr (4, [.null, .int 0, .ref q_1, .ref q_2, .ref q_3, .ref q_4, .ref q_5, .ref q_6, .int 0, .int 0, .int 0, .int 0, .ref q_7, .null, .null, .null, .null, .int 0, .int 0])), (q_7, .inl (cT 0, 5, .inl (fun _ => 0)))] := hD
  have hP := hP.sub (ws' := [(h0, .inr (4, [.null, .int 0, .ref q_1, .ref q_2, .ref q_3, .ref q_4, .ref q_5, .ref q_6, .int 0, .int 0, .int 0, .int 0, .ref q_7, .null, .null, .null, .null, .int 0, .int 0]))]) [0] rfl
  have hD := hD.sub (ws' := [(h0, .inr (4, [.null, .int 0, .ref q_1, .ref q_2, .ref q_3, .ref q_4, .ref q_5, .ref q_6, .int 0, .int 0, .int 0, .int 0, .ref q_7, .null, .null, .null, .null, .int 0, .int 0]))]) [0] (by decide) rfl
  refine lv_aload_n hx hb dX4_init_54 rfl (lv_at hl 0 rfl) ?_
  refine lv_iconst (v := 3) hx hb dX4_init_55 (by decide) ?_
  refine va_newa (atype := .int) (ty := .int) (n := 3) (N' := 3) (a0 := (3, .inl (fun _ => 0))) hx hb (hts (.arrayClass .int) (List.mem_of_getElem? (i := 4) (by decide +kernel))) rfl hK hP hD hS hA (fun _ => rfl) (by decide) (by decide) (Nat.le_of_ble_eq_true rfl) (Nat.le_of_ble_eq_true rfl) (Nat.le_of_ble_eq_true rfl) dX4_init_56 (fun q_8 cA9 H hK hP hD hS => ?_)
  obtain rfl := ty_new hK 0 rfl
  have hK := ty_cut hK
  have hP : va_P D vwCl [(h0, .inr (4, [.null, .int 0, .ref q_1, .ref q_2, .ref q_3, .ref q_4, .ref q_5, .ref q_6, .int 0, .int 0, .int 0, .int 0, .ref q_7, .null, .null, .null, .null, .int 0, .int 0])), (q_8, .inl (cT 0, 3, .inl (fun _ => 0)))] _ := hP
  have hD : va_D A [(h0, .inr (4, [.null, .int 0, .ref q_1, .ref q_2, .ref q_3, .ref q_4, .ref q_5, .ref q_6, .int 0, .int 0, .int 0, .int 0, .ref q_7, .null, .null, .null, .null, .int 0, .int 0])), (q_8, .inl (cT 0, 3, .inl (fun _ => 0)))] := hD
  refine W.widen (k := 8) (n := 48) (Nat.le_of_ble_eq_true rfl) (Nat.le_of_ble_eq_true rfl) ?_
  refine va_putF (D := D) (ci := 4) (v := .ref q_8) (ty := (.array .int)) (C := RX4) (T := TX4) (N := 19) hx hb hts (fun _ h => List.mem_cons_of_mem _ (List.mem_append_right _ h)) tyX4 tyX4_ok nmX4 hown hK hP hD hS 0 rfl rfl 13 (by decide) (hts (.fieldLink RX4 33 "PuppetFilm$Planner" "unitEnds" "[I") (List.mem_of_getElem? (i := 12) (by decide +kernel))) (fun _ h9 => h9) rfl hin rfl (by decide +kernel) rfl rfl (Nat.le_of_ble_eq_true rfl) dX4_init_58 (fun H locs hP hD hS => ?_)
  have hP : va_P D vwCl [(h0, .inr (4, [.null, .int 0, .ref q_1, .ref q_2, .ref q_3, .ref q_4, .ref q_5, .ref q_6, .int 0, .int 0, .int 0, .int 0, .ref q_7, .ref q_8, .null, .null, .null, .int 0, .int 0])), (q_8, .inl (cT 0, 3, .inl (fun _ => 0)))] _ := hP
  have hD : va_D A [(h0, .inr (4, [.null, .int 0, .ref q_1, .ref q_2, .ref q_3, .ref q_4, .ref q_5, .ref q_6, .int 0, .int 0, .int 0, .int 0, .ref q_7, .ref q_8, .null, .null, .null, .int 0, .int 0])), (q_8, .inl (cT 0, 3, .inl (fun _ => 0)))] := hD
  have hP := hP.sub (ws' := [(h0, .inr (4, [.null, .int 0, .ref q_1, .ref q_2, .ref q_3, .ref q_4, .ref q_5, .ref q_6, .int 0, .int 0, .int 0, .int 0, .ref q_7, .ref q_8, .null, .null, .null, .int 0, .int 0]))]) [0] rfl
  have hD := hD.sub (ws' := [(h0, .inr (4, [.null, .int 0, .ref q_1, .ref q_2, .ref q_3, .ref q_4, .ref q_5, .ref q_6, .int 0, .int 0, .int 0, .int 0, .ref q_7, .ref q_8, .null, .null, .null, .int 0, .int 0]))]) [0] (by decide) rfl
  refine lv_aload_n hx hb dX4_init_61 rfl (lv_at hl 0 rfl) ?_
  refine lv_iconst (v := 3) hx hb dX4_init_62 (by decide) ?_
  refine va_newa (atype := .int) (ty := .int) (n := 3) (N' := 3) (a0 := (3, .inl (fun _ => 0))) hx hb (hts (.arrayClass .int) (List.mem_of_getElem? (i := 4) (by decide +kernel))) rfl hK hP hD hS hA (fun _ => rfl) (by decide) (by decide) (Nat.le_of_ble_eq_true rfl) (Nat.le_of_ble_eq_true rfl) (Nat.le_of_ble_eq_true rfl) dX4_init_63 (fun q_9 cA9 H hK hP hD hS => ?_)
  obtain rfl := ty_new hK 0 rfl
  have hK := ty_cut hK
  have hP : va_P D vwCl [(h0, .inr (4, [.null, .int 0, .ref q_1, .ref q_2, .ref q_3, .ref q_4, .ref q_5, .ref q_6, .int 0, .int 0, .int 0, .int 0, .ref q_7, .ref q_8, .null, .null, .null, .int 0, .int 0])), (q_9, .inl (cT 0, 3, .inl (fun _ => 0)))] _ := hP
  have hD : va_D A [(h0, .inr (4, [.null, .int 0, .ref q_1, .ref q_2, .ref q_3, .ref q_4, .ref q_5, .ref q_6, .int 0, .int 0, .int 0, .int 0, .ref q_7, .ref q_8, .null, .null, .null, .int 0, .int 0])), (q_9, .inl (cT 0, 3, .inl (fun _ => 0)))] := hD
  refine W.widen (k := 9) (n := 51) (Nat.le_of_ble_eq_true rfl) (Nat.le_of_ble_eq_true rfl) ?_
  refine va_putF (D := D) (ci := 4) (v := .ref q_9) (ty := (.array .int)) (C := RX4) (T := TX4) (N := 19) hx hb hts (fun _ h => List.mem_cons_of_mem _ (List.mem_append_right _ h)) tyX4 tyX4_ok nmX4 hown hK hP hD hS 0 rfl rfl 14 (by decide) (hts (.fieldLink RX4 36 "PuppetFilm$Planner" "unitStages" "[I") (List.mem_of_getElem? (i := 13) (by decide +kernel))) (fun _ h9 => h9) rfl hin rfl (by decide +kernel) rfl rfl (Nat.le_of_ble_eq_true rfl) dX4_init_65 (fun H locs hP hD hS => ?_)
  have hP : va_P D vwCl [(h0, .inr (4, [.null, .int 0, .ref q_1, .ref q_2, .ref q_3, .ref q_4, .ref q_5, .ref q_6, .int 0, .int 0, .int 0, .int 0, .ref q_7, .ref q_8, .ref q_9, .null, .null, .int 0, .int 0])), (q_9, .inl (cT 0, 3, .inl (fun _ => 0)))] _ := hP
  have hD : va_D A [(h0, .inr (4, [.null, .int 0, .ref q_1, .ref q_2, .ref q_3, .ref q_4, .ref q_5, .ref q_6, .int 0, .int 0, .int 0, .int 0, .ref q_7, .ref q_8, .ref q_9, .null, .null, .int 0, .int 0])), (q_9, .inl (cT 0, 3, .inl (fun _ => 0)))] := hD
  have hP := hP.sub (ws' := [(h0, .inr (4, [.null, .int 0, .ref q_1, .ref q_2, .ref q_3, .ref q_4, .ref q_5, .ref q_6, .int 0, .int 0, .int 0, .int 0, .ref q_7, .ref q_8, .ref q_9, .null, .null, .int 0, .int 0]))]) [0] rfl
  have hD := hD.sub (ws' := [(h0, .inr (4, [.null, .int 0, .ref q_1, .ref q_2, .ref q_3, .ref q_4, .ref q_5, .ref q_6, .int 0, .int 0, .int 0, .int 0, .ref q_7, .ref q_8, .ref q_9, .null, .null, .int 0, .int 0]))]) [0] (by decide) rfl
  refine lv_aload_n hx hb dX4_init_68 rfl (lv_at hl 0 rfl) ?_
  refine lv_bipush (v := 20) hx hb dX4_init_69 (by decide) ?_
  refine va_newa (atype := .int) (ty := .int) (n := 20) (N' := 20) (a0 := (20, .inl (fun _ => 0))) hx hb (hts (.arrayClass .int) (List.mem_of_getElem? (i := 4) (by decide +kernel))) rfl hK hP hD hS hA (fun _ => rfl) (by decide) (by decide) (Nat.le_of_ble_eq_true rfl) (Nat.le_of_ble_eq_true rfl) (Nat.le_of_ble_eq_true rfl) dX4_init_71 (fun q_10 cA9 H hK hP hD hS => ?_)
  obtain rfl := ty_new hK 0 rfl
  have hK := ty_cut hK
  have hP : va_P D vwCl [(h0, .inr (4, [.null, .int 0, .ref q_1, .ref q_2, .ref q_3, .ref q_4, .ref q_5, .ref q_6, .int 0, .int 0, .int 0, .int 0, .ref q_7, .ref q_8, .ref q_9, .null, .null, .int 0, .int 0])), (q_10, .inl (cT 0, 20, .inl (fun _ => 0)))] _ := hP
  have hD : va_D A [(h0, .inr (4, [.null, .int 0, .ref q_1, .ref q_2, .ref q_3, .ref q_4, .ref q_5, .ref q_6, .int 0, .int 0, .int 0, .int 0, .ref q_7, .ref q_8, .ref q_9, .null, .null, .int 0, .int 0])), (q_10, .inl (cT 0, 20, .inl (fun _ => 0)))] := hD
  refine W.widen (k := 10) (n := 71) (Nat.le_of_ble_eq_true rfl) (Nat.le_of_ble_eq_true rfl) ?_
  refine va_putF (D := D) (ci := 4) (v := .ref q_10) (ty := (.array .int)) (C := RX4) (T := TX4) (N := 19) hx hb hts (fun _ h => List.mem_cons_of_mem _ (List.mem_append_right _ h)) tyX4 tyX4_ok nmX4 hown hK hP hD hS 0 rfl rfl 15 (by decide) (hts (.fieldLink RX4 39 "PuppetFilm$Planner" "way" "[I") (List.mem_of_getElem? (i := 14) (by decide +kernel))) (fun _ h9 => h9) rfl hin rfl (by decide +kernel) rfl rfl (Nat.le_of_ble_eq_true rfl) dX4_init_73 (fun H locs hP hD hS => ?_)
  have hP : va_P D vwCl [(h0, .inr (4, [.null, .int 0, .ref q_1, .ref q_2, .ref q_3, .ref q_4, .ref q_5, .ref q_6, .int 0, .int 0, .int 0, .int 0, .ref q_7, .ref q_8, .ref q_9, .ref q_10, .null, .int 0, .int 0])), (q_10, .inl (cT 0, 20, .inl (fun _ => 0)))] _ := hP
  have hD : va_D A [(h0, .inr (4, [.null, .int 0, .ref q_1, .ref q_2, .ref q_3, .ref q_4, .ref q_5, .ref q_6, .int 0, .int 0, .int 0, .int 0, .ref q_7, .ref q_8, .ref q_9, .ref q_10, .null, .int 0, .int 0])), (q_10, .inl (cT 0, 20, .inl (fun _ => 0)))] := hD
  have hP := hP.sub (ws' := [(h0, .inr (4, [.null, .int 0, .ref q_1, .ref q_2, .ref q_3, .ref q_4, .ref q_5, .ref q_6, .int 0, .int 0, .int 0, .int 0, .ref q_7, .ref q_8, .ref q_9, .ref q_10, .null, .int 0, .int 0]))]) [0] rfl
  have hD := hD.sub (ws' := [(h0, .inr (4, [.null, .int 0, .ref q_1, .ref q_2, .ref q_3, .ref q_4, .ref q_5, .ref q_6, .int 0, .int 0, .int 0, .int 0, .ref q_7, .ref q_8, .ref q_9, .ref q_10, .null, .int 0, .int 0]))]) [0] (by decide) rfl
  refine lv_aload_n hx hb dX4_init_76 rfl (lv_at hl 0 rfl) ?_
  refine lv_bipush (v := 20) hx hb dX4_init_77 (by decide) ?_
  refine va_newa (atype := .int) (ty := .int) (n := 20) (N' := 20) (a0 := (20, .inl (fun _ => 0))) hx hb (hts (.arrayClass .int) (List.mem_of_getElem? (i := 4) (by decide +kernel))) rfl hK hP hD hS hA (fun _ => rfl) (by decide) (by decide) (Nat.le_of_ble_eq_true rfl) (Nat.le_of_ble_eq_true rfl) (Nat.le_of_ble_eq_true rfl) dX4_init_79 (fun q_11 cA9 H hK hP hD hS => ?_)
  obtain rfl := ty_new hK 0 rfl
  have hK := ty_cut hK
  have hP : va_P D vwCl [(h0, .inr (4, [.null, .int 0, .ref q_1, .ref q_2, .ref q_3, .ref q_4, .ref q_5, .ref q_6, .int 0, .int 0, .int 0, .int 0, .ref q_7, .ref q_8, .ref q_9, .ref q_10, .null, .int 0, .int 0])), (q_11, .inl (cT 0, 20, .inl (fun _ => 0)))] _ := hP
  have hD : va_D A [(h0, .inr (4, [.null, .int 0, .ref q_1, .ref q_2, .ref q_3, .ref q_4, .ref q_5, .ref q_6, .int 0, .int 0, .int 0, .int 0, .ref q_7, .ref q_8, .ref q_9, .ref q_10, .null, .int 0, .int 0])), (q_11, .inl (cT 0, 20, .inl (fun _ => 0)))] := hD
  refine W.widen (k := 11) (n := 91) (Nat.le_of_ble_eq_true rfl) (Nat.le_of_ble_eq_true rfl) ?_
  refine va_putF (D := D) (ci := 4) (v := .ref q_11) (ty := (.array .int)) (C := RX4) (T := TX4) (N := 19) hx hb hts (fun _ h => List.mem_cons_of_mem _ (List.mem_append_right _ h)) tyX4 tyX4_ok nmX4 hown hK hP hD hS 0 rfl rfl 16 (by decide) (hts (.fieldLink RX4 42 "PuppetFilm$Planner" "bestWay" "[I") (List.mem_of_getElem? (i := 15) (by decide +kernel))) (fun _ h9 => h9) rfl hin rfl (by decide +kernel) rfl rfl (Nat.le_of_ble_eq_true rfl) dX4_init_81 (fun H locs hP hD hS => ?_)
  have hP : va_P D vwCl [(h0, .inr (4, [.null, .int 0, .ref q_1, .ref q_2, .ref q_3, .ref q_4, .ref q_5, .ref q_6, .int 0, .int 0, .int 0, .int 0, .ref q_7, .ref q_8, .ref q_9, .ref q_10, .ref q_11, .int 0, .int 0])), (q_11, .inl (cT 0, 20, .inl (fun _ => 0)))] _ := hP
  have hD : va_D A [(h0, .inr (4, [.null, .int 0, .ref q_1, .ref q_2, .ref q_3, .ref q_4, .ref q_5, .ref q_6, .int 0, .int 0, .int 0, .int 0, .ref q_7, .ref q_8, .ref q_9, .ref q_10, .ref q_11, .int 0, .int 0])), (q_11, .inl (cT 0, 20, .inl (fun _ => 0)))] := hD
  have hP := hP.sub (ws' := [(h0, .inr (4, [.null, .int 0, .ref q_1, .ref q_2, .ref q_3, .ref q_4, .ref q_5, .ref q_6, .int 0, .int 0, .int 0, .int 0, .ref q_7, .ref q_8, .ref q_9, .ref q_10, .ref q_11, .int 0, .int 0]))]) [0] rfl
  have hD := hD.sub (ws' := [(h0, .inr (4, [.null, .int 0, .ref q_1, .ref q_2, .ref q_3, .ref q_4, .ref q_5, .ref q_6, .int 0, .int 0, .int 0, .int 0, .ref q_7, .ref q_8, .ref q_9, .ref q_10, .ref q_11, .int 0, .int 0]))]) [0] (by decide) rfl
  refine lv_aload_n hx hb dX4_init_84 rfl (lv_at hl 0 rfl) ?_
  refine lv_aload_n hx hb dX4_init_85 rfl (lv_at hl 1 rfl) ?_
  refine va_putF (D := D) (ci := 4) (v := .ref st) (ty := (.object "PuppetFilm$Studio")) (C := RX4) (T := TX4) (N := 19) hx hb hts (fun _ h => List.mem_cons_of_mem _ (List.mem_append_right _ h)) tyX4 tyX4_ok nmX4 hown hK hP hD hS 0 rfl rfl 0 (by decide) (hts (.fieldLink RX4 45 "PuppetFilm$Planner" "studio" "LPuppetFilm$Studio;") (List.mem_of_getElem? (i := 16) (by decide +kernel))) (fun _ h9 => h9) rfl hin rfl (by decide +kernel) rfl rfl (Nat.le_of_ble_eq_true rfl) dX4_init_86 (fun H locs hP hD hS => ?_)
  have hP : va_P D vwCl [(h0, .inr (4, [.ref st, .int 0, .ref q_1, .ref q_2, .ref q_3, .ref q_4, .ref q_5, .ref q_6, .int 0, .int 0, .int 0, .int 0, .ref q_7, .ref q_8, .ref q_9, .ref q_10, .ref q_11, .int 0, .int 0]))] _ := hP
  have hD : va_D A [(h0, .inr (4, [.ref st, .int 0, .ref q_1, .ref q_2, .ref q_3, .ref q_4, .ref q_5, .ref q_6, .int 0, .int 0, .int 0, .int 0, .ref q_7, .ref q_8, .ref q_9, .ref q_10, .ref q_11, .int 0, .int 0]))] := hD
  exact W.vret hx hb hr (fun t ht hW => ⟨⟨(), rfl, trivial, trivial⟩, hS.F ht⟩) hS.2.2 dX4_init_89
theorem dX5_init_0 : decode cX5_init 0 = .ok (.aload_n 0, 1) := by decide +kernel
theorem dX5_init_1 : decode cX5_init 1 = .ok (.invokespecial 3, 3) := by decide +kernel
theorem dX5_init_12 : decode cX5_init 12 = .ok (.aload_n 0, 1) := by decide +kernel
theorem dX5_init_13 : decode cX5_init 13 = .ok (.bipush 12, 2) := by decide +kernel
theorem dX5_init_15 : decode cX5_init 15 = .ok (.newarray .int, 2) := by decide +kernel
theorem dX5_init_17 : decode cX5_init 17 = .ok (.putfield 15, 3) := by decide +kernel
theorem dX5_init_20 : decode cX5_init 20 = .ok (.aload_n 0, 1) := by decide +kernel
theorem dX5_init_21 : decode cX5_init 21 = .ok (.bipush 12, 2) := by decide +kernel
theorem dX5_init_23 : decode cX5_init 23 = .ok (.newarray .int, 2) := by decide +kernel
theorem dX5_init_25 : decode cX5_init 25 = .ok (.putfield 18, 3) := by decide +kernel
theorem dX5_init_28 : decode cX5_init 28 = .ok (.aload_n 0, 1) := by decide +kernel
theorem dX5_init_29 : decode cX5_init 29 = .ok (.bipush 12, 2) := by decide +kernel
theorem dX5_init_31 : decode cX5_init 31 = .ok (.newarray .int, 2) := by decide +kernel
theorem dX5_init_33 : decode cX5_init 33 = .ok (.putfield 21, 3) := by decide +kernel
theorem dX5_init_36 : decode cX5_init 36 = .ok (.aload_n 0, 1) := by decide +kernel
theorem dX5_init_37 : decode cX5_init 37 = .ok (.bipush 12, 2) := by decide +kernel
theorem dX5_init_39 : decode cX5_init 39 = .ok (.newarray .int, 2) := by decide +kernel
theorem dX5_init_4 : decode cX5_init 4 = .ok (.aload_n 0, 1) := by decide +kernel
theorem dX5_init_41 : decode cX5_init 41 = .ok (.putfield 24, 3) := by decide +kernel
theorem dX5_init_44 : decode cX5_init 44 = .ok (.aload_n 0, 1) := by decide +kernel
theorem dX5_init_45 : decode cX5_init 45 = .ok (.bipush 12, 2) := by decide +kernel
theorem dX5_init_47 : decode cX5_init 47 = .ok (.newarray .int, 2) := by decide +kernel
theorem dX5_init_49 : decode cX5_init 49 = .ok (.putfield 27, 3) := by decide +kernel
theorem dX5_init_5 : decode cX5_init 5 = .ok (.bipush 12, 2) := by decide +kernel
theorem dX5_init_52 : decode cX5_init 52 = .ok (.aload_n 0, 1) := by decide +kernel
theorem dX5_init_53 : decode cX5_init 53 = .ok (.bipush 12, 2) := by decide +kernel
theorem dX5_init_55 : decode cX5_init 55 = .ok (.newarray .int, 2) := by decide +kernel
theorem dX5_init_57 : decode cX5_init 57 = .ok (.putfield 30, 3) := by decide +kernel
theorem dX5_init_60 : decode cX5_init 60 = .ok (.return_, 1) := by decide +kernel
theorem dX5_init_7 : decode cX5_init 7 = .ok (.newarray .int, 2) := by decide +kernel
theorem dX5_init_9 : decode cX5_init 9 = .ok (.putfield 9, 3) := by decide +kernel
set_option maxHeartbeats 4000000 in
set_option maxRecDepth 100000 in
theorem c_X5_init (l : Launch) (D : va_G) (cT : Nat → ClassId) (h0 : Nat) (sz : Nat)  : Met l yX5_init wsX5_init ({ frames := 10, cells := 7, slots := 84, locals := 280 }) (va_Pc [.ref h0] (PW D cT [(h0, .inr (5, [.int 0, .null, .null, .null, .null, .null, .null, .null, .int 0, .int 0, .int 0]))] sz)) (va_Qv (fun _ : Unit => True) (fun (_ : Unit) (t : State) => ∃ (a_parents : Nat), ∃ (a_lows : Nat), ∃ (a_highs : Nat), ∃ (a_lengths : Nat), ∃ (a_masses : Nat), ∃ (a_turns : Nat), ∃ (a_ends : Nat), va_P D vwCl [(h0, .inr (5, [.int 0, .ref a_parents, .ref a_lows, .ref a_highs, .ref a_lengths, .ref a_masses, .ref a_turns, .ref a_ends, .int 0, .int 0, .int 0]))] t.heap ∧ va_D (va_A [(h0, .inr (5, [.int 0, .null, .null, .null, .null, .null, .null, .null, .int 0, .int 0, .int 0]))] sz) [(h0, .inr (5, [.int 0, .ref a_parents, .ref a_lows, .ref a_highs, .ref a_lengths, .ref a_masses, .ref a_turns, .ref a_ends, .int 0, .int 0, .int 0]))]) (va_A [(h0, .inr (5, [.int 0, .null, .null, .null, .null, .null, .null, .null, .int 0, .int 0, .int 0]))] sz)) 7 84 (va_A [(h0, .inr (5, [.int 0, .null, .null, .null, .null, .null, .null, .null, .int 0, .int 0, .int 0]))] sz) := by
  refine Met.ofW (cc := cX5_init) (maxL := 1) (ret := none) (by decide) rfl ?_
  intro p e s m args below meth c s₁ B hml hv
  obtain ⟨rfl, hsz, hP, hK, hD0, hG⟩ := hv
  have hx := B.exec
  have hb := B.bytes
  have hr := B.returns
  have hts := atoms_spec (ws := wsX5_init) B.pre
  have hown : s.vm.findClass RX5 = some m.cls := findClass_of_methodNamed B.named
  have hlocks := B.notSynchronized
  have hin : meth.name = "<init>" := (name_of_methodNamed B.named B.method).1
  subst hsz
  have hD := hD0.self (sz := s.heap.size)
  generalize hAe : va_A [(h0, .inr (5, [.int 0, .null, .null, .null, .null, .null, .null, .null, .int 0, .int 0, .int 0]))] s.heap.size = A at hD ⊢
  have hA : ∀ q : Nat, s.heap.size ≤ q → A q := fun q h => by rw [← hAe]; exact Or.inr h
  have hS : va_S A s.heap s.heap [] := va_S.rf
  have hP : va_P D vwCl [(h0, .inr (5, [.int 0, .null, .null, .null, .null, .null, .null, .null, .int 0, .int 0, .int 0]))] s.heap := hP
  have hl := lv_entry ([.ref h0]) (n := 1) (Nat.le_of_ble_eq_true rfl)
  rw [lg_entry_eq]
  generalize (lg_sl ([.ref h0]) ++ List.replicate (1 - (lg_sl ([.ref h0])).length) Slot.unset).toArray = ls at hl ⊢
  have hl : lv_has ls 1 [(0, .ref h0)] := hl
  refine lv_aload_n hx hb dX5_init_0 rfl (lv_at hl 0 rfl) ?_
  refine W.objInit hx hb hown (hts (.methodLink RX5 3 objectInit) (List.mem_of_getElem? (i := 1) (by decide +kernel))) (hts (.instanceMethod objectInit) (List.mem_of_getElem? (i := 2) (by decide +kernel))) (hts _ (List.mem_of_getElem? (i := 3) rfl)) rfl (by rw [hml]; exact hl.1) rfl dX5_init_1 (Nat.le_of_ble_eq_true rfl) (Nat.le_of_ble_eq_true rfl) ?_
  refine W.eq (g2 := F0 m 4 ls []) rfl ?_
  refine lv_aload_n hx hb dX5_init_4 rfl (lv_at hl 0 rfl) ?_
  refine lv_bipush (v := 12) hx hb dX5_init_5 (by decide) ?_
  refine va_newa (atype := .int) (ty := .int) (n := 12) (N' := 12) (a0 := (12, .inl (fun _ => 0))) hx hb (hts (.arrayClass .int) (List.mem_of_getElem? (i := 4) (by decide +kernel))) rfl hK hP hD hS hA (fun _ => rfl) (by decide) (by decide) (Nat.le_of_ble_eq_true rfl) (Nat.le_of_ble_eq_true rfl) (Nat.le_of_ble_eq_true rfl) dX5_init_7 (fun q_1 cA9 H hK hP hD hS => ?_)
  obtain rfl := ty_new hK 0 rfl
  have hK := ty_cut hK
  have hP : va_P D vwCl [(h0, .inr (5, [.int 0, .null, .null, .null, .null, .null, .null, .null, .int 0, .int 0, .int 0])), (q_1, .inl (cT 0, 12, .inl (fun _ => 0)))] _ := hP
  have hD : va_D A [(h0, .inr (5, [.int 0, .null, .null, .null, .null, .null, .null, .null, .int 0, .int 0, .int 0])), (q_1, .inl (cT 0, 12, .inl (fun _ => 0)))] := hD
  refine W.widen (k := 1) (n := 12) (Nat.le_of_ble_eq_true rfl) (Nat.le_of_ble_eq_true rfl) ?_
  refine va_putF (D := D) (ci := 5) (v := .ref q_1) (ty := (.array .int)) (C := RX5) (T := TX5) (N := 11) hx hb hts (fun _ h => List.mem_cons_of_mem _ (List.mem_append_right _ h)) tyX5 tyX5_ok nmX5 hown hK hP hD hS 0 rfl rfl 1 (by decide) (hts (.fieldLink RX5 9 "PuppetFilm$Puppet" "parents" "[I") (List.mem_of_getElem? (i := 5) (by decide +kernel))) (fun _ h9 => h9) rfl hin rfl (by decide +kernel) rfl rfl (Nat.le_of_ble_eq_true rfl) dX5_init_9 (fun H locs hP hD hS => ?_)
  have hP : va_P D vwCl [(h0, .inr (5, [.int 0, .ref q_1, .null, .null, .null, .null, .null, .null, .int 0, .int 0, .int 0])), (q_1, .inl (cT 0, 12, .inl (fun _ => 0)))] _ := hP
  have hD : va_D A [(h0, .inr (5, [.int 0, .ref q_1, .null, .null, .null, .null, .null, .null, .int 0, .int 0, .int 0])), (q_1, .inl (cT 0, 12, .inl (fun _ => 0)))] := hD
  have hP := hP.sub (ws' := [(h0, .inr (5, [.int 0, .ref q_1, .null, .null, .null, .null, .null, .null, .int 0, .int 0, .int 0]))]) [0] rfl
  have hD := hD.sub (ws' := [(h0, .inr (5, [.int 0, .ref q_1, .null, .null, .null, .null, .null, .null, .int 0, .int 0, .int 0]))]) [0] (by decide) rfl
  refine lv_aload_n hx hb dX5_init_12 rfl (lv_at hl 0 rfl) ?_
  refine lv_bipush (v := 12) hx hb dX5_init_13 (by decide) ?_
  refine va_newa (atype := .int) (ty := .int) (n := 12) (N' := 12) (a0 := (12, .inl (fun _ => 0))) hx hb (hts (.arrayClass .int) (List.mem_of_getElem? (i := 4) (by decide +kernel))) rfl hK hP hD hS hA (fun _ => rfl) (by decide) (by decide) (Nat.le_of_ble_eq_true rfl) (Nat.le_of_ble_eq_true rfl) (Nat.le_of_ble_eq_true rfl) dX5_init_15 (fun q_2 cA9 H hK hP hD hS => ?_)
  obtain rfl := ty_new hK 0 rfl
  have hK := ty_cut hK
  have hP : va_P D vwCl [(h0, .inr (5, [.int 0, .ref q_1, .null, .null, .null, .null, .null, .null, .int 0, .int 0, .int 0])), (q_2, .inl (cT 0, 12, .inl (fun _ => 0)))] _ := hP
  have hD : va_D A [(h0, .inr (5, [.int 0, .ref q_1, .null, .null, .null, .null, .null, .null, .int 0, .int 0, .int 0])), (q_2, .inl (cT 0, 12, .inl (fun _ => 0)))] := hD
  refine W.widen (k := 2) (n := 24) (Nat.le_of_ble_eq_true rfl) (Nat.le_of_ble_eq_true rfl) ?_
  refine va_putF (D := D) (ci := 5) (v := .ref q_2) (ty := (.array .int)) (C := RX5) (T := TX5) (N := 11) hx hb hts (fun _ h => List.mem_cons_of_mem _ (List.mem_append_right _ h)) tyX5 tyX5_ok nmX5 hown hK hP hD hS 0 rfl rfl 2 (by decide) (hts (.fieldLink RX5 15 "PuppetFilm$Puppet" "lows" "[I") (List.mem_of_getElem? (i := 6) (by decide +kernel))) (fun _ h9 => h9) rfl hin rfl (by decide +kernel) rfl rfl (Nat.le_of_ble_eq_true rfl) dX5_init_17 (fun H locs hP hD hS => ?_)
  have hP : va_P D vwCl [(h0, .inr (5, [.int 0, .ref q_1, .ref q_2, .null, .null, .null, .null, .null, .int 0, .int 0, .int 0])), (q_2, .inl (cT 0, 12, .inl (fun _ => 0)))] _ := hP
  have hD : va_D A [(h0, .inr (5, [.int 0, .ref q_1, .ref q_2, .null, .null, .null, .null, .null, .int 0, .int 0, .int 0])), (q_2, .inl (cT 0, 12, .inl (fun _ => 0)))] := hD
  have hP := hP.sub (ws' := [(h0, .inr (5, [.int 0, .ref q_1, .ref q_2, .null, .null, .null, .null, .null, .int 0, .int 0, .int 0]))]) [0] rfl
  have hD := hD.sub (ws' := [(h0, .inr (5, [.int 0, .ref q_1, .ref q_2, .null, .null, .null, .null, .null, .int 0, .int 0, .int 0]))]) [0] (by decide) rfl
  refine lv_aload_n hx hb dX5_init_20 rfl (lv_at hl 0 rfl) ?_
  refine lv_bipush (v := 12) hx hb dX5_init_21 (by decide) ?_
  refine va_newa (atype := .int) (ty := .int) (n := 12) (N' := 12) (a0 := (12, .inl (fun _ => 0))) hx hb (hts (.arrayClass .int) (List.mem_of_getElem? (i := 4) (by decide +kernel))) rfl hK hP hD hS hA (fun _ => rfl) (by decide) (by decide) (Nat.le_of_ble_eq_true rfl) (Nat.le_of_ble_eq_true rfl) (Nat.le_of_ble_eq_true rfl) dX5_init_23 (fun q_3 cA9 H hK hP hD hS => ?_)
  obtain rfl := ty_new hK 0 rfl
  have hK := ty_cut hK
  have hP : va_P D vwCl [(h0, .inr (5, [.int 0, .ref q_1, .ref q_2, .null, .null, .null, .null, .null, .int 0, .int 0, .int 0])), (q_3, .inl (cT 0, 12, .inl (fun _ => 0)))] _ := hP
  have hD : va_D A [(h0, .inr (5, [.int 0, .ref q_1, .ref q_2, .null, .null, .null, .null, .null, .int 0, .int 0, .int 0])), (q_3, .inl (cT 0, 12, .inl (fun _ => 0)))] := hD
  refine W.widen (k := 3) (n := 36) (Nat.le_of_ble_eq_true rfl) (Nat.le_of_ble_eq_true rfl) ?_
  refine va_putF (D := D) (ci := 5) (v := .ref q_3) (ty := (.array .int)) (C := RX5) (T := TX5) (N := 11) hx hb hts (fun _ h => List.mem_cons_of_mem _ (List.mem_append_right _ h)) tyX5 tyX5_ok nmX5 hown hK hP hD hS 0 rfl rfl 3 (by decide) (hts (.fieldLink RX5 18 "PuppetFilm$Puppet" "highs" "[I") (List.mem_of_getElem? (i := 7) (by decide +kernel))) (fun _ h9 => h9) rfl hin rfl (by decide +kernel) rfl rfl (Nat.le_of_ble_eq_true rfl) dX5_init_25 (fun H locs hP hD hS => ?_)
  have hP : va_P D vwCl [(h0, .inr (5, [.int 0, .ref q_1, .ref q_2, .ref q_3, .null, .null, .null, .null, .int 0, .int 0, .int 0])), (q_3, .inl (cT 0, 12, .inl (fun _ => 0)))] _ := hP
  have hD : va_D A [(h0, .inr (5, [.int 0, .ref q_1, .ref q_2, .ref q_3, .null, .null, .null, .null, .int 0, .int 0, .int 0])), (q_3, .inl (cT 0, 12, .inl (fun _ => 0)))] := hD
  have hP := hP.sub (ws' := [(h0, .inr (5, [.int 0, .ref q_1, .ref q_2, .ref q_3, .null, .null, .null, .null, .int 0, .int 0, .int 0]))]) [0] rfl
  have hD := hD.sub (ws' := [(h0, .inr (5, [.int 0, .ref q_1, .ref q_2, .ref q_3, .null, .null, .null, .null, .int 0, .int 0, .int 0]))]) [0] (by decide) rfl
  refine lv_aload_n hx hb dX5_init_28 rfl (lv_at hl 0 rfl) ?_
  refine lv_bipush (v := 12) hx hb dX5_init_29 (by decide) ?_
  refine va_newa (atype := .int) (ty := .int) (n := 12) (N' := 12) (a0 := (12, .inl (fun _ => 0))) hx hb (hts (.arrayClass .int) (List.mem_of_getElem? (i := 4) (by decide +kernel))) rfl hK hP hD hS hA (fun _ => rfl) (by decide) (by decide) (Nat.le_of_ble_eq_true rfl) (Nat.le_of_ble_eq_true rfl) (Nat.le_of_ble_eq_true rfl) dX5_init_31 (fun q_4 cA9 H hK hP hD hS => ?_)
  obtain rfl := ty_new hK 0 rfl
  have hK := ty_cut hK
  have hP : va_P D vwCl [(h0, .inr (5, [.int 0, .ref q_1, .ref q_2, .ref q_3, .null, .null, .null, .null, .int 0, .int 0, .int 0])), (q_4, .inl (cT 0, 12, .inl (fun _ => 0)))] _ := hP
  have hD : va_D A [(h0, .inr (5, [.int 0, .ref q_1, .ref q_2, .ref q_3, .null, .null, .null, .null, .int 0, .int 0, .int 0])), (q_4, .inl (cT 0, 12, .inl (fun _ => 0)))] := hD
  refine W.widen (k := 4) (n := 48) (Nat.le_of_ble_eq_true rfl) (Nat.le_of_ble_eq_true rfl) ?_
  refine va_putF (D := D) (ci := 5) (v := .ref q_4) (ty := (.array .int)) (C := RX5) (T := TX5) (N := 11) hx hb hts (fun _ h => List.mem_cons_of_mem _ (List.mem_append_right _ h)) tyX5 tyX5_ok nmX5 hown hK hP hD hS 0 rfl rfl 4 (by decide) (hts (.fieldLink RX5 21 "PuppetFilm$Puppet" "lengths" "[I") (List.mem_of_getElem? (i := 8) (by decide +kernel))) (fun _ h9 => h9) rfl hin rfl (by decide +kernel) rfl rfl (Nat.le_of_ble_eq_true rfl) dX5_init_33 (fun H locs hP hD hS => ?_)
  have hP : va_P D vwCl [(h0, .inr (5, [.int 0, .ref q_1, .ref q_2, .ref q_3, .ref q_4, .null, .null, .null, .int 0, .int 0, .int 0])), (q_4, .inl (cT 0, 12, .inl (fun _ => 0)))] _ := hP
  have hD : va_D A [(h0, .inr (5, [.int 0, .ref q_1, .ref q_2, .ref q_3, .ref q_4, .null, .null, .null, .int 0, .int 0, .int 0])), (q_4, .inl (cT 0, 12, .inl (fun _ => 0)))] := hD
  have hP := hP.sub (ws' := [(h0, .inr (5, [.int 0, .ref q_1, .ref q_2, .ref q_3, .ref q_4, .null, .null, .null, .int 0, .int 0, .int 0]))]) [0] rfl
  have hD := hD.sub (ws' := [(h0, .inr (5, [.int 0, .ref q_1, .ref q_2, .ref q_3, .ref q_4, .null, .null, .null, .int 0, .int 0, .int 0]))]) [0] (by decide) rfl
  refine lv_aload_n hx hb dX5_init_36 rfl (lv_at hl 0 rfl) ?_
  refine lv_bipush (v := 12) hx hb dX5_init_37 (by decide) ?_
  refine va_newa (atype := .int) (ty := .int) (n := 12) (N' := 12) (a0 := (12, .inl (fun _ => 0))) hx hb (hts (.arrayClass .int) (List.mem_of_getElem? (i := 4) (by decide +kernel))) rfl hK hP hD hS hA (fun _ => rfl) (by decide) (by decide) (Nat.le_of_ble_eq_true rfl) (Nat.le_of_ble_eq_true rfl) (Nat.le_of_ble_eq_true rfl) dX5_init_39 (fun q_5 cA9 H hK hP hD hS => ?_)
  obtain rfl := ty_new hK 0 rfl
  have hK := ty_cut hK
  have hP : va_P D vwCl [(h0, .inr (5, [.int 0, .ref q_1, .ref q_2, .ref q_3, .ref q_4, .null, .null, .null, .int 0, .int 0, .int 0])), (q_5, .inl (cT 0, 12, .inl (fun _ => 0)))] _ := hP
  have hD : va_D A [(h0, .inr (5, [.int 0, .ref q_1, .ref q_2, .ref q_3, .ref q_4, .null, .null, .null, .int 0, .int 0, .int 0])), (q_5, .inl (cT 0, 12, .inl (fun _ => 0)))] := hD
  refine W.widen (k := 5) (n := 60) (Nat.le_of_ble_eq_true rfl) (Nat.le_of_ble_eq_true rfl) ?_
  refine va_putF (D := D) (ci := 5) (v := .ref q_5) (ty := (.array .int)) (C := RX5) (T := TX5) (N := 11) hx hb hts (fun _ h => List.mem_cons_of_mem _ (List.mem_append_right _ h)) tyX5 tyX5_ok nmX5 hown hK hP hD hS 0 rfl rfl 5 (by decide) (hts (.fieldLink RX5 24 "PuppetFilm$Puppet" "masses" "[I") (List.mem_of_getElem? (i := 9) (by decide +kernel))) (fun _ h9 => h9) rfl hin rfl (by decide +kernel) rfl rfl (Nat.le_of_ble_eq_true rfl) dX5_init_41 (fun H locs hP hD hS => ?_)
  have hP : va_P D vwCl [(h0, .inr (5, [.int 0, .ref q_1, .ref q_2, .ref q_3, .ref q_4, .ref q_5, .null, .null, .int 0, .int 0, .int 0])), (q_5, .inl (cT 0, 12, .inl (fun _ => 0)))] _ := hP
  have hD : va_D A [(h0, .inr (5, [.int 0, .ref q_1, .ref q_2, .ref q_3, .ref q_4, .ref q_5, .null, .null, .int 0, .int 0, .int 0])), (q_5, .inl (cT 0, 12, .inl (fun _ => 0)))] := hD
  have hP := hP.sub (ws' := [(h0, .inr (5, [.int 0, .ref q_1, .ref q_2, .ref q_3, .ref q_4, .ref q_5, .null, .null, .int 0, .int 0, .int 0]))]) [0] rfl
  have hD := hD.sub (ws' := [(h0, .inr (5, [.int 0, .ref q_1, .ref q_2, .ref q_3, .ref q_4, .ref q_5, .null, .null, .int 0, .int 0, .int 0]))]) [0] (by decide) rfl
  refine lv_aload_n hx hb dX5_init_44 rfl (lv_at hl 0 rfl) ?_
  refine lv_bipush (v := 12) hx hb dX5_init_45 (by decide) ?_
  refine va_newa (atype := .int) (ty := .int) (n := 12) (N' := 12) (a0 := (12, .inl (fun _ => 0))) hx hb (hts (.arrayClass .int) (List.mem_of_getElem? (i := 4) (by decide +kernel))) rfl hK hP hD hS hA (fun _ => rfl) (by decide) (by decide) (Nat.le_of_ble_eq_true rfl) (Nat.le_of_ble_eq_true rfl) (Nat.le_of_ble_eq_true rfl) dX5_init_47 (fun q_6 cA9 H hK hP hD hS => ?_)
  obtain rfl := ty_new hK 0 rfl
  have hK := ty_cut hK
  have hP : va_P D vwCl [(h0, .inr (5, [.int 0, .ref q_1, .ref q_2, .ref q_3, .ref q_4, .ref q_5, .null, .null, .int 0, .int 0, .int 0])), (q_6, .inl (cT 0, 12, .inl (fun _ => 0)))] _ := hP
  have hD : va_D A [(h0, .inr (5, [.int 0, .ref q_1, .ref q_2, .ref q_3, .ref q_4, .ref q_5, .null, .null, .int 0, .int 0, .int 0])), (q_6, .inl (cT 0, 12, .inl (fun _ => 0)))] := hD
  refine W.widen (k := 6) (n := 72) (Nat.le_of_ble_eq_true rfl) (Nat.le_of_ble_eq_true rfl) ?_
  refine va_putF (D := D) (ci := 5) (v := .ref q_6) (ty := (.array .int)) (C := RX5) (T := TX5) (N := 11) hx hb hts (fun _ h => List.mem_cons_of_mem _ (List.mem_append_right _ h)) tyX5 tyX5_ok nmX5 hown hK hP hD hS 0 rfl rfl 6 (by decide) (hts (.fieldLink RX5 27 "PuppetFilm$Puppet" "turns" "[I") (List.mem_of_getElem? (i := 10) (by decide +kernel))) (fun _ h9 => h9) rfl hin rfl (by decide +kernel) rfl rfl (Nat.le_of_ble_eq_true rfl) dX5_init_49 (fun H locs hP hD hS => ?_)
  have hP : va_P D vwCl [(h0, .inr (5, [.int 0, .ref q_1, .ref q_2, .ref q_3, .ref q_4, .ref q_5, .ref q_6, .null, .int 0, .int 0, .int 0])), (q_6, .inl (cT 0, 12, .inl (fun _ => 0)))] _ := hP
  have hD : va_D A [(h0, .inr (5, [.int 0, .ref q_1, .ref q_2, .ref q_3, .ref q_4, .ref q_5, .ref q_6, .null, .int 0, .int 0, .int 0])), (q_6, .inl (cT 0, 12, .inl (fun _ => 0)))] := hD
  have hP := hP.sub (ws' := [(h0, .inr (5, [.int 0, .ref q_1, .ref q_2, .ref q_3, .ref q_4, .ref q_5, .ref q_6, .null, .int 0, .int 0, .int 0]))]) [0] rfl
  have hD := hD.sub (ws' := [(h0, .inr (5, [.int 0, .ref q_1, .ref q_2, .ref q_3, .ref q_4, .ref q_5, .ref q_6, .null, .int 0, .int 0, .int 0]))]) [0] (by decide) rfl
  refine lv_aload_n hx hb dX5_init_52 rfl (lv_at hl 0 rfl) ?_
  refine lv_bipush (v := 12) hx hb dX5_init_53 (by decide) ?_
  refine va_newa (atype := .int) (ty := .int) (n := 12) (N' := 12) (a0 := (12, .inl (fun _ => 0))) hx hb (hts (.arrayClass .int) (List.mem_of_getElem? (i := 4) (by decide +kernel))) rfl hK hP hD hS hA (fun _ => rfl) (by decide) (by decide) (Nat.le_of_ble_eq_true rfl) (Nat.le_of_ble_eq_true rfl) (Nat.le_of_ble_eq_true rfl) dX5_init_55 (fun q_7 cA9 H hK hP hD hS => ?_)
  obtain rfl := ty_new hK 0 rfl
  have hK := ty_cut hK
  have hP : va_P D vwCl [(h0, .inr (5, [.int 0, .ref q_1, .ref q_2, .ref q_3, .ref q_4, .ref q_5, .ref q_6, .null, .int 0, .int 0, .int 0])), (q_7, .inl (cT 0, 12, .inl (fun _ => 0)))] _ := hP
  have hD : va_D A [(h0, .inr (5, [.int 0, .ref q_1, .ref q_2, .ref q_3, .ref q_4, .ref q_5, .ref q_6, .null, .int 0, .int 0, .int 0])), (q_7, .inl (cT 0, 12, .inl (fun _ => 0)))] := hD
  refine W.widen (k := 7) (n := 84) (Nat.le_of_ble_eq_true rfl) (Nat.le_of_ble_eq_true rfl) ?_
  refine va_putF (D := D) (ci := 5) (v := .ref q_7) (ty := (.array .int)) (C := RX5) (T := TX5) (N := 11) hx hb hts (fun _ h => List.mem_cons_of_mem _ (List.mem_append_right _ h)) tyX5 tyX5_ok nmX5 hown hK hP hD hS 0 rfl rfl 7 (by decide) (hts (.fieldLink RX5 30 "PuppetFilm$Puppet" "ends" "[I") (List.mem_of_getElem? (i := 11) (by decide +kernel))) (fun _ h9 => h9) rfl hin rfl (by decide +kernel) rfl rfl (Nat.le_of_ble_eq_true rfl) dX5_init_57 (fun H locs hP hD hS => ?_)
  have hP : va_P D vwCl [(h0, .inr (5, [.int 0, .ref q_1, .ref q_2, .ref q_3, .ref q_4, .ref q_5, .ref q_6, .ref q_7, .int 0, .int 0, .int 0])), (q_7, .inl (cT 0, 12, .inl (fun _ => 0)))] _ := hP
  have hD : va_D A [(h0, .inr (5, [.int 0, .ref q_1, .ref q_2, .ref q_3, .ref q_4, .ref q_5, .ref q_6, .ref q_7, .int 0, .int 0, .int 0])), (q_7, .inl (cT 0, 12, .inl (fun _ => 0)))] := hD
  have hP := hP.sub (ws' := [(h0, .inr (5, [.int 0, .ref q_1, .ref q_2, .ref q_3, .ref q_4, .ref q_5, .ref q_6, .ref q_7, .int 0, .int 0, .int 0]))]) [0] rfl
  have hD := hD.sub (ws' := [(h0, .inr (5, [.int 0, .ref q_1, .ref q_2, .ref q_3, .ref q_4, .ref q_5, .ref q_6, .ref q_7, .int 0, .int 0, .int 0]))]) [0] (by decide) rfl
  have hP9 := hP.sub (ws' := [(h0, .inr (5, [.int 0, .ref q_1, .ref q_2, .ref q_3, .ref q_4, .ref q_5, .ref q_6, .ref q_7, .int 0, .int 0, .int 0]))]) [0] rfl
  have hD9 := hD.sub (ws' := [(h0, .inr (5, [.int 0, .ref q_1, .ref q_2, .ref q_3, .ref q_4, .ref q_5, .ref q_6, .ref q_7, .int 0, .int 0, .int 0]))]) [0] (by decide) rfl
  exact W.vret hx hb hr (fun t ht hW => ⟨⟨(), rfl, trivial, ⟨q_1, q_2, q_3, q_4, q_5, q_6, q_7, by rw [ht]; exact hP9, hD9⟩⟩, hS.F ht⟩) hS.2.2 dX5_init_60
theorem dX9_init_0 : decode cX9_init 0 = .ok (.aload_n 0, 1) := by decide +kernel
theorem dX9_init_1 : decode cX9_init 1 = .ok (.invokespecial 3, 3) := by decide +kernel
theorem dX9_init_12 : decode cX9_init 12 = .ok (.aload_n 0, 1) := by decide +kernel
theorem dX9_init_13 : decode cX9_init 13 = .ok (.bipush 100, 2) := by decide +kernel
theorem dX9_init_15 : decode cX9_init 15 = .ok (.newarray .int, 2) := by decide +kernel
theorem dX9_init_17 : decode cX9_init 17 = .ok (.putfield 17, 3) := by decide +kernel
theorem dX9_init_20 : decode cX9_init 20 = .ok (.aload_n 0, 1) := by decide +kernel
theorem dX9_init_21 : decode cX9_init 21 = .ok (.iconst 3, 1) := by decide +kernel
theorem dX9_init_22 : decode cX9_init 22 = .ok (.newarray .int, 2) := by decide +kernel
theorem dX9_init_24 : decode cX9_init 24 = .ok (.putfield 20, 3) := by decide +kernel
theorem dX9_init_27 : decode cX9_init 27 = .ok (.aload_n 0, 1) := by decide +kernel
theorem dX9_init_28 : decode cX9_init 28 = .ok (.iconst 3, 1) := by decide +kernel
theorem dX9_init_29 : decode cX9_init 29 = .ok (.newarray .int, 2) := by decide +kernel
theorem dX9_init_31 : decode cX9_init 31 = .ok (.putfield 23, 3) := by decide +kernel
theorem dX9_init_34 : decode cX9_init 34 = .ok (.aload_n 0, 1) := by decide +kernel
theorem dX9_init_35 : decode cX9_init 35 = .ok (.iconst 3, 1) := by decide +kernel
theorem dX9_init_36 : decode cX9_init 36 = .ok (.newarray .int, 2) := by decide +kernel
theorem dX9_init_38 : decode cX9_init 38 = .ok (.putfield 26, 3) := by decide +kernel
theorem dX9_init_4 : decode cX9_init 4 = .ok (.aload_n 0, 1) := by decide +kernel
theorem dX9_init_41 : decode cX9_init 41 = .ok (.aload_n 0, 1) := by decide +kernel
theorem dX9_init_42 : decode cX9_init 42 = .ok (.iconst 3, 1) := by decide +kernel
theorem dX9_init_43 : decode cX9_init 43 = .ok (.newarray .int, 2) := by decide +kernel
theorem dX9_init_45 : decode cX9_init 45 = .ok (.putfield 29, 3) := by decide +kernel
theorem dX9_init_48 : decode cX9_init 48 = .ok (.aload_n 0, 1) := by decide +kernel
theorem dX9_init_49 : decode cX9_init 49 = .ok (.iconst 3, 1) := by decide +kernel
theorem dX9_init_5 : decode cX9_init 5 = .ok (.bipush 100, 2) := by decide +kernel
theorem dX9_init_50 : decode cX9_init 50 = .ok (.newarray .int, 2) := by decide +kernel
theorem dX9_init_52 : decode cX9_init 52 = .ok (.putfield 32, 3) := by decide +kernel
theorem dX9_init_55 : decode cX9_init 55 = .ok (.aload_n 0, 1) := by decide +kernel
theorem dX9_init_56 : decode cX9_init 56 = .ok (.iconst 3, 1) := by decide +kernel
theorem dX9_init_57 : decode cX9_init 57 = .ok (.newarray .int, 2) := by decide +kernel
theorem dX9_init_59 : decode cX9_init 59 = .ok (.putfield 35, 3) := by decide +kernel
theorem dX9_init_62 : decode cX9_init 62 = .ok (.aload_n 0, 1) := by decide +kernel
theorem dX9_init_63 : decode cX9_init 63 = .ok (.aload_n 1, 1) := by decide +kernel
theorem dX9_init_64 : decode cX9_init 64 = .ok (.putfield 38, 3) := by decide +kernel
theorem dX9_init_67 : decode cX9_init 67 = .ok (.return_, 1) := by decide +kernel
theorem dX9_init_7 : decode cX9_init 7 = .ok (.newarray .int, 2) := by decide +kernel
theorem dX9_init_9 : decode cX9_init 9 = .ok (.putfield 11, 3) := by decide +kernel
set_option maxHeartbeats 4000000 in
set_option maxRecDepth 100000 in
theorem c_X9_init (l : Launch) (D : va_G) (cT : Nat → ClassId) (h0 : Nat) (sc : Nat) (sz : Nat)  : Met l yX9_init wsX9_init ({ frames := 10, cells := 8, slots := 218, locals := 280 }) (va_Pc [.ref h0, .ref sc] (PW D cT [(h0, .inr (9, [.null, .null, .int 0, .int 0, .int 0, .null, .null, .null, .null, .null, .null, .null, .null]))] sz)) (va_Qv (fun _ : Unit => True) (fun (_ : Unit) (_ : State) => True) (va_A [(h0, .inr (9, [.null, .null, .int 0, .int 0, .int 0, .null, .null, .null, .null, .null, .null, .null, .null]))] sz)) 8 218 (va_A [(h0, .inr (9, [.null, .null, .int 0, .int 0, .int 0, .null, .null, .null, .null, .null, .null, .null, .null]))] sz) := by
  refine Met.ofW (cc := cX9_init) (maxL := 2) (ret := none) (by decide) rfl ?_
  intro p e s m args below meth c s₁ B hml hv
  obtain ⟨rfl, hsz, hP, hK, hD0, hG⟩ := hv
  have hx := B.exec
  have hb := B.bytes
  have hr := B.returns
  have hts := atoms_spec (ws := wsX9_init) B.pre
  have hown : s.vm.findClass RX9 = some m.cls := findClass_of_methodNamed B.named
  have hlocks := B.notSynchronized
  have hin : meth.name = "<init>" := (name_of_methodNamed B.named B.method).1
  subst hsz
  have hD := hD0.self (sz := s.heap.size)
  generalize hAe : va_A [(h0, .inr (9, [.null, .null, .int 0, .int 0, .int 0, .null, .null, .null, .null, .null, .null, .null, .null]))] s.heap.size = A at hD ⊢
  have hA : ∀ q : Nat, s.heap.size ≤ q → A q := fun q h => by rw [← hAe]; exact Or.inr h
  have hS : va_S A s.heap s.heap [] := va_S.rf
  have hP : va_P D vwCl [(h0, .inr (9, [.null, .null, .int 0, .int 0, .int 0, .null, .null, .null, .null, .null, .null, .null, .null]))] s.heap := hP
  have hl := lv_entry ([.ref h0, .ref sc]) (n := 2) (Nat.le_of_ble_eq_true rfl)
  rw [lg_entry_eq]
  generalize (lg_sl ([.ref h0, .ref sc]) ++ List.replicate (2 - (lg_sl ([.ref h0, .ref sc])).length) Slot.unset).toArray = ls at hl ⊢
  have hl : lv_has ls 2 [(0, .ref h0), (1, .ref sc)] := hl
  refine lv_aload_n hx hb dX9_init_0 rfl (lv_at hl 0 rfl) ?_
  refine W.objInit hx hb hown (hts (.methodLink RX9 3 objectInit) (List.mem_of_getElem? (i := 1) (by decide +kernel))) (hts (.instanceMethod objectInit) (List.mem_of_getElem? (i := 2) (by decide +kernel))) (hts _ (List.mem_of_getElem? (i := 3) rfl)) rfl (by rw [hml]; exact hl.1) rfl dX9_init_1 (Nat.le_of_ble_eq_true rfl) (Nat.le_of_ble_eq_true rfl) ?_
  refine W.eq (g2 := F0 m 4 ls []) rfl ?_
  refine lv_aload_n hx hb dX9_init_4 rfl (lv_at hl 0 rfl) ?_
  refine lv_bipush (v := 100) hx hb dX9_init_5 (by decide) ?_
  refine va_newa (atype := .int) (ty := .int) (n := 100) (N' := 100) (a0 := (100, .inl (fun _ => 0))) hx hb (hts (.arrayClass .int) (List.mem_of_getElem? (i := 4) (by decide +kernel))) rfl hK hP hD hS hA (fun _ => rfl) (by decide) (by decide) (Nat.le_of_ble_eq_true rfl) (Nat.le_of_ble_eq_true rfl) (Nat.le_of_ble_eq_true rfl) dX9_init_7 (fun q_1 cA9 H hK hP hD hS => ?_)
  obtain rfl := ty_new hK 0 rfl
  have hK := ty_cut hK
  have hP : va_P D vwCl [(h0, .inr (9, [.null, .null, .int 0, .int 0, .int 0, .null, .null, .null, .null, .null, .null, .null, .null])), (q_1, .inl (cT 0, 100, .inl (fun _ => 0)))] _ := hP
  have hD : va_D A [(h0, .inr (9, [.null, .null, .int 0, .int 0, .int 0, .null, .null, .null, .null, .null, .null, .null, .null])), (q_1, .inl (cT 0, 100, .inl (fun _ => 0)))] := hD
  refine W.widen (k := 1) (n := 100) (Nat.le_of_ble_eq_true rfl) (Nat.le_of_ble_eq_true rfl) ?_
  refine va_putF (D := D) (ci := 9) (v := .ref q_1) (ty := (.array .int)) (C := RX9) (T := TX9) (N := 13) hx hb hts (fun _ h => List.mem_cons_of_mem _ (List.mem_append_right _ h)) tyX9 tyX9_ok nmX9 hown hK hP hD hS 0 rfl rfl 5 (by decide) (hts (.fieldLink RX9 11 "PuppetFilm$Teller" "steps" "[I") (List.mem_of_getElem? (i := 5) (by decide +kernel))) (fun _ h9 => h9) rfl hin rfl (by decide +kernel) rfl rfl (Nat.le_of_ble_eq_true rfl) dX9_init_9 (fun H locs hP hD hS => ?_)
  have hP : va_P D vwCl [(h0, .inr (9, [.null, .null, .int 0, .int 0, .int 0, .ref q_1, .null, .null, .null, .null, .null, .null, .null])), (q_1, .inl (cT 0, 100, .inl (fun _ => 0)))] _ := hP
  have hD : va_D A [(h0, .inr (9, [.null, .null, .int 0, .int 0, .int 0, .ref q_1, .null, .null, .null, .null, .null, .null, .null])), (q_1, .inl (cT 0, 100, .inl (fun _ => 0)))] := hD
  have hP := hP.sub (ws' := [(h0, .inr (9, [.null, .null, .int 0, .int 0, .int 0, .ref q_1, .null, .null, .null, .null, .null, .null, .null]))]) [0] rfl
  have hD := hD.sub (ws' := [(h0, .inr (9, [.null, .null, .int 0, .int 0, .int 0, .ref q_1, .null, .null, .null, .null, .null, .null, .null]))]) [0] (by decide) rfl
  refine lv_aload_n hx hb dX9_init_12 rfl (lv_at hl 0 rfl) ?_
  refine lv_bipush (v := 100) hx hb dX9_init_13 (by decide) ?_
  refine va_newa (atype := .int) (ty := .int) (n := 100) (N' := 100) (a0 := (100, .inl (fun _ => 0))) hx hb (hts (.arrayClass .int) (List.mem_of_getElem? (i := 4) (by decide +kernel))) rfl hK hP hD hS hA (fun _ => rfl) (by decide) (by decide) (Nat.le_of_ble_eq_true rfl) (Nat.le_of_ble_eq_true rfl) (Nat.le_of_ble_eq_true rfl) dX9_init_15 (fun q_2 cA9 H hK hP hD hS => ?_)
  obtain rfl := ty_new hK 0 rfl
  have hK := ty_cut hK
  have hP : va_P D vwCl [(h0, .inr (9, [.null, .null, .int 0, .int 0, .int 0, .ref q_1, .null, .null, .null, .null, .null, .null, .null])), (q_2, .inl (cT 0, 100, .inl (fun _ => 0)))] _ := hP
  have hD : va_D A [(h0, .inr (9, [.null, .null, .int 0, .int 0, .int 0, .ref q_1, .null, .null, .null, .null, .null, .null, .null])), (q_2, .inl (cT 0, 100, .inl (fun _ => 0)))] := hD
  refine W.widen (k := 2) (n := 200) (Nat.le_of_ble_eq_true rfl) (Nat.le_of_ble_eq_true rfl) ?_
  refine va_putF (D := D) (ci := 9) (v := .ref q_2) (ty := (.array .int)) (C := RX9) (T := TX9) (N := 13) hx hb hts (fun _ h => List.mem_cons_of_mem _ (List.mem_append_right _ h)) tyX9 tyX9_ok nmX9 hown hK hP hD hS 0 rfl rfl 6 (by decide) (hts (.fieldLink RX9 17 "PuppetFilm$Teller" "before" "[I") (List.mem_of_getElem? (i := 6) (by decide +kernel))) (fun _ h9 => h9) rfl hin rfl (by decide +kernel) rfl rfl (Nat.le_of_ble_eq_true rfl) dX9_init_17 (fun H locs hP hD hS => ?_)
  have hP : va_P D vwCl [(h0, .inr (9, [.null, .null, .int 0, .int 0, .int 0, .ref q_1, .ref q_2, .null, .null, .null, .null, .null, .null])), (q_2, .inl (cT 0, 100, .inl (fun _ => 0)))] _ := hP
  have hD : va_D A [(h0, .inr (9, [.null, .null, .int 0, .int 0, .int 0, .ref q_1, .ref q_2, .null, .null, .null, .null, .null, .null])), (q_2, .inl (cT 0, 100, .inl (fun _ => 0)))] := hD
  have hP := hP.sub (ws' := [(h0, .inr (9, [.null, .null, .int 0, .int 0, .int 0, .ref q_1, .ref q_2, .null, .null, .null, .null, .null, .null]))]) [0] rfl
  have hD := hD.sub (ws' := [(h0, .inr (9, [.null, .null, .int 0, .int 0, .int 0, .ref q_1, .ref q_2, .null, .null, .null, .null, .null, .null]))]) [0] (by decide) rfl
  refine lv_aload_n hx hb dX9_init_20 rfl (lv_at hl 0 rfl) ?_
  refine lv_iconst (v := 3) hx hb dX9_init_21 (by decide) ?_
  refine va_newa (atype := .int) (ty := .int) (n := 3) (N' := 3) (a0 := (3, .inl (fun _ => 0))) hx hb (hts (.arrayClass .int) (List.mem_of_getElem? (i := 4) (by decide +kernel))) rfl hK hP hD hS hA (fun _ => rfl) (by decide) (by decide) (Nat.le_of_ble_eq_true rfl) (Nat.le_of_ble_eq_true rfl) (Nat.le_of_ble_eq_true rfl) dX9_init_22 (fun q_3 cA9 H hK hP hD hS => ?_)
  obtain rfl := ty_new hK 0 rfl
  have hK := ty_cut hK
  have hP : va_P D vwCl [(h0, .inr (9, [.null, .null, .int 0, .int 0, .int 0, .ref q_1, .ref q_2, .null, .null, .null, .null, .null, .null])), (q_3, .inl (cT 0, 3, .inl (fun _ => 0)))] _ := hP
  have hD : va_D A [(h0, .inr (9, [.null, .null, .int 0, .int 0, .int 0, .ref q_1, .ref q_2, .null, .null, .null, .null, .null, .null])), (q_3, .inl (cT 0, 3, .inl (fun _ => 0)))] := hD
  refine W.widen (k := 3) (n := 203) (Nat.le_of_ble_eq_true rfl) (Nat.le_of_ble_eq_true rfl) ?_
  refine va_putF (D := D) (ci := 9) (v := .ref q_3) (ty := (.array .int)) (C := RX9) (T := TX9) (N := 13) hx hb hts (fun _ h => List.mem_cons_of_mem _ (List.mem_append_right _ h)) tyX9 tyX9_ok nmX9 hown hK hP hD hS 0 rfl rfl 7 (by decide) (hts (.fieldLink RX9 20 "PuppetFilm$Teller" "axes" "[I") (List.mem_of_getElem? (i := 7) (by decide +kernel))) (fun _ h9 => h9) rfl hin rfl (by decide +kernel) rfl rfl (Nat.le_of_ble_eq_true rfl) dX9_init_24 (fun H locs hP hD hS => ?_)
  have hP : va_P D vwCl [(h0, .inr (9, [.null, .null, .int 0, .int 0, .int 0, .ref q_1, .ref q_2, .ref q_3, .null, .null, .null, .null, .null])), (q_3, .inl (cT 0, 3, .inl (fun _ => 0)))] _ := hP
  have hD : va_D A [(h0, .inr (9, [.null, .null, .int 0, .int 0, .int 0, .ref q_1, .ref q_2, .ref q_3, .null, .null, .null, .null, .null])), (q_3, .inl (cT 0, 3, .inl (fun _ => 0)))] := hD
  have hP := hP.sub (ws' := [(h0, .inr (9, [.null, .null, .int 0, .int 0, .int 0, .ref q_1, .ref q_2, .ref q_3, .null, .null, .null, .null, .null]))]) [0] rfl
  have hD := hD.sub (ws' := [(h0, .inr (9, [.null, .null, .int 0, .int 0, .int 0, .ref q_1, .ref q_2, .ref q_3, .null, .null, .null, .null, .null]))]) [0] (by decide) rfl
  refine lv_aload_n hx hb dX9_init_27 rfl (lv_at hl 0 rfl) ?_
  refine lv_iconst (v := 3) hx hb dX9_init_28 (by decide) ?_
  refine va_newa (atype := .int) (ty := .int) (n := 3) (N' := 3) (a0 := (3, .inl (fun _ => 0))) hx hb (hts (.arrayClass .int) (List.mem_of_getElem? (i := 4) (by decide +kernel))) rfl hK hP hD hS hA (fun _ => rfl) (by decide) (by decide) (Nat.le_of_ble_eq_true rfl) (Nat.le_of_ble_eq_true rfl) (Nat.le_of_ble_eq_true rfl) dX9_init_29 (fun q_4 cA9 H hK hP hD hS => ?_)
  obtain rfl := ty_new hK 0 rfl
  have hK := ty_cut hK
  have hP : va_P D vwCl [(h0, .inr (9, [.null, .null, .int 0, .int 0, .int 0, .ref q_1, .ref q_2, .ref q_3, .null, .null, .null, .null, .null])), (q_4, .inl (cT 0, 3, .inl (fun _ => 0)))] _ := hP
  have hD : va_D A [(h0, .inr (9, [.null, .null, .int 0, .int 0, .int 0, .ref q_1, .ref q_2, .ref q_3, .null, .null, .null, .null, .null])), (q_4, .inl (cT 0, 3, .inl (fun _ => 0)))] := hD
  refine W.widen (k := 4) (n := 206) (Nat.le_of_ble_eq_true rfl) (Nat.le_of_ble_eq_true rfl) ?_
  refine va_putF (D := D) (ci := 9) (v := .ref q_4) (ty := (.array .int)) (C := RX9) (T := TX9) (N := 13) hx hb hts (fun _ h => List.mem_cons_of_mem _ (List.mem_append_right _ h)) tyX9 tyX9_ok nmX9 hown hK hP hD hS 0 rfl rfl 8 (by decide) (hts (.fieldLink RX9 23 "PuppetFilm$Teller" "motorFrom" "[I") (List.mem_of_getElem? (i := 8) (by decide +kernel))) (fun _ h9 => h9) rfl hin rfl (by decide +kernel) rfl rfl (Nat.le_of_ble_eq_true rfl) dX9_init_31 (fun H locs hP hD hS => ?_)
  have hP : va_P D vwCl [(h0, .inr (9, [.null, .null, .int 0, .int 0, .int 0, .ref q_1, .ref q_2, .ref q_3, .ref q_4, .null, .null, .null, .null])), (q_4, .inl (cT 0, 3, .inl (fun _ => 0)))] _ := hP
  have hD : va_D A [(h0, .inr (9, [.null, .null, .int 0, .int 0, .int 0, .ref q_1, .ref q_2, .ref q_3, .ref q_4, .null, .null, .null, .null])), (q_4, .inl (cT 0, 3, .inl (fun _ => 0)))] := hD
  have hP := hP.sub (ws' := [(h0, .inr (9, [.null, .null, .int 0, .int 0, .int 0, .ref q_1, .ref q_2, .ref q_3, .ref q_4, .null, .null, .null, .null]))]) [0] rfl
  have hD := hD.sub (ws' := [(h0, .inr (9, [.null, .null, .int 0, .int 0, .int 0, .ref q_1, .ref q_2, .ref q_3, .ref q_4, .null, .null, .null, .null]))]) [0] (by decide) rfl
  refine lv_aload_n hx hb dX9_init_34 rfl (lv_at hl 0 rfl) ?_
  refine lv_iconst (v := 3) hx hb dX9_init_35 (by decide) ?_
  refine va_newa (atype := .int) (ty := .int) (n := 3) (N' := 3) (a0 := (3, .inl (fun _ => 0))) hx hb (hts (.arrayClass .int) (List.mem_of_getElem? (i := 4) (by decide +kernel))) rfl hK hP hD hS hA (fun _ => rfl) (by decide) (by decide) (Nat.le_of_ble_eq_true rfl) (Nat.le_of_ble_eq_true rfl) (Nat.le_of_ble_eq_true rfl) dX9_init_36 (fun q_5 cA9 H hK hP hD hS => ?_)
  obtain rfl := ty_new hK 0 rfl
  have hK := ty_cut hK
  have hP : va_P D vwCl [(h0, .inr (9, [.null, .null, .int 0, .int 0, .int 0, .ref q_1, .ref q_2, .ref q_3, .ref q_4, .null, .null, .null, .null])), (q_5, .inl (cT 0, 3, .inl (fun _ => 0)))] _ := hP
  have hD : va_D A [(h0, .inr (9, [.null, .null, .int 0, .int 0, .int 0, .ref q_1, .ref q_2, .ref q_3, .ref q_4, .null, .null, .null, .null])), (q_5, .inl (cT 0, 3, .inl (fun _ => 0)))] := hD
  refine W.widen (k := 5) (n := 209) (Nat.le_of_ble_eq_true rfl) (Nat.le_of_ble_eq_true rfl) ?_
  refine va_putF (D := D) (ci := 9) (v := .ref q_5) (ty := (.array .int)) (C := RX9) (T := TX9) (N := 13) hx hb hts (fun _ h => List.mem_cons_of_mem _ (List.mem_append_right _ h)) tyX9 tyX9_ok nmX9 hown hK hP hD hS 0 rfl rfl 9 (by decide) (hts (.fieldLink RX9 26 "PuppetFilm$Teller" "motorGoal" "[I") (List.mem_of_getElem? (i := 9) (by decide +kernel))) (fun _ h9 => h9) rfl hin rfl (by decide +kernel) rfl rfl (Nat.le_of_ble_eq_true rfl) dX9_init_38 (fun H locs hP hD hS => ?_)
  have hP : va_P D vwCl [(h0, .inr (9, [.null, .null, .int 0, .int 0, .int 0, .ref q_1, .ref q_2, .ref q_3, .ref q_4, .ref q_5, .null, .null, .null])), (q_5, .inl (cT 0, 3, .inl (fun _ => 0)))] _ := hP
  have hD : va_D A [(h0, .inr (9, [.null, .null, .int 0, .int 0, .int 0, .ref q_1, .ref q_2, .ref q_3, .ref q_4, .ref q_5, .null, .null, .null])), (q_5, .inl (cT 0, 3, .inl (fun _ => 0)))] := hD
  have hP := hP.sub (ws' := [(h0, .inr (9, [.null, .null, .int 0, .int 0, .int 0, .ref q_1, .ref q_2, .ref q_3, .ref q_4, .ref q_5, .null, .null, .null]))]) [0] rfl
  have hD := hD.sub (ws' := [(h0, .inr (9, [.null, .null, .int 0, .int 0, .int 0, .ref q_1, .ref q_2, .ref q_3, .ref q_4, .ref q_5, .null, .null, .null]))]) [0] (by decide) rfl
  refine lv_aload_n hx hb dX9_init_41 rfl (lv_at hl 0 rfl) ?_
  refine lv_iconst (v := 3) hx hb dX9_init_42 (by decide) ?_
  refine va_newa (atype := .int) (ty := .int) (n := 3) (N' := 3) (a0 := (3, .inl (fun _ => 0))) hx hb (hts (.arrayClass .int) (List.mem_of_getElem? (i := 4) (by decide +kernel))) rfl hK hP hD hS hA (fun _ => rfl) (by decide) (by decide) (Nat.le_of_ble_eq_true rfl) (Nat.le_of_ble_eq_true rfl) (Nat.le_of_ble_eq_true rfl) dX9_init_43 (fun q_6 cA9 H hK hP hD hS => ?_)
  obtain rfl := ty_new hK 0 rfl
  have hK := ty_cut hK
  have hP : va_P D vwCl [(h0, .inr (9, [.null, .null, .int 0, .int 0, .int 0, .ref q_1, .ref q_2, .ref q_3, .ref q_4, .ref q_5, .null, .null, .null])), (q_6, .inl (cT 0, 3, .inl (fun _ => 0)))] _ := hP
  have hD : va_D A [(h0, .inr (9, [.null, .null, .int 0, .int 0, .int 0, .ref q_1, .ref q_2, .ref q_3, .ref q_4, .ref q_5, .null, .null, .null])), (q_6, .inl (cT 0, 3, .inl (fun _ => 0)))] := hD
  refine W.widen (k := 6) (n := 212) (Nat.le_of_ble_eq_true rfl) (Nat.le_of_ble_eq_true rfl) ?_
  refine va_putF (D := D) (ci := 9) (v := .ref q_6) (ty := (.array .int)) (C := RX9) (T := TX9) (N := 13) hx hb hts (fun _ h => List.mem_cons_of_mem _ (List.mem_append_right _ h)) tyX9 tyX9_ok nmX9 hown hK hP hD hS 0 rfl rfl 10 (by decide) (hts (.fieldLink RX9 29 "PuppetFilm$Teller" "motorStart" "[I") (List.mem_of_getElem? (i := 10) (by decide +kernel))) (fun _ h9 => h9) rfl hin rfl (by decide +kernel) rfl rfl (Nat.le_of_ble_eq_true rfl) dX9_init_45 (fun H locs hP hD hS => ?_)
  have hP : va_P D vwCl [(h0, .inr (9, [.null, .null, .int 0, .int 0, .int 0, .ref q_1, .ref q_2, .ref q_3, .ref q_4, .ref q_5, .ref q_6, .null, .null])), (q_6, .inl (cT 0, 3, .inl (fun _ => 0)))] _ := hP
  have hD : va_D A [(h0, .inr (9, [.null, .null, .int 0, .int 0, .int 0, .ref q_1, .ref q_2, .ref q_3, .ref q_4, .ref q_5, .ref q_6, .null, .null])), (q_6, .inl (cT 0, 3, .inl (fun _ => 0)))] := hD
  have hP := hP.sub (ws' := [(h0, .inr (9, [.null, .null, .int 0, .int 0, .int 0, .ref q_1, .ref q_2, .ref q_3, .ref q_4, .ref q_5, .ref q_6, .null, .null]))]) [0] rfl
  have hD := hD.sub (ws' := [(h0, .inr (9, [.null, .null, .int 0, .int 0, .int 0, .ref q_1, .ref q_2, .ref q_3, .ref q_4, .ref q_5, .ref q_6, .null, .null]))]) [0] (by decide) rfl
  refine lv_aload_n hx hb dX9_init_48 rfl (lv_at hl 0 rfl) ?_
  refine lv_iconst (v := 3) hx hb dX9_init_49 (by decide) ?_
  refine va_newa (atype := .int) (ty := .int) (n := 3) (N' := 3) (a0 := (3, .inl (fun _ => 0))) hx hb (hts (.arrayClass .int) (List.mem_of_getElem? (i := 4) (by decide +kernel))) rfl hK hP hD hS hA (fun _ => rfl) (by decide) (by decide) (Nat.le_of_ble_eq_true rfl) (Nat.le_of_ble_eq_true rfl) (Nat.le_of_ble_eq_true rfl) dX9_init_50 (fun q_7 cA9 H hK hP hD hS => ?_)
  obtain rfl := ty_new hK 0 rfl
  have hK := ty_cut hK
  have hP : va_P D vwCl [(h0, .inr (9, [.null, .null, .int 0, .int 0, .int 0, .ref q_1, .ref q_2, .ref q_3, .ref q_4, .ref q_5, .ref q_6, .null, .null])), (q_7, .inl (cT 0, 3, .inl (fun _ => 0)))] _ := hP
  have hD : va_D A [(h0, .inr (9, [.null, .null, .int 0, .int 0, .int 0, .ref q_1, .ref q_2, .ref q_3, .ref q_4, .ref q_5, .ref q_6, .null, .null])), (q_7, .inl (cT 0, 3, .inl (fun _ => 0)))] := hD
  refine W.widen (k := 7) (n := 215) (Nat.le_of_ble_eq_true rfl) (Nat.le_of_ble_eq_true rfl) ?_
  refine va_putF (D := D) (ci := 9) (v := .ref q_7) (ty := (.array .int)) (C := RX9) (T := TX9) (N := 13) hx hb hts (fun _ h => List.mem_cons_of_mem _ (List.mem_append_right _ h)) tyX9 tyX9_ok nmX9 hown hK hP hD hS 0 rfl rfl 11 (by decide) (hts (.fieldLink RX9 32 "PuppetFilm$Teller" "motorFrames" "[I") (List.mem_of_getElem? (i := 11) (by decide +kernel))) (fun _ h9 => h9) rfl hin rfl (by decide +kernel) rfl rfl (Nat.le_of_ble_eq_true rfl) dX9_init_52 (fun H locs hP hD hS => ?_)
  have hP : va_P D vwCl [(h0, .inr (9, [.null, .null, .int 0, .int 0, .int 0, .ref q_1, .ref q_2, .ref q_3, .ref q_4, .ref q_5, .ref q_6, .ref q_7, .null])), (q_7, .inl (cT 0, 3, .inl (fun _ => 0)))] _ := hP
  have hD : va_D A [(h0, .inr (9, [.null, .null, .int 0, .int 0, .int 0, .ref q_1, .ref q_2, .ref q_3, .ref q_4, .ref q_5, .ref q_6, .ref q_7, .null])), (q_7, .inl (cT 0, 3, .inl (fun _ => 0)))] := hD
  have hP := hP.sub (ws' := [(h0, .inr (9, [.null, .null, .int 0, .int 0, .int 0, .ref q_1, .ref q_2, .ref q_3, .ref q_4, .ref q_5, .ref q_6, .ref q_7, .null]))]) [0] rfl
  have hD := hD.sub (ws' := [(h0, .inr (9, [.null, .null, .int 0, .int 0, .int 0, .ref q_1, .ref q_2, .ref q_3, .ref q_4, .ref q_5, .ref q_6, .ref q_7, .null]))]) [0] (by decide) rfl
  refine lv_aload_n hx hb dX9_init_55 rfl (lv_at hl 0 rfl) ?_
  refine lv_iconst (v := 3) hx hb dX9_init_56 (by decide) ?_
  refine va_newa (atype := .int) (ty := .int) (n := 3) (N' := 3) (a0 := (3, .inl (fun _ => 0))) hx hb (hts (.arrayClass .int) (List.mem_of_getElem? (i := 4) (by decide +kernel))) rfl hK hP hD hS hA (fun _ => rfl) (by decide) (by decide) (Nat.le_of_ble_eq_true rfl) (Nat.le_of_ble_eq_true rfl) (Nat.le_of_ble_eq_true rfl) dX9_init_57 (fun q_8 cA9 H hK hP hD hS => ?_)
  obtain rfl := ty_new hK 0 rfl
  have hK := ty_cut hK
  have hP : va_P D vwCl [(h0, .inr (9, [.null, .null, .int 0, .int 0, .int 0, .ref q_1, .ref q_2, .ref q_3, .ref q_4, .ref q_5, .ref q_6, .ref q_7, .null])), (q_8, .inl (cT 0, 3, .inl (fun _ => 0)))] _ := hP
  have hD : va_D A [(h0, .inr (9, [.null, .null, .int 0, .int 0, .int 0, .ref q_1, .ref q_2, .ref q_3, .ref q_4, .ref q_5, .ref q_6, .ref q_7, .null])), (q_8, .inl (cT 0, 3, .inl (fun _ => 0)))] := hD
  refine W.widen (k := 8) (n := 218) (Nat.le_of_ble_eq_true rfl) (Nat.le_of_ble_eq_true rfl) ?_
  refine va_putF (D := D) (ci := 9) (v := .ref q_8) (ty := (.array .int)) (C := RX9) (T := TX9) (N := 13) hx hb hts (fun _ h => List.mem_cons_of_mem _ (List.mem_append_right _ h)) tyX9 tyX9_ok nmX9 hown hK hP hD hS 0 rfl rfl 12 (by decide) (hts (.fieldLink RX9 35 "PuppetFilm$Teller" "motorEase" "[I") (List.mem_of_getElem? (i := 12) (by decide +kernel))) (fun _ h9 => h9) rfl hin rfl (by decide +kernel) rfl rfl (Nat.le_of_ble_eq_true rfl) dX9_init_59 (fun H locs hP hD hS => ?_)
  have hP : va_P D vwCl [(h0, .inr (9, [.null, .null, .int 0, .int 0, .int 0, .ref q_1, .ref q_2, .ref q_3, .ref q_4, .ref q_5, .ref q_6, .ref q_7, .ref q_8])), (q_8, .inl (cT 0, 3, .inl (fun _ => 0)))] _ := hP
  have hD : va_D A [(h0, .inr (9, [.null, .null, .int 0, .int 0, .int 0, .ref q_1, .ref q_2, .ref q_3, .ref q_4, .ref q_5, .ref q_6, .ref q_7, .ref q_8])), (q_8, .inl (cT 0, 3, .inl (fun _ => 0)))] := hD
  have hP := hP.sub (ws' := [(h0, .inr (9, [.null, .null, .int 0, .int 0, .int 0, .ref q_1, .ref q_2, .ref q_3, .ref q_4, .ref q_5, .ref q_6, .ref q_7, .ref q_8]))]) [0] rfl
  have hD := hD.sub (ws' := [(h0, .inr (9, [.null, .null, .int 0, .int 0, .int 0, .ref q_1, .ref q_2, .ref q_3, .ref q_4, .ref q_5, .ref q_6, .ref q_7, .ref q_8]))]) [0] (by decide) rfl
  refine lv_aload_n hx hb dX9_init_62 rfl (lv_at hl 0 rfl) ?_
  refine lv_aload_n hx hb dX9_init_63 rfl (lv_at hl 1 rfl) ?_
  refine va_putF (D := D) (ci := 9) (v := .ref sc) (ty := (.object "PuppetFilm$Script")) (C := RX9) (T := TX9) (N := 13) hx hb hts (fun _ h => List.mem_cons_of_mem _ (List.mem_append_right _ h)) tyX9 tyX9_ok nmX9 hown hK hP hD hS 0 rfl rfl 0 (by decide) (hts (.fieldLink RX9 38 "PuppetFilm$Teller" "script" "LPuppetFilm$Script;") (List.mem_of_getElem? (i := 13) (by decide +kernel))) (fun _ h9 => h9) rfl hin rfl (by decide +kernel) rfl rfl (Nat.le_of_ble_eq_true rfl) dX9_init_64 (fun H locs hP hD hS => ?_)
  have hP : va_P D vwCl [(h0, .inr (9, [.ref sc, .null, .int 0, .int 0, .int 0, .ref q_1, .ref q_2, .ref q_3, .ref q_4, .ref q_5, .ref q_6, .ref q_7, .ref q_8]))] _ := hP
  have hD : va_D A [(h0, .inr (9, [.ref sc, .null, .int 0, .int 0, .int 0, .ref q_1, .ref q_2, .ref q_3, .ref q_4, .ref q_5, .ref q_6, .ref q_7, .ref q_8]))] := hD
  exact W.vret hx hb hr (fun t ht hW => ⟨⟨(), rfl, trivial, trivial⟩, hS.F ht⟩) hS.2.2 dX9_init_67
theorem dX10_init_0 : decode cX10_init 0 = .ok (.aload_n 0, 1) := by decide +kernel
theorem dX10_init_1 : decode cX10_init 1 = .ok (.invokespecial 3, 3) := by decide +kernel
theorem dX10_init_10 : decode cX10_init 10 = .ok (.putfield 9, 3) := by decide +kernel
theorem dX10_init_13 : decode cX10_init 13 = .ok (.return_, 1) := by decide +kernel
theorem dX10_init_4 : decode cX10_init 4 = .ok (.aload_n 0, 1) := by decide +kernel
theorem dX10_init_5 : decode cX10_init 5 = .ok (.sipush 400, 3) := by decide +kernel
theorem dX10_init_8 : decode cX10_init 8 = .ok (.newarray .byte, 2) := by decide +kernel
set_option maxHeartbeats 4000000 in
set_option maxRecDepth 100000 in
theorem c_X10_init (l : Launch) (D : va_G) (cT : Nat → ClassId) (h0 : Nat) (sz : Nat)  : Met l yX10_init wsX10_init ({ frames := 10, cells := 1, slots := 400, locals := 280 }) (va_Pc [.ref h0] (PW D cT [(h0, .inr (10, [.null, .int 0, .int 0, .int 0, .int 0, .int 0, .int 0]))] sz)) (va_Qv (fun _ : Unit => True) (fun (_ : Unit) (t : State) => ∃ (a_text : Nat), va_P D vwCl [(h0, .inr (10, [.ref a_text, .int 0, .int 0, .int 0, .int 0, .int 0, .int 0])), (a_text, .inl (cT 1, 400, .inl (fun _ => 0)))] t.heap ∧ va_D (va_A [(h0, .inr (10, [.null, .int 0, .int 0, .int 0, .int 0, .int 0, .int 0]))] sz) [(h0, .inr (10, [.ref a_text, .int 0, .int 0, .int 0, .int 0, .int 0, .int 0])), (a_text, .inl (cT 1, 400, .inl (fun _ => 0)))]) (va_A [(h0, .inr (10, [.null, .int 0, .int 0, .int 0, .int 0, .int 0, .int 0]))] sz)) 1 400 (va_A [(h0, .inr (10, [.null, .int 0, .int 0, .int 0, .int 0, .int 0, .int 0]))] sz) := by
  refine Met.ofW (cc := cX10_init) (maxL := 1) (ret := none) (by decide) rfl ?_
  intro p e s m args below meth c s₁ B hml hv
  obtain ⟨rfl, hsz, hP, hK, hD0, hG⟩ := hv
  have hx := B.exec
  have hb := B.bytes
  have hr := B.returns
  have hts := atoms_spec (ws := wsX10_init) B.pre
  have hown : s.vm.findClass RX10 = some m.cls := findClass_of_methodNamed B.named
  have hlocks := B.notSynchronized
  have hin : meth.name = "<init>" := (name_of_methodNamed B.named B.method).1
  subst hsz
  have hD := hD0.self (sz := s.heap.size)
  generalize hAe : va_A [(h0, .inr (10, [.null, .int 0, .int 0, .int 0, .int 0, .int 0, .int 0]))] s.heap.size = A at hD ⊢
  have hA : ∀ q : Nat, s.heap.size ≤ q → A q := fun q h => by rw [← hAe]; exact Or.inr h
  have hS : va_S A s.heap s.heap [] := va_S.rf
  have hP : va_P D vwCl [(h0, .inr (10, [.null, .int 0, .int 0, .int 0, .int 0, .int 0, .int 0]))] s.heap := hP
  have hl := lv_entry ([.ref h0]) (n := 1) (Nat.le_of_ble_eq_true rfl)
  rw [lg_entry_eq]
  generalize (lg_sl ([.ref h0]) ++ List.replicate (1 - (lg_sl ([.ref h0])).length) Slot.unset).toArray = ls at hl ⊢
  have hl : lv_has ls 1 [(0, .ref h0)] := hl
  refine lv_aload_n hx hb dX10_init_0 rfl (lv_at hl 0 rfl) ?_
  refine W.objInit hx hb hown (hts (.methodLink RX10 3 objectInit) (List.mem_of_getElem? (i := 1) (by decide +kernel))) (hts (.instanceMethod objectInit) (List.mem_of_getElem? (i := 2) (by decide +kernel))) (hts _ (List.mem_of_getElem? (i := 3) rfl)) rfl (by rw [hml]; exact hl.1) rfl dX10_init_1 (Nat.le_of_ble_eq_true rfl) (Nat.le_of_ble_eq_true rfl) ?_
  refine W.eq (g2 := F0 m 4 ls []) rfl ?_
  refine lv_aload_n hx hb dX10_init_4 rfl (lv_at hl 0 rfl) ?_
  refine lv_sipush (v := 400) hx hb dX10_init_5 (by decide) ?_
  refine va_newa (atype := .byte) (ty := .byte) (n := 400) (N' := 400) (a0 := (400, .inl (fun _ => 0))) hx hb (hts (.arrayClass .byte) (List.mem_of_getElem? (i := 4) (by decide +kernel))) rfl hK hP hD hS hA (fun _ => rfl) (by decide) (by decide) (Nat.le_of_ble_eq_true rfl) (Nat.le_of_ble_eq_true rfl) (Nat.le_of_ble_eq_true rfl) dX10_init_8 (fun q_1 cA9 H hK hP hD hS => ?_)
  obtain rfl := ty_new hK 1 rfl
  have hK := ty_cut hK
  have hP : va_P D vwCl [(h0, .inr (10, [.null, .int 0, .int 0, .int 0, .int 0, .int 0, .int 0])), (q_1, .inl (cT 1, 400, .inl (fun _ => 0)))] _ := hP
  have hD : va_D A [(h0, .inr (10, [.null, .int 0, .int 0, .int 0, .int 0, .int 0, .int 0])), (q_1, .inl (cT 1, 400, .inl (fun _ => 0)))] := hD
  refine W.widen (k := 1) (n := 400) (Nat.le_of_ble_eq_true rfl) (Nat.le_of_ble_eq_true rfl) ?_
  refine va_putF (D := D) (ci := 10) (v := .ref q_1) (ty := (.array .byte)) (C := RX10) (T := TX10) (N := 7) hx hb hts (fun _ h => List.mem_cons_of_mem _ (List.mem_append_right _ h)) tyX10 tyX10_ok nmX10 hown hK hP hD hS 0 rfl rfl 0 (by decide) (hts (.fieldLink RX10 9 "PuppetFilm$Words" "text" "[B") (List.mem_of_getElem? (i := 5) (by decide +kernel))) (fun _ h9 => h9) rfl hin rfl (by decide +kernel) rfl rfl (Nat.le_of_ble_eq_true rfl) dX10_init_10 (fun H locs hP hD hS => ?_)
  have hP : va_P D vwCl [(h0, .inr (10, [.ref q_1, .int 0, .int 0, .int 0, .int 0, .int 0, .int 0])), (q_1, .inl (cT 1, 400, .inl (fun _ => 0)))] _ := hP
  have hD : va_D A [(h0, .inr (10, [.ref q_1, .int 0, .int 0, .int 0, .int 0, .int 0, .int 0])), (q_1, .inl (cT 1, 400, .inl (fun _ => 0)))] := hD
  have hP9 := hP.sub (ws' := [(h0, .inr (10, [.ref q_1, .int 0, .int 0, .int 0, .int 0, .int 0, .int 0])), (q_1, .inl (cT 1, 400, .inl (fun _ => 0)))]) [0, 1] rfl
  have hD9 := hD.sub (ws' := [(h0, .inr (10, [.ref q_1, .int 0, .int 0, .int 0, .int 0, .int 0, .int 0])), (q_1, .inl (cT 1, 400, .inl (fun _ => 0)))]) [0, 1] (by decide) rfl
  exact W.vret hx hb hr (fun t ht hW => ⟨⟨(), rfl, trivial, ⟨q_1, by rw [ht]; exact hP9, hD9⟩⟩, hS.F ht⟩) hS.2.2 dX10_init_13
theorem dX8_init_0 : decode cX8_init 0 = .ok (.aload_n 0, 1) := by decide +kernel
theorem dX8_init_1 : decode cX8_init 1 = .ok (.invokespecial 3, 3) := by decide +kernel
theorem dX8_init_10 : decode cX8_init 10 = .ok (.putfield 11, 3) := by decide +kernel
theorem dX8_init_13 : decode cX8_init 13 = .ok (.aload_n 0, 1) := by decide +kernel
theorem dX8_init_14 : decode cX8_init 14 = .ok (.bipush 12, 2) := by decide +kernel
theorem dX8_init_16 : decode cX8_init 16 = .ok (.anewarray 17, 3) := by decide +kernel
theorem dX8_init_19 : decode cX8_init 19 = .ok (.putfield 19, 3) := by decide +kernel
theorem dX8_init_22 : decode cX8_init 22 = .ok (.aload_n 0, 1) := by decide +kernel
theorem dX8_init_23 : decode cX8_init 23 = .ok (.bipush 26, 2) := by decide +kernel
theorem dX8_init_25 : decode cX8_init 25 = .ok (.newarray .int, 2) := by decide +kernel
theorem dX8_init_27 : decode cX8_init 27 = .ok (.putfield 23, 3) := by decide +kernel
theorem dX8_init_30 : decode cX8_init 30 = .ok (.aload_n 0, 1) := by decide +kernel
theorem dX8_init_31 : decode cX8_init 31 = .ok (.iconst 3, 1) := by decide +kernel
theorem dX8_init_32 : decode cX8_init 32 = .ok (.newarray .int, 2) := by decide +kernel
theorem dX8_init_34 : decode cX8_init 34 = .ok (.putfield 27, 3) := by decide +kernel
theorem dX8_init_37 : decode cX8_init 37 = .ok (.aload_n 0, 1) := by decide +kernel
theorem dX8_init_38 : decode cX8_init 38 = .ok (.bipush 8, 2) := by decide +kernel
theorem dX8_init_4 : decode cX8_init 4 = .ok (.aload_n 0, 1) := by decide +kernel
theorem dX8_init_40 : decode cX8_init 40 = .ok (.newarray .int, 2) := by decide +kernel
theorem dX8_init_42 : decode cX8_init 42 = .ok (.putfield 30, 3) := by decide +kernel
theorem dX8_init_45 : decode cX8_init 45 = .ok (.iconst 0, 1) := by decide +kernel
theorem dX8_init_46 : decode cX8_init 46 = .ok (.istore_n 1, 1) := by decide +kernel
theorem dX8_init_47 : decode cX8_init 47 = .ok (.iload_n 1, 1) := by decide +kernel
theorem dX8_init_48 : decode cX8_init 48 = .ok (.bipush 26, 2) := by decide +kernel
theorem dX8_init_5 : decode cX8_init 5 = .ok (.bipush 8, 2) := by decide +kernel
theorem dX8_init_50 : decode cX8_init 50 = .ok (.if_icmp .ge 21, 3) := by decide +kernel
theorem dX8_init_53 : decode cX8_init 53 = .ok (.aload_n 0, 1) := by decide +kernel
theorem dX8_init_54 : decode cX8_init 54 = .ok (.getfield 23, 3) := by decide +kernel
theorem dX8_init_57 : decode cX8_init 57 = .ok (.iload_n 1, 1) := by decide +kernel
theorem dX8_init_58 : decode cX8_init 58 = .ok (.iload_n 1, 1) := by decide +kernel
theorem dX8_init_59 : decode cX8_init 59 = .ok (.bipush 9, 2) := by decide +kernel
theorem dX8_init_61 : decode cX8_init 61 = .ok (.irem, 1) := by decide +kernel
theorem dX8_init_62 : decode cX8_init 62 = .ok (.iconst 1, 1) := by decide +kernel
theorem dX8_init_63 : decode cX8_init 63 = .ok (.iadd, 1) := by decide +kernel
theorem dX8_init_64 : decode cX8_init 64 = .ok (.iastore, 1) := by decide +kernel
theorem dX8_init_65 : decode cX8_init 65 = .ok (.iinc 1 1, 3) := by decide +kernel
theorem dX8_init_68 : decode cX8_init 68 = .ok (.goto (-21), 3) := by decide +kernel
theorem dX8_init_7 : decode cX8_init 7 = .ok (.anewarray 9, 3) := by decide +kernel
theorem dX8_init_71 : decode cX8_init 71 = .ok (.aload_n 0, 1) := by decide +kernel
theorem dX8_init_72 : decode cX8_init 72 = .ok (.getfield 27, 3) := by decide +kernel
theorem dX8_init_75 : decode cX8_init 75 = .ok (.bipush 10, 2) := by decide +kernel
theorem dX8_init_77 : decode cX8_init 77 = .ok (.invokestatic 33, 3) := by decide +kernel
theorem dX8_init_80 : decode cX8_init 80 = .ok (.aload_n 0, 1) := by decide +kernel
theorem dX8_init_81 : decode cX8_init 81 = .ok (.getfield 30, 3) := by decide +kernel
theorem dX8_init_84 : decode cX8_init 84 = .ok (.iconst 1, 1) := by decide +kernel
theorem dX8_init_85 : decode cX8_init 85 = .ok (.invokestatic 33, 3) := by decide +kernel
theorem dX8_init_88 : decode cX8_init 88 = .ok (.return_, 1) := by decide +kernel
set_option maxRecDepth 20000 in
theorem ggX8_init_J7_fill_53178 : GoodIn wsX8_init wsJ7_fill_53178 := goodIn_r _ [15] (by decide +kernel) (by decide +kernel)
set_option maxRecDepth 20000 in
theorem gX8_init_J7_fill_53178 : GoodIn wsX8_init (va_wsS RX8 33 yJ7_fill_53178 wsJ7_fill_53178) := goodIn_app (goodIn_of _ (by decide +kernel)) ggX8_init_J7_fill_53178
set_option maxHeartbeats 4000000 in
set_option maxRecDepth 100000 in
theorem c_X8_init (l : Launch) (D : va_G) (cT : Nat → ClassId) (h0 : Nat) (sz : Nat)  : Met l yX8_init wsX8_init ({ frames := 11, cells := 5, slots := 57, locals := 340 }) (va_Pc [.ref h0] (PW D cT [(h0, .inr (8, [.null, .int 0, .null, .int 0, .null, .null, .null]))] sz)) (va_Qv (fun _ : Unit => True) (fun (_ : Unit) (t : State) => ∃ (a_puppets : Nat), ∃ (a_shots : Nat), ∃ (a_sounds : Nat), ∃ (a_rates : Nat), ∃ (a_dresses : Nat), ∃ (fso : Nat → Int32), ∃ (fra : Nat → Int32), ∃ (fdr : Nat → Int32), (∀ k, k < 26 → fso k = nI (k % 9 + 1)) ∧ (∀ k, k < 3 → fra k = 10) ∧ (∀ k, k < 8 → fdr k = 1) ∧ va_P D vwCl [(h0, .inr (8, [.ref a_puppets, .int 0, .ref a_shots, .int 0, .ref a_sounds, .ref a_rates, .ref a_dresses])), (a_puppets, .inl (cT 4, 8, .inr (.inr (.inr (.inr (fun _ => none)))))), (a_shots, .inl (cT 5, 12, .inr (.inr (.inr (.inr (fun _ => none)))))), (a_sounds, .inl (cT 0, 26, .inl fso)), (a_rates, .inl (cT 0, 3, .inl fra)), (a_dresses, .inl (cT 0, 8, .inl fdr))] t.heap ∧ va_D (va_A [(h0, .inr (8, [.null, .int 0, .null, .int 0, .null, .null, .null]))] sz) [(h0, .inr (8, [.ref a_puppets, .int 0, .ref a_shots, .int 0, .ref a_sounds, .ref a_rates, .ref a_dresses])), (a_puppets, .inl (cT 4, 8, .inr (.inr (.inr (.inr (fun _ => none)))))), (a_shots, .inl (cT 5, 12, .inr (.inr (.inr (.inr (fun _ => none)))))), (a_sounds, .inl (cT 0, 26, .inl fso)), (a_rates, .inl (cT 0, 3, .inl fra)), (a_dresses, .inl (cT 0, 8, .inl fdr))]) (va_A [(h0, .inr (8, [.null, .int 0, .null, .int 0, .null, .null, .null]))] sz)) 5 57 (va_A [(h0, .inr (8, [.null, .int 0, .null, .int 0, .null, .null, .null]))] sz) := by
  refine Met.ofW (cc := cX8_init) (maxL := 2) (ret := none) (by decide) rfl ?_
  intro p e s m args below meth c s₁ B hml hv
  obtain ⟨rfl, hsz, hP, hK, hD0, hG⟩ := hv
  have hx := B.exec
  have hb := B.bytes
  have hr := B.returns
  have hts := atoms_spec (ws := wsX8_init) B.pre
  have hown : s.vm.findClass RX8 = some m.cls := findClass_of_methodNamed B.named
  have hlocks := B.notSynchronized
  have hin : meth.name = "<init>" := (name_of_methodNamed B.named B.method).1
  subst hsz
  have hD := hD0.self (sz := s.heap.size)
  generalize hAe : va_A [(h0, .inr (8, [.null, .int 0, .null, .int 0, .null, .null, .null]))] s.heap.size = A at hD ⊢
  have hA : ∀ q : Nat, s.heap.size ≤ q → A q := fun q h => by rw [← hAe]; exact Or.inr h
  have hS : va_S A s.heap s.heap [] := va_S.rf
  have hP : va_P D vwCl [(h0, .inr (8, [.null, .int 0, .null, .int 0, .null, .null, .null]))] s.heap := hP
  have hl := lv_entry ([.ref h0]) (n := 2) (Nat.le_of_ble_eq_true rfl)
  rw [lg_entry_eq]
  generalize (lg_sl ([.ref h0]) ++ List.replicate (2 - (lg_sl ([.ref h0])).length) Slot.unset).toArray = ls at hl ⊢
  have hl : lv_has ls 2 [(0, .ref h0)] := hl
  refine lv_aload_n hx hb dX8_init_0 rfl (lv_at hl 0 rfl) ?_
  refine W.objInit hx hb hown (hts (.methodLink RX8 3 objectInit) (List.mem_of_getElem? (i := 1) (by decide +kernel))) (hts (.instanceMethod objectInit) (List.mem_of_getElem? (i := 2) (by decide +kernel))) (hts _ (List.mem_of_getElem? (i := 3) rfl)) rfl (by rw [hml]; exact hl.1) rfl dX8_init_1 (Nat.le_of_ble_eq_true rfl) (Nat.le_of_ble_eq_true rfl) ?_
  refine W.eq (g2 := F0 m 4 ls []) rfl ?_
  refine lv_aload_n hx hb dX8_init_4 rfl (lv_at hl 0 rfl) ?_
  refine lv_bipush (v := 8) hx hb dX8_init_5 (by decide) ?_
  refine va_newq (C := "PuppetFilm$Puppet") (n := 8) (N' := 8) hx hb hown (hts (.classLink RX8 9 RX5) (List.mem_of_getElem? (i := 4) (by decide +kernel))) hG.2.2.2.2.1 hK hP hD hS hA (by decide) (by decide) (Nat.le_of_ble_eq_true rfl) (Nat.le_of_ble_eq_true rfl) (Nat.le_of_ble_eq_true rfl) dX8_init_7 (fun q_1 cA9 H hK hP hD hS => ?_)
  obtain rfl := ty_new hK 4 rfl
  have hK := ty_cut hK
  have hP : va_P D vwCl [(h0, .inr (8, [.null, .int 0, .null, .int 0, .null, .null, .null])), (q_1, .inl (cT 4, 8, .inr (.inr (.inr (.inr (fun _ => none))))))] _ := hP
  have hD : va_D A [(h0, .inr (8, [.null, .int 0, .null, .int 0, .null, .null, .null])), (q_1, .inl (cT 4, 8, .inr (.inr (.inr (.inr (fun _ => none))))))] := hD
  refine W.widen (k := 1) (n := 8) (Nat.le_of_ble_eq_true rfl) (Nat.le_of_ble_eq_true rfl) ?_
  refine va_putF (D := D) (ci := 8) (v := .ref q_1) (ty := (.array (.object "PuppetFilm$Puppet"))) (C := RX8) (T := TX8) (N := 7) hx hb hts (fun _ h => List.mem_cons_of_mem _ (List.mem_append_right _ h)) tyX8 tyX8_ok nmX8 hown hK hP hD hS 0 rfl rfl 0 (by decide) (hts (.fieldLink RX8 11 "PuppetFilm$Studio" "puppets" "[LPuppetFilm$Puppet;") (List.mem_of_getElem? (i := 5) (by decide +kernel))) (fun _ h9 => h9) rfl hin rfl (by decide +kernel) rfl rfl (Nat.le_of_ble_eq_true rfl) dX8_init_10 (fun H locs hP hD hS => ?_)
  have hP : va_P D vwCl [(h0, .inr (8, [.ref q_1, .int 0, .null, .int 0, .null, .null, .null])), (q_1, .inl (cT 4, 8, .inr (.inr (.inr (.inr (fun _ => none))))))] _ := hP
  have hD : va_D A [(h0, .inr (8, [.ref q_1, .int 0, .null, .int 0, .null, .null, .null])), (q_1, .inl (cT 4, 8, .inr (.inr (.inr (.inr (fun _ => none))))))] := hD
  refine lv_aload_n hx hb dX8_init_13 rfl (lv_at hl 0 rfl) ?_
  refine lv_bipush (v := 12) hx hb dX8_init_14 (by decide) ?_
  refine va_newq (C := "PuppetFilm$Shot") (n := 12) (N' := 12) hx hb hown (hts (.classLink RX8 17 RX7) (List.mem_of_getElem? (i := 6) (by decide +kernel))) hG.2.2.2.2.2.1 hK hP hD hS hA (by decide) (by decide) (Nat.le_of_ble_eq_true rfl) (Nat.le_of_ble_eq_true rfl) (Nat.le_of_ble_eq_true rfl) dX8_init_16 (fun q_2 cA9 H hK hP hD hS => ?_)
  obtain rfl := ty_new hK 5 rfl
  have hK := ty_cut hK
  have hP : va_P D vwCl [(h0, .inr (8, [.ref q_1, .int 0, .null, .int 0, .null, .null, .null])), (q_1, .inl (cT 4, 8, .inr (.inr (.inr (.inr (fun _ => none)))))), (q_2, .inl (cT 5, 12, .inr (.inr (.inr (.inr (fun _ => none))))))] _ := hP
  have hD : va_D A [(h0, .inr (8, [.ref q_1, .int 0, .null, .int 0, .null, .null, .null])), (q_1, .inl (cT 4, 8, .inr (.inr (.inr (.inr (fun _ => none)))))), (q_2, .inl (cT 5, 12, .inr (.inr (.inr (.inr (fun _ => none))))))] := hD
  refine W.widen (k := 2) (n := 20) (Nat.le_of_ble_eq_true rfl) (Nat.le_of_ble_eq_true rfl) ?_
  refine va_putF (D := D) (ci := 8) (v := .ref q_2) (ty := (.array (.object "PuppetFilm$Shot"))) (C := RX8) (T := TX8) (N := 7) hx hb hts (fun _ h => List.mem_cons_of_mem _ (List.mem_append_right _ h)) tyX8 tyX8_ok nmX8 hown hK hP hD hS 0 rfl rfl 2 (by decide) (hts (.fieldLink RX8 19 "PuppetFilm$Studio" "shots" "[LPuppetFilm$Shot;") (List.mem_of_getElem? (i := 7) (by decide +kernel))) (fun _ h9 => h9) rfl hin rfl (by decide +kernel) rfl rfl (Nat.le_of_ble_eq_true rfl) dX8_init_19 (fun H locs hP hD hS => ?_)
  have hP : va_P D vwCl [(h0, .inr (8, [.ref q_1, .int 0, .ref q_2, .int 0, .null, .null, .null])), (q_1, .inl (cT 4, 8, .inr (.inr (.inr (.inr (fun _ => none)))))), (q_2, .inl (cT 5, 12, .inr (.inr (.inr (.inr (fun _ => none))))))] _ := hP
  have hD : va_D A [(h0, .inr (8, [.ref q_1, .int 0, .ref q_2, .int 0, .null, .null, .null])), (q_1, .inl (cT 4, 8, .inr (.inr (.inr (.inr (fun _ => none)))))), (q_2, .inl (cT 5, 12, .inr (.inr (.inr (.inr (fun _ => none))))))] := hD
  refine lv_aload_n hx hb dX8_init_22 rfl (lv_at hl 0 rfl) ?_
  refine lv_bipush (v := 26) hx hb dX8_init_23 (by decide) ?_
  refine va_newa (atype := .int) (ty := .int) (n := 26) (N' := 26) (a0 := (26, .inl (fun _ => 0))) hx hb (hts (.arrayClass .int) (List.mem_of_getElem? (i := 8) (by decide +kernel))) rfl hK hP hD hS hA (fun _ => rfl) (by decide) (by decide) (Nat.le_of_ble_eq_true rfl) (Nat.le_of_ble_eq_true rfl) (Nat.le_of_ble_eq_true rfl) dX8_init_25 (fun q_3 cA9 H hK hP hD hS => ?_)
  obtain rfl := ty_new hK 0 rfl
  have hK := ty_cut hK
  have hP : va_P D vwCl [(h0, .inr (8, [.ref q_1, .int 0, .ref q_2, .int 0, .null, .null, .null])), (q_1, .inl (cT 4, 8, .inr (.inr (.inr (.inr (fun _ => none)))))), (q_2, .inl (cT 5, 12, .inr (.inr (.inr (.inr (fun _ => none)))))), (q_3, .inl (cT 0, 26, .inl (fun _ => 0)))] _ := hP
  have hD : va_D A [(h0, .inr (8, [.ref q_1, .int 0, .ref q_2, .int 0, .null, .null, .null])), (q_1, .inl (cT 4, 8, .inr (.inr (.inr (.inr (fun _ => none)))))), (q_2, .inl (cT 5, 12, .inr (.inr (.inr (.inr (fun _ => none)))))), (q_3, .inl (cT 0, 26, .inl (fun _ => 0)))] := hD
  refine W.widen (k := 3) (n := 46) (Nat.le_of_ble_eq_true rfl) (Nat.le_of_ble_eq_true rfl) ?_
  refine va_putF (D := D) (ci := 8) (v := .ref q_3) (ty := (.array .int)) (C := RX8) (T := TX8) (N := 7) hx hb hts (fun _ h => List.mem_cons_of_mem _ (List.mem_append_right _ h)) tyX8 tyX8_ok nmX8 hown hK hP hD hS 0 rfl rfl 4 (by decide) (hts (.fieldLink RX8 23 "PuppetFilm$Studio" "sounds" "[I") (List.mem_of_getElem? (i := 9) (by decide +kernel))) (fun _ h9 => h9) rfl hin rfl (by decide +kernel) rfl rfl (Nat.le_of_ble_eq_true rfl) dX8_init_27 (fun H locs hP hD hS => ?_)
  have hP : va_P D vwCl [(h0, .inr (8, [.ref q_1, .int 0, .ref q_2, .int 0, .ref q_3, .null, .null])), (q_1, .inl (cT 4, 8, .inr (.inr (.inr (.inr (fun _ => none)))))), (q_2, .inl (cT 5, 12, .inr (.inr (.inr (.inr (fun _ => none)))))), (q_3, .inl (cT 0, 26, .inl (fun _ => 0)))] _ := hP
  have hD : va_D A [(h0, .inr (8, [.ref q_1, .int 0, .ref q_2, .int 0, .ref q_3, .null, .null])), (q_1, .inl (cT 4, 8, .inr (.inr (.inr (.inr (fun _ => none)))))), (q_2, .inl (cT 5, 12, .inr (.inr (.inr (.inr (fun _ => none)))))), (q_3, .inl (cT 0, 26, .inl (fun _ => 0)))] := hD
  refine lv_aload_n hx hb dX8_init_30 rfl (lv_at hl 0 rfl) ?_
  refine lv_iconst (v := 3) hx hb dX8_init_31 (by decide) ?_
  refine va_newa (atype := .int) (ty := .int) (n := 3) (N' := 3) (a0 := (3, .inl (fun _ => 0))) hx hb (hts (.arrayClass .int) (List.mem_of_getElem? (i := 8) (by decide +kernel))) rfl hK hP hD hS hA (fun _ => rfl) (by decide) (by decide) (Nat.le_of_ble_eq_true rfl) (Nat.le_of_ble_eq_true rfl) (Nat.le_of_ble_eq_true rfl) dX8_init_32 (fun q_4 cA9 H hK hP hD hS => ?_)
  obtain rfl := ty_new hK 0 rfl
  have hK := ty_cut hK
  have hP : va_P D vwCl [(h0, .inr (8, [.ref q_1, .int 0, .ref q_2, .int 0, .ref q_3, .null, .null])), (q_1, .inl (cT 4, 8, .inr (.inr (.inr (.inr (fun _ => none)))))), (q_2, .inl (cT 5, 12, .inr (.inr (.inr (.inr (fun _ => none)))))), (q_3, .inl (cT 0, 26, .inl (fun _ => 0))), (q_4, .inl (cT 0, 3, .inl (fun _ => 0)))] _ := hP
  have hD : va_D A [(h0, .inr (8, [.ref q_1, .int 0, .ref q_2, .int 0, .ref q_3, .null, .null])), (q_1, .inl (cT 4, 8, .inr (.inr (.inr (.inr (fun _ => none)))))), (q_2, .inl (cT 5, 12, .inr (.inr (.inr (.inr (fun _ => none)))))), (q_3, .inl (cT 0, 26, .inl (fun _ => 0))), (q_4, .inl (cT 0, 3, .inl (fun _ => 0)))] := hD
  refine W.widen (k := 4) (n := 49) (Nat.le_of_ble_eq_true rfl) (Nat.le_of_ble_eq_true rfl) ?_
  refine va_putF (D := D) (ci := 8) (v := .ref q_4) (ty := (.array .int)) (C := RX8) (T := TX8) (N := 7) hx hb hts (fun _ h => List.mem_cons_of_mem _ (List.mem_append_right _ h)) tyX8 tyX8_ok nmX8 hown hK hP hD hS 0 rfl rfl 5 (by decide) (hts (.fieldLink RX8 27 "PuppetFilm$Studio" "rates" "[I") (List.mem_of_getElem? (i := 10) (by decide +kernel))) (fun _ h9 => h9) rfl hin rfl (by decide +kernel) rfl rfl (Nat.le_of_ble_eq_true rfl) dX8_init_34 (fun H locs hP hD hS => ?_)
  have hP : va_P D vwCl [(h0, .inr (8, [.ref q_1, .int 0, .ref q_2, .int 0, .ref q_3, .ref q_4, .null])), (q_1, .inl (cT 4, 8, .inr (.inr (.inr (.inr (fun _ => none)))))), (q_2, .inl (cT 5, 12, .inr (.inr (.inr (.inr (fun _ => none)))))), (q_3, .inl (cT 0, 26, .inl (fun _ => 0))), (q_4, .inl (cT 0, 3, .inl (fun _ => 0)))] _ := hP
  have hD : va_D A [(h0, .inr (8, [.ref q_1, .int 0, .ref q_2, .int 0, .ref q_3, .ref q_4, .null])), (q_1, .inl (cT 4, 8, .inr (.inr (.inr (.inr (fun _ => none)))))), (q_2, .inl (cT 5, 12, .inr (.inr (.inr (.inr (fun _ => none)))))), (q_3, .inl (cT 0, 26, .inl (fun _ => 0))), (q_4, .inl (cT 0, 3, .inl (fun _ => 0)))] := hD
  refine lv_aload_n hx hb dX8_init_37 rfl (lv_at hl 0 rfl) ?_
  refine lv_bipush (v := 8) hx hb dX8_init_38 (by decide) ?_
  refine va_newa (atype := .int) (ty := .int) (n := 8) (N' := 8) (a0 := (8, .inl (fun _ => 0))) hx hb (hts (.arrayClass .int) (List.mem_of_getElem? (i := 8) (by decide +kernel))) rfl hK hP hD hS hA (fun _ => rfl) (by decide) (by decide) (Nat.le_of_ble_eq_true rfl) (Nat.le_of_ble_eq_true rfl) (Nat.le_of_ble_eq_true rfl) dX8_init_40 (fun q_5 cA9 H hK hP hD hS => ?_)
  obtain rfl := ty_new hK 0 rfl
  have hK := ty_cut hK
  have hP : va_P D vwCl [(h0, .inr (8, [.ref q_1, .int 0, .ref q_2, .int 0, .ref q_3, .ref q_4, .null])), (q_1, .inl (cT 4, 8, .inr (.inr (.inr (.inr (fun _ => none)))))), (q_2, .inl (cT 5, 12, .inr (.inr (.inr (.inr (fun _ => none)))))), (q_3, .inl (cT 0, 26, .inl (fun _ => 0))), (q_4, .inl (cT 0, 3, .inl (fun _ => 0))), (q_5, .inl (cT 0, 8, .inl (fun _ => 0)))] _ := hP
  have hD : va_D A [(h0, .inr (8, [.ref q_1, .int 0, .ref q_2, .int 0, .ref q_3, .ref q_4, .null])), (q_1, .inl (cT 4, 8, .inr (.inr (.inr (.inr (fun _ => none)))))), (q_2, .inl (cT 5, 12, .inr (.inr (.inr (.inr (fun _ => none)))))), (q_3, .inl (cT 0, 26, .inl (fun _ => 0))), (q_4, .inl (cT 0, 3, .inl (fun _ => 0))), (q_5, .inl (cT 0, 8, .inl (fun _ => 0)))] := hD
  refine W.widen (k := 5) (n := 57) (Nat.le_of_ble_eq_true rfl) (Nat.le_of_ble_eq_true rfl) ?_
  refine va_putF (D := D) (ci := 8) (v := .ref q_5) (ty := (.array .int)) (C := RX8) (T := TX8) (N := 7) hx hb hts (fun _ h => List.mem_cons_of_mem _ (List.mem_append_right _ h)) tyX8 tyX8_ok nmX8 hown hK hP hD hS 0 rfl rfl 6 (by decide) (hts (.fieldLink RX8 30 "PuppetFilm$Studio" "dresses" "[I") (List.mem_of_getElem? (i := 11) (by decide +kernel))) (fun _ h9 => h9) rfl hin rfl (by decide +kernel) rfl rfl (Nat.le_of_ble_eq_true rfl) dX8_init_42 (fun H locs hP hD hS => ?_)
  have hP : va_P D vwCl [(h0, .inr (8, [.ref q_1, .int 0, .ref q_2, .int 0, .ref q_3, .ref q_4, .ref q_5])), (q_1, .inl (cT 4, 8, .inr (.inr (.inr (.inr (fun _ => none)))))), (q_2, .inl (cT 5, 12, .inr (.inr (.inr (.inr (fun _ => none)))))), (q_3, .inl (cT 0, 26, .inl (fun _ => 0))), (q_4, .inl (cT 0, 3, .inl (fun _ => 0))), (q_5, .inl (cT 0, 8, .inl (fun _ => 0)))] _ := hP
  have hD : va_D A [(h0, .inr (8, [.ref q_1, .int 0, .ref q_2, .int 0, .ref q_3, .ref q_4, .ref q_5])), (q_1, .inl (cT 4, 8, .inr (.inr (.inr (.inr (fun _ => none)))))), (q_2, .inl (cT 5, 12, .inr (.inr (.inr (.inr (fun _ => none)))))), (q_3, .inl (cT 0, 26, .inl (fun _ => 0))), (q_4, .inl (cT 0, 3, .inl (fun _ => 0))), (q_5, .inl (cT 0, 8, .inl (fun _ => 0)))] := hD
  refine lv_iconst (v := 0) hx hb dX8_init_45 (by decide) ?_
  refine lv_istore_n (lv' := [(1, .int 0), (0, .ref h0)]) hx hb dX8_init_46 rfl hl (by decide) rfl (fun ls hl => ?_)
  refine lv_iload_n hx hb dX8_init_47 rfl (lv_at hl 0 rfl) ?_
  refine lv_bipush (v := 26) hx hb dX8_init_48 (by decide) ?_
  refine lv_icmp_ge (tgt := 71) hx hb dX8_init_50 (by decide) (fun c9 => absurd c9 (by decide)) (fun _ => ?_)
  refine lv_aload_n hx hb dX8_init_53 rfl (lv_at hl 1 rfl) ?_
  refine va_get (D := D) (ci := 8) (v := .ref q_3) (C := RX8) (T := TX8) (N := 7) hx hb hts (fun _ h => List.mem_cons_of_mem _ (List.mem_append_right _ h)) hown hK hP 0 rfl rfl 4 (by decide) (hts (.fieldLink RX8 23 "PuppetFilm$Studio" "sounds" "[I") (List.mem_of_getElem? (i := 9) (by decide +kernel))) (fun _ h9 => h9) rfl dX8_init_54 ?_
  refine lv_iload_n hx hb dX8_init_57 rfl (lv_at hl 0 rfl) ?_
  refine lv_iload_n hx hb dX8_init_58 rfl (lv_at hl 0 rfl) ?_
  refine lv_bipush (v := 9) hx hb dX8_init_59 (by decide) ?_
  refine lv_irem hx hb dX8_init_61 (by decide) ?_
  refine lv_topi (fun z_6 ez_6 => ?_)
  obtain rfl : z_6 = 0 := ez_6.trans (by decide)
  refine lv_iconst (v := 1) hx hb dX8_init_62 (by decide) ?_
  refine lv_iadd hx hb dX8_init_63 ?_
  refine lv_topi (fun z_7 ez_7 => ?_)
  obtain rfl : z_7 = 1 := ez_7.trans (by decide)
  refine va_iast hx hb hK hP hD hS 3 0 rfl rfl (by unfold vp_in; decide) dX8_init_64 (fun H locs hP hD hS => ?_)
  have hP : va_P D vwCl [(h0, .inr (8, [.ref q_1, .int 0, .ref q_2, .int 0, .ref q_3, .ref q_4, .ref q_5])), (q_1, .inl (cT 4, 8, .inr (.inr (.inr (.inr (fun _ => none)))))), (q_2, .inl (cT 5, 12, .inr (.inr (.inr (.inr (fun _ => none)))))), (q_3, .inl (cT 0, 26, .inl (upd (fun _ => 0) 0 1))), (q_4, .inl (cT 0, 3, .inl (fun _ => 0))), (q_5, .inl (cT 0, 8, .inl (fun _ => 0)))] _ := hP
  have hD : va_D A [(h0, .inr (8, [.ref q_1, .int 0, .ref q_2, .int 0, .ref q_3, .ref q_4, .ref q_5])), (q_1, .inl (cT 4, 8, .inr (.inr (.inr (.inr (fun _ => none)))))), (q_2, .inl (cT 5, 12, .inr (.inr (.inr (.inr (fun _ => none)))))), (q_3, .inl (cT 0, 26, .inl (upd (fun _ => 0) 0 1))), (q_4, .inl (cT 0, 3, .inl (fun _ => 0))), (q_5, .inl (cT 0, 8, .inl (fun _ => 0)))] := hD
  refine lv_iinc (v := 1) (lv' := [(1, .int 1), (0, .ref h0)]) hx hb dX8_init_65 hl (k := 0) rfl (by decide) (by decide) rfl (fun ls hl => ?_)
  refine lv_goto (tgt := 47) hx hb dX8_init_68 (by decide) ?_
  refine lv_iload_n hx hb dX8_init_47 rfl (lv_at hl 0 rfl) ?_
  refine lv_bipush (v := 26) hx hb dX8_init_48 (by decide) ?_
  refine lv_icmp_ge (tgt := 71) hx hb dX8_init_50 (by decide) (fun c9 => absurd c9 (by decide)) (fun _ => ?_)
  refine lv_aload_n hx hb dX8_init_53 rfl (lv_at hl 1 rfl) ?_
  refine va_get (D := D) (ci := 8) (v := .ref q_3) (C := RX8) (T := TX8) (N := 7) hx hb hts (fun _ h => List.mem_cons_of_mem _ (List.mem_append_right _ h)) hown hK hP 0 rfl rfl 4 (by decide) (hts (.fieldLink RX8 23 "PuppetFilm$Studio" "sounds" "[I") (List.mem_of_getElem? (i := 9) (by decide +kernel))) (fun _ h9 => h9) rfl dX8_init_54 ?_
  refine lv_iload_n hx hb dX8_init_57 rfl (lv_at hl 0 rfl) ?_
  refine lv_iload_n hx hb dX8_init_58 rfl (lv_at hl 0 rfl) ?_
  refine lv_bipush (v := 9) hx hb dX8_init_59 (by decide) ?_
  refine lv_irem hx hb dX8_init_61 (by decide) ?_
  refine lv_topi (fun z_8 ez_8 => ?_)
  obtain rfl : z_8 = 1 := ez_8.trans (by decide)
  refine lv_iconst (v := 1) hx hb dX8_init_62 (by decide) ?_
  refine lv_iadd hx hb dX8_init_63 ?_
  refine lv_topi (fun z_9 ez_9 => ?_)
  obtain rfl : z_9 = 2 := ez_9.trans (by decide)
  refine va_iast hx hb hK hP hD hS 3 0 rfl rfl (by unfold vp_in; decide) dX8_init_64 (fun H locs hP hD hS => ?_)
  have hP : va_P D vwCl [(h0, .inr (8, [.ref q_1, .int 0, .ref q_2, .int 0, .ref q_3, .ref q_4, .ref q_5])), (q_1, .inl (cT 4, 8, .inr (.inr (.inr (.inr (fun _ => none)))))), (q_2, .inl (cT 5, 12, .inr (.inr (.inr (.inr (fun _ => none)))))), (q_3, .inl (cT 0, 26, .inl (upd (upd (fun _ => 0) 0 1) 1 2))), (q_4, .inl (cT 0, 3, .inl (fun _ => 0))), (q_5, .inl (cT 0, 8, .inl (fun _ => 0)))] _ := hP
  have hD : va_D A [(h0, .inr (8, [.ref q_1, .int 0, .ref q_2, .int 0, .ref q_3, .ref q_4, .ref q_5])), (q_1, .inl (cT 4, 8, .inr (.inr (.inr (.inr (fun _ => none)))))), (q_2, .inl (cT 5, 12, .inr (.inr (.inr (.inr (fun _ => none)))))), (q_3, .inl (cT 0, 26, .inl (upd (upd (fun _ => 0) 0 1) 1 2))), (q_4, .inl (cT 0, 3, .inl (fun _ => 0))), (q_5, .inl (cT 0, 8, .inl (fun _ => 0)))] := hD
  refine lv_iinc (v := 2) (lv' := [(1, .int 2), (0, .ref h0)]) hx hb dX8_init_65 hl (k := 0) rfl (by decide) (by decide) rfl (fun ls hl => ?_)
  refine lv_goto (tgt := 47) hx hb dX8_init_68 (by decide) ?_
  refine lv_iload_n hx hb dX8_init_47 rfl (lv_at hl 0 rfl) ?_
  refine lv_bipush (v := 26) hx hb dX8_init_48 (by decide) ?_
  refine lv_icmp_ge (tgt := 71) hx hb dX8_init_50 (by decide) (fun c9 => absurd c9 (by decide)) (fun _ => ?_)
  refine lv_aload_n hx hb dX8_init_53 rfl (lv_at hl 1 rfl) ?_
  refine va_get (D := D) (ci := 8) (v := .ref q_3) (C := RX8) (T := TX8) (N := 7) hx hb hts (fun _ h => List.mem_cons_of_mem _ (List.mem_append_right _ h)) hown hK hP 0 rfl rfl 4 (by decide) (hts (.fieldLink RX8 23 "PuppetFilm$Studio" "sounds" "[I") (List.mem_of_getElem? (i := 9) (by decide +kernel))) (fun _ h9 => h9) rfl dX8_init_54 ?_
  refine lv_iload_n hx hb dX8_init_57 rfl (lv_at hl 0 rfl) ?_
  refine lv_iload_n hx hb dX8_init_58 rfl (lv_at hl 0 rfl) ?_
  refine lv_bipush (v := 9) hx hb dX8_init_59 (by decide) ?_
  refine lv_irem hx hb dX8_init_61 (by decide) ?_
  refine lv_topi (fun z_10 ez_10 => ?_)
  obtain rfl : z_10 = 2 := ez_10.trans (by decide)
  refine lv_iconst (v := 1) hx hb dX8_init_62 (by decide) ?_
  refine lv_iadd hx hb dX8_init_63 ?_
  refine lv_topi (fun z_11 ez_11 => ?_)
  obtain rfl : z_11 = 3 := ez_11.trans (by decide)
  refine va_iast hx hb hK hP hD hS 3 0 rfl rfl (by unfold vp_in; decide) dX8_init_64 (fun H locs hP hD hS => ?_)
  have hP : va_P D vwCl [(h0, .inr (8, [.ref q_1, .int 0, .ref q_2, .int 0, .ref q_3, .ref q_4, .ref q_5])), (q_1, .inl (cT 4, 8, .inr (.inr (.inr (.inr (fun _ => none)))))), (q_2, .inl (cT 5, 12, .inr (.inr (.inr (.inr (fun _ => none)))))), (q_3, .inl (cT 0, 26, .inl (upd (upd (upd (fun _ => 0) 0 1) 1 2) 2 3))), (q_4, .inl (cT 0, 3, .inl (fun _ => 0))), (q_5, .inl (cT 0, 8, .inl (fun _ => 0)))] _ := hP
  have hD : va_D A [(h0, .inr (8, [.ref q_1, .int 0, .ref q_2, .int 0, .ref q_3, .ref q_4, .ref q_5])), (q_1, .inl (cT 4, 8, .inr (.inr (.inr (.inr (fun _ => none)))))), (q_2, .inl (cT 5, 12, .inr (.inr (.inr (.inr (fun _ => none)))))), (q_3, .inl (cT 0, 26, .inl (upd (upd (upd (fun _ => 0) 0 1) 1 2) 2 3))), (q_4, .inl (cT 0, 3, .inl (fun _ => 0))), (q_5, .inl (cT 0, 8, .inl (fun _ => 0)))] := hD
  refine lv_iinc (v := 3) (lv' := [(1, .int 3), (0, .ref h0)]) hx hb dX8_init_65 hl (k := 0) rfl (by decide) (by decide) rfl (fun ls hl => ?_)
  refine lv_goto (tgt := 47) hx hb dX8_init_68 (by decide) ?_
  refine lv_iload_n hx hb dX8_init_47 rfl (lv_at hl 0 rfl) ?_
  refine lv_bipush (v := 26) hx hb dX8_init_48 (by decide) ?_
  refine lv_icmp_ge (tgt := 71) hx hb dX8_init_50 (by decide) (fun c9 => absurd c9 (by decide)) (fun _ => ?_)
  refine lv_aload_n hx hb dX8_init_53 rfl (lv_at hl 1 rfl) ?_
  refine va_get (D := D) (ci := 8) (v := .ref q_3) (C := RX8) (T := TX8) (N := 7) hx hb hts (fun _ h => List.mem_cons_of_mem _ (List.mem_append_right _ h)) hown hK hP 0 rfl rfl 4 (by decide) (hts (.fieldLink RX8 23 "PuppetFilm$Studio" "sounds" "[I") (List.mem_of_getElem? (i := 9) (by decide +kernel))) (fun _ h9 => h9) rfl dX8_init_54 ?_
  refine lv_iload_n hx hb dX8_init_57 rfl (lv_at hl 0 rfl) ?_
  refine lv_iload_n hx hb dX8_init_58 rfl (lv_at hl 0 rfl) ?_
  refine lv_bipush (v := 9) hx hb dX8_init_59 (by decide) ?_
  refine lv_irem hx hb dX8_init_61 (by decide) ?_
  refine lv_topi (fun z_12 ez_12 => ?_)
  obtain rfl : z_12 = 3 := ez_12.trans (by decide)
  refine lv_iconst (v := 1) hx hb dX8_init_62 (by decide) ?_
  refine lv_iadd hx hb dX8_init_63 ?_
  refine lv_topi (fun z_13 ez_13 => ?_)
  obtain rfl : z_13 = 4 := ez_13.trans (by decide)
  refine va_iast hx hb hK hP hD hS 3 0 rfl rfl (by unfold vp_in; decide) dX8_init_64 (fun H locs hP hD hS => ?_)
  have hP : va_P D vwCl [(h0, .inr (8, [.ref q_1, .int 0, .ref q_2, .int 0, .ref q_3, .ref q_4, .ref q_5])), (q_1, .inl (cT 4, 8, .inr (.inr (.inr (.inr (fun _ => none)))))), (q_2, .inl (cT 5, 12, .inr (.inr (.inr (.inr (fun _ => none)))))), (q_3, .inl (cT 0, 26, .inl (upd (upd (upd (upd (fun _ => 0) 0 1) 1 2) 2 3) 3 4))), (q_4, .inl (cT 0, 3, .inl (fun _ => 0))), (q_5, .inl (cT 0, 8, .inl (fun _ => 0)))] _ := hP
  have hD : va_D A [(h0, .inr (8, [.ref q_1, .int 0, .ref q_2, .int 0, .ref q_3, .ref q_4, .ref q_5])), (q_1, .inl (cT 4, 8, .inr (.inr (.inr (.inr (fun _ => none)))))), (q_2, .inl (cT 5, 12, .inr (.inr (.inr (.inr (fun _ => none)))))), (q_3, .inl (cT 0, 26, .inl (upd (upd (upd (upd (fun _ => 0) 0 1) 1 2) 2 3) 3 4))), (q_4, .inl (cT 0, 3, .inl (fun _ => 0))), (q_5, .inl (cT 0, 8, .inl (fun _ => 0)))] := hD
  refine lv_iinc (v := 4) (lv' := [(1, .int 4), (0, .ref h0)]) hx hb dX8_init_65 hl (k := 0) rfl (by decide) (by decide) rfl (fun ls hl => ?_)
  refine lv_goto (tgt := 47) hx hb dX8_init_68 (by decide) ?_
  refine lv_iload_n hx hb dX8_init_47 rfl (lv_at hl 0 rfl) ?_
  refine lv_bipush (v := 26) hx hb dX8_init_48 (by decide) ?_
  refine lv_icmp_ge (tgt := 71) hx hb dX8_init_50 (by decide) (fun c9 => absurd c9 (by decide)) (fun _ => ?_)
  refine lv_aload_n hx hb dX8_init_53 rfl (lv_at hl 1 rfl) ?_
  refine va_get (D := D) (ci := 8) (v := .ref q_3) (C := RX8) (T := TX8) (N := 7) hx hb hts (fun _ h => List.mem_cons_of_mem _ (List.mem_append_right _ h)) hown hK hP 0 rfl rfl 4 (by decide) (hts (.fieldLink RX8 23 "PuppetFilm$Studio" "sounds" "[I") (List.mem_of_getElem? (i := 9) (by decide +kernel))) (fun _ h9 => h9) rfl dX8_init_54 ?_
  refine lv_iload_n hx hb dX8_init_57 rfl (lv_at hl 0 rfl) ?_
  refine lv_iload_n hx hb dX8_init_58 rfl (lv_at hl 0 rfl) ?_
  refine lv_bipush (v := 9) hx hb dX8_init_59 (by decide) ?_
  refine lv_irem hx hb dX8_init_61 (by decide) ?_
  refine lv_topi (fun z_14 ez_14 => ?_)
  obtain rfl : z_14 = 4 := ez_14.trans (by decide)
  refine lv_iconst (v := 1) hx hb dX8_init_62 (by decide) ?_
  refine lv_iadd hx hb dX8_init_63 ?_
  refine lv_topi (fun z_15 ez_15 => ?_)
  obtain rfl : z_15 = 5 := ez_15.trans (by decide)
  refine va_iast hx hb hK hP hD hS 3 0 rfl rfl (by unfold vp_in; decide) dX8_init_64 (fun H locs hP hD hS => ?_)
  have hP : va_P D vwCl [(h0, .inr (8, [.ref q_1, .int 0, .ref q_2, .int 0, .ref q_3, .ref q_4, .ref q_5])), (q_1, .inl (cT 4, 8, .inr (.inr (.inr (.inr (fun _ => none)))))), (q_2, .inl (cT 5, 12, .inr (.inr (.inr (.inr (fun _ => none)))))), (q_3, .inl (cT 0, 26, .inl (upd (upd (upd (upd (upd (fun _ => 0) 0 1) 1 2) 2 3) 3 4) 4 5))), (q_4, .inl (cT 0, 3, .inl (fun _ => 0))), (q_5, .inl (cT 0, 8, .inl (fun _ => 0)))] _ := hP
  have hD : va_D A [(h0, .inr (8, [.ref q_1, .int 0, .ref q_2, .int 0, .ref q_3, .ref q_4, .ref q_5])), (q_1, .inl (cT 4, 8, .inr (.inr (.inr (.inr (fun _ => none)))))), (q_2, .inl (cT 5, 12, .inr (.inr (.inr (.inr (fun _ => none)))))), (q_3, .inl (cT 0, 26, .inl (upd (upd (upd (upd (upd (fun _ => 0) 0 1) 1 2) 2 3) 3 4) 4 5))), (q_4, .inl (cT 0, 3, .inl (fun _ => 0))), (q_5, .inl (cT 0, 8, .inl (fun _ => 0)))] := hD
  refine lv_iinc (v := 5) (lv' := [(1, .int 5), (0, .ref h0)]) hx hb dX8_init_65 hl (k := 0) rfl (by decide) (by decide) rfl (fun ls hl => ?_)
  refine lv_goto (tgt := 47) hx hb dX8_init_68 (by decide) ?_
  refine lv_iload_n hx hb dX8_init_47 rfl (lv_at hl 0 rfl) ?_
  refine lv_bipush (v := 26) hx hb dX8_init_48 (by decide) ?_
  refine lv_icmp_ge (tgt := 71) hx hb dX8_init_50 (by decide) (fun c9 => absurd c9 (by decide)) (fun _ => ?_)
  refine lv_aload_n hx hb dX8_init_53 rfl (lv_at hl 1 rfl) ?_
  refine va_get (D := D) (ci := 8) (v := .ref q_3) (C := RX8) (T := TX8) (N := 7) hx hb hts (fun _ h => List.mem_cons_of_mem _ (List.mem_append_right _ h)) hown hK hP 0 rfl rfl 4 (by decide) (hts (.fieldLink RX8 23 "PuppetFilm$Studio" "sounds" "[I") (List.mem_of_getElem? (i := 9) (by decide +kernel))) (fun _ h9 => h9) rfl dX8_init_54 ?_
  refine lv_iload_n hx hb dX8_init_57 rfl (lv_at hl 0 rfl) ?_
  refine lv_iload_n hx hb dX8_init_58 rfl (lv_at hl 0 rfl) ?_
  refine lv_bipush (v := 9) hx hb dX8_init_59 (by decide) ?_
  refine lv_irem hx hb dX8_init_61 (by decide) ?_
  refine lv_topi (fun z_16 ez_16 => ?_)
  obtain rfl : z_16 = 5 := ez_16.trans (by decide)
  refine lv_iconst (v := 1) hx hb dX8_init_62 (by decide) ?_
  refine lv_iadd hx hb dX8_init_63 ?_
  refine lv_topi (fun z_17 ez_17 => ?_)
  obtain rfl : z_17 = 6 := ez_17.trans (by decide)
  refine va_iast hx hb hK hP hD hS 3 0 rfl rfl (by unfold vp_in; decide) dX8_init_64 (fun H locs hP hD hS => ?_)
  have hP : va_P D vwCl [(h0, .inr (8, [.ref q_1, .int 0, .ref q_2, .int 0, .ref q_3, .ref q_4, .ref q_5])), (q_1, .inl (cT 4, 8, .inr (.inr (.inr (.inr (fun _ => none)))))), (q_2, .inl (cT 5, 12, .inr (.inr (.inr (.inr (fun _ => none)))))), (q_3, .inl (cT 0, 26, .inl (upd (upd (upd (upd (upd (upd (fun _ => 0) 0 1) 1 2) 2 3) 3 4) 4 5) 5 6))), (q_4, .inl (cT 0, 3, .inl (fun _ => 0))), (q_5, .inl (cT 0, 8, .inl (fun _ => 0)))] _ := hP
  have hD : va_D A [(h0, .inr (8, [.ref q_1, .int 0, .ref q_2, .int 0, .ref q_3, .ref q_4, .ref q_5])), (q_1, .inl (cT 4, 8, .inr (.inr (.inr (.inr (fun _ => none)))))), (q_2, .inl (cT 5, 12, .inr (.inr (.inr (.inr (fun _ => none)))))), (q_3, .inl (cT 0, 26, .inl (upd (upd (upd (upd (upd (upd (fun _ => 0) 0 1) 1 2) 2 3) 3 4) 4 5) 5 6))), (q_4, .inl (cT 0, 3, .inl (fun _ => 0))), (q_5, .inl (cT 0, 8, .inl (fun _ => 0)))] := hD
  refine lv_iinc (v := 6) (lv' := [(1, .int 6), (0, .ref h0)]) hx hb dX8_init_65 hl (k := 0) rfl (by decide) (by decide) rfl (fun ls hl => ?_)
  refine lv_goto (tgt := 47) hx hb dX8_init_68 (by decide) ?_
  refine lv_iload_n hx hb dX8_init_47 rfl (lv_at hl 0 rfl) ?_
  refine lv_bipush (v := 26) hx hb dX8_init_48 (by decide) ?_
  refine lv_icmp_ge (tgt := 71) hx hb dX8_init_50 (by decide) (fun c9 => absurd c9 (by decide)) (fun _ => ?_)
  refine lv_aload_n hx hb dX8_init_53 rfl (lv_at hl 1 rfl) ?_
  refine va_get (D := D) (ci := 8) (v := .ref q_3) (C := RX8) (T := TX8) (N := 7) hx hb hts (fun _ h => List.mem_cons_of_mem _ (List.mem_append_right _ h)) hown hK hP 0 rfl rfl 4 (by decide) (hts (.fieldLink RX8 23 "PuppetFilm$Studio" "sounds" "[I") (List.mem_of_getElem? (i := 9) (by decide +kernel))) (fun _ h9 => h9) rfl dX8_init_54 ?_
  refine lv_iload_n hx hb dX8_init_57 rfl (lv_at hl 0 rfl) ?_
  refine lv_iload_n hx hb dX8_init_58 rfl (lv_at hl 0 rfl) ?_
  refine lv_bipush (v := 9) hx hb dX8_init_59 (by decide) ?_
  refine lv_irem hx hb dX8_init_61 (by decide) ?_
  refine lv_topi (fun z_18 ez_18 => ?_)
  obtain rfl : z_18 = 6 := ez_18.trans (by decide)
  refine lv_iconst (v := 1) hx hb dX8_init_62 (by decide) ?_
  refine lv_iadd hx hb dX8_init_63 ?_
  refine lv_topi (fun z_19 ez_19 => ?_)
  obtain rfl : z_19 = 7 := ez_19.trans (by decide)
  refine va_iast hx hb hK hP hD hS 3 0 rfl rfl (by unfold vp_in; decide) dX8_init_64 (fun H locs hP hD hS => ?_)
  have hP : va_P D vwCl [(h0, .inr (8, [.ref q_1, .int 0, .ref q_2, .int 0, .ref q_3, .ref q_4, .ref q_5])), (q_1, .inl (cT 4, 8, .inr (.inr (.inr (.inr (fun _ => none)))))), (q_2, .inl (cT 5, 12, .inr (.inr (.inr (.inr (fun _ => none)))))), (q_3, .inl (cT 0, 26, .inl (upd (upd (upd (upd (upd (upd (upd (fun _ => 0) 0 1) 1 2) 2 3) 3 4) 4 5) 5 6) 6 7))), (q_4, .inl (cT 0, 3, .inl (fun _ => 0))), (q_5, .inl (cT 0, 8, .inl (fun _ => 0)))] _ := hP
  have hD : va_D A [(h0, .inr (8, [.ref q_1, .int 0, .ref q_2, .int 0, .ref q_3, .ref q_4, .ref q_5])), (q_1, .inl (cT 4, 8, .inr (.inr (.inr (.inr (fun _ => none)))))), (q_2, .inl (cT 5, 12, .inr (.inr (.inr (.inr (fun _ => none)))))), (q_3, .inl (cT 0, 26, .inl (upd (upd (upd (upd (upd (upd (upd (fun _ => 0) 0 1) 1 2) 2 3) 3 4) 4 5) 5 6) 6 7))), (q_4, .inl (cT 0, 3, .inl (fun _ => 0))), (q_5, .inl (cT 0, 8, .inl (fun _ => 0)))] := hD
  refine lv_iinc (v := 7) (lv' := [(1, .int 7), (0, .ref h0)]) hx hb dX8_init_65 hl (k := 0) rfl (by decide) (by decide) rfl (fun ls hl => ?_)
  refine lv_goto (tgt := 47) hx hb dX8_init_68 (by decide) ?_
  refine lv_iload_n hx hb dX8_init_47 rfl (lv_at hl 0 rfl) ?_
  refine lv_bipush (v := 26) hx hb dX8_init_48 (by decide) ?_
  refine lv_icmp_ge (tgt := 71) hx hb dX8_init_50 (by decide) (fun c9 => absurd c9 (by decide)) (fun _ => ?_)
  refine lv_aload_n hx hb dX8_init_53 rfl (lv_at hl 1 rfl) ?_
  refine va_get (D := D) (ci := 8) (v := .ref q_3) (C := RX8) (T := TX8) (N := 7) hx hb hts (fun _ h => List.mem_cons_of_mem _ (List.mem_append_right _ h)) hown hK hP 0 rfl rfl 4 (by decide) (hts (.fieldLink RX8 23 "PuppetFilm$Studio" "sounds" "[I") (List.mem_of_getElem? (i := 9) (by decide +kernel))) (fun _ h9 => h9) rfl dX8_init_54 ?_
  refine lv_iload_n hx hb dX8_init_57 rfl (lv_at hl 0 rfl) ?_
  refine lv_iload_n hx hb dX8_init_58 rfl (lv_at hl 0 rfl) ?_
  refine lv_bipush (v := 9) hx hb dX8_init_59 (by decide) ?_
  refine lv_irem hx hb dX8_init_61 (by decide) ?_
  refine lv_topi (fun z_20 ez_20 => ?_)
  obtain rfl : z_20 = 7 := ez_20.trans (by decide)
  refine lv_iconst (v := 1) hx hb dX8_init_62 (by decide) ?_
  refine lv_iadd hx hb dX8_init_63 ?_
  refine lv_topi (fun z_21 ez_21 => ?_)
  obtain rfl : z_21 = 8 := ez_21.trans (by decide)
  refine va_iast hx hb hK hP hD hS 3 0 rfl rfl (by unfold vp_in; decide) dX8_init_64 (fun H locs hP hD hS => ?_)
  have hP : va_P D vwCl [(h0, .inr (8, [.ref q_1, .int 0, .ref q_2, .int 0, .ref q_3, .ref q_4, .ref q_5])), (q_1, .inl (cT 4, 8, .inr (.inr (.inr (.inr (fun _ => none)))))), (q_2, .inl (cT 5, 12, .inr (.inr (.inr (.inr (fun _ => none)))))), (q_3, .inl (cT 0, 26, .inl (upd (upd (upd (upd (upd (upd (upd (upd (fun _ => 0) 0 1) 1 2) 2 3) 3 4) 4 5) 5 6) 6 7) 7 8))), (q_4, .inl (cT 0, 3, .inl (fun _ => 0))), (q_5, .inl (cT 0, 8, .inl (fun _ => 0)))] _ := hP
  have hD : va_D A [(h0, .inr (8, [.ref q_1, .int 0, .ref q_2, .int 0, .ref q_3, .ref q_4, .ref q_5])), (q_1, .inl (cT 4, 8, .inr (.inr (.inr (.inr (fun _ => none)))))), (q_2, .inl (cT 5, 12, .inr (.inr (.inr (.inr (fun _ => none)))))), (q_3, .inl (cT 0, 26, .inl (upd (upd (upd (upd (upd (upd (upd (upd (fun _ => 0) 0 1) 1 2) 2 3) 3 4) 4 5) 5 6) 6 7) 7 8))), (q_4, .inl (cT 0, 3, .inl (fun _ => 0))), (q_5, .inl (cT 0, 8, .inl (fun _ => 0)))] := hD
  refine lv_iinc (v := 8) (lv' := [(1, .int 8), (0, .ref h0)]) hx hb dX8_init_65 hl (k := 0) rfl (by decide) (by decide) rfl (fun ls hl => ?_)
  refine lv_goto (tgt := 47) hx hb dX8_init_68 (by decide) ?_
  refine lv_iload_n hx hb dX8_init_47 rfl (lv_at hl 0 rfl) ?_
  refine lv_bipush (v := 26) hx hb dX8_init_48 (by decide) ?_
  refine lv_icmp_ge (tgt := 71) hx hb dX8_init_50 (by decide) (fun c9 => absurd c9 (by decide)) (fun _ => ?_)
  refine lv_aload_n hx hb dX8_init_53 rfl (lv_at hl 1 rfl) ?_
  refine va_get (D := D) (ci := 8) (v := .ref q_3) (C := RX8) (T := TX8) (N := 7) hx hb hts (fun _ h => List.mem_cons_of_mem _ (List.mem_append_right _ h)) hown hK hP 0 rfl rfl 4 (by decide) (hts (.fieldLink RX8 23 "PuppetFilm$Studio" "sounds" "[I") (List.mem_of_getElem? (i := 9) (by decide +kernel))) (fun _ h9 => h9) rfl dX8_init_54 ?_
  refine lv_iload_n hx hb dX8_init_57 rfl (lv_at hl 0 rfl) ?_
  refine lv_iload_n hx hb dX8_init_58 rfl (lv_at hl 0 rfl) ?_
  refine lv_bipush (v := 9) hx hb dX8_init_59 (by decide) ?_
  refine lv_irem hx hb dX8_init_61 (by decide) ?_
  refine lv_topi (fun z_22 ez_22 => ?_)
  obtain rfl : z_22 = 8 := ez_22.trans (by decide)
  refine lv_iconst (v := 1) hx hb dX8_init_62 (by decide) ?_
  refine lv_iadd hx hb dX8_init_63 ?_
  refine lv_topi (fun z_23 ez_23 => ?_)
  obtain rfl : z_23 = 9 := ez_23.trans (by decide)
  refine va_iast hx hb hK hP hD hS 3 0 rfl rfl (by unfold vp_in; decide) dX8_init_64 (fun H locs hP hD hS => ?_)
  have hP : va_P D vwCl [(h0, .inr (8, [.ref q_1, .int 0, .ref q_2, .int 0, .ref q_3, .ref q_4, .ref q_5])), (q_1, .inl (cT 4, 8, .inr (.inr (.inr (.inr (fun _ => none)))))), (q_2, .inl (cT 5, 12, .inr (.inr (.inr (.inr (fun _ => none)))))), (q_3, .inl (cT 0, 26, .inl (upd (upd (upd (upd (upd (upd (upd (upd (upd (fun _ => 0) 0 1) 1 2) 2 3) 3 4) 4 5) 5 6) 6 7) 7 8) 8 9))), (q_4, .inl (cT 0, 3, .inl (fun _ => 0))), (q_5, .inl (cT 0, 8, .inl (fun _ => 0)))] _ := hP
  have hD : va_D A [(h0, .inr (8, [.ref q_1, .int 0, .ref q_2, .int 0, .ref q_3, .ref q_4, .ref q_5])), (q_1, .inl (cT 4, 8, .inr (.inr (.inr (.inr (fun _ => none)))))), (q_2, .inl (cT 5, 12, .inr (.inr (.inr (.inr (fun _ => none)))))), (q_3, .inl (cT 0, 26, .inl (upd (upd (upd (upd (upd (upd (upd (upd (upd (fun _ => 0) 0 1) 1 2) 2 3) 3 4) 4 5) 5 6) 6 7) 7 8) 8 9))), (q_4, .inl (cT 0, 3, .inl (fun _ => 0))), (q_5, .inl (cT 0, 8, .inl (fun _ => 0)))] := hD
  refine lv_iinc (v := 9) (lv' := [(1, .int 9), (0, .ref h0)]) hx hb dX8_init_65 hl (k := 0) rfl (by decide) (by decide) rfl (fun ls hl => ?_)
  refine lv_goto (tgt := 47) hx hb dX8_init_68 (by decide) ?_
  refine lv_iload_n hx hb dX8_init_47 rfl (lv_at hl 0 rfl) ?_
  refine lv_bipush (v := 26) hx hb dX8_init_48 (by decide) ?_
  refine lv_icmp_ge (tgt := 71) hx hb dX8_init_50 (by decide) (fun c9 => absurd c9 (by decide)) (fun _ => ?_)
  refine lv_aload_n hx hb dX8_init_53 rfl (lv_at hl 1 rfl) ?_
  refine va_get (D := D) (ci := 8) (v := .ref q_3) (C := RX8) (T := TX8) (N := 7) hx hb hts (fun _ h => List.mem_cons_of_mem _ (List.mem_append_right _ h)) hown hK hP 0 rfl rfl 4 (by decide) (hts (.fieldLink RX8 23 "PuppetFilm$Studio" "sounds" "[I") (List.mem_of_getElem? (i := 9) (by decide +kernel))) (fun _ h9 => h9) rfl dX8_init_54 ?_
  refine lv_iload_n hx hb dX8_init_57 rfl (lv_at hl 0 rfl) ?_
  refine lv_iload_n hx hb dX8_init_58 rfl (lv_at hl 0 rfl) ?_
  refine lv_bipush (v := 9) hx hb dX8_init_59 (by decide) ?_
  refine lv_irem hx hb dX8_init_61 (by decide) ?_
  refine lv_topi (fun z_24 ez_24 => ?_)
  obtain rfl : z_24 = 0 := ez_24.trans (by decide)
  refine lv_iconst (v := 1) hx hb dX8_init_62 (by decide) ?_
  refine lv_iadd hx hb dX8_init_63 ?_
  refine lv_topi (fun z_25 ez_25 => ?_)
  obtain rfl : z_25 = 1 := ez_25.trans (by decide)
  refine va_iast hx hb hK hP hD hS 3 0 rfl rfl (by unfold vp_in; decide) dX8_init_64 (fun H locs hP hD hS => ?_)
  have hP : va_P D vwCl [(h0, .inr (8, [.ref q_1, .int 0, .ref q_2, .int 0, .ref q_3, .ref q_4, .ref q_5])), (q_1, .inl (cT 4, 8, .inr (.inr (.inr (.inr (fun _ => none)))))), (q_2, .inl (cT 5, 12, .inr (.inr (.inr (.inr (fun _ => none)))))), (q_3, .inl (cT 0, 26, .inl (upd (upd (upd (upd (upd (upd (upd (upd (upd (upd (fun _ => 0) 0 1) 1 2) 2 3) 3 4) 4 5) 5 6) 6 7) 7 8) 8 9) 9 1))), (q_4, .inl (cT 0, 3, .inl (fun _ => 0))), (q_5, .inl (cT 0, 8, .inl (fun _ => 0)))] _ := hP
  have hD : va_D A [(h0, .inr (8, [.ref q_1, .int 0, .ref q_2, .int 0, .ref q_3, .ref q_4, .ref q_5])), (q_1, .inl (cT 4, 8, .inr (.inr (.inr (.inr (fun _ => none)))))), (q_2, .inl (cT 5, 12, .inr (.inr (.inr (.inr (fun _ => none)))))), (q_3, .inl (cT 0, 26, .inl (upd (upd (upd (upd (upd (upd (upd (upd (upd (upd (fun _ => 0) 0 1) 1 2) 2 3) 3 4) 4 5) 5 6) 6 7) 7 8) 8 9) 9 1))), (q_4, .inl (cT 0, 3, .inl (fun _ => 0))), (q_5, .inl (cT 0, 8, .inl (fun _ => 0)))] := hD
  refine lv_iinc (v := 10) (lv' := [(1, .int 10), (0, .ref h0)]) hx hb dX8_init_65 hl (k := 0) rfl (by decide) (by decide) rfl (fun ls hl => ?_)
  refine lv_goto (tgt := 47) hx hb dX8_init_68 (by decide) ?_
  refine lv_iload_n hx hb dX8_init_47 rfl (lv_at hl 0 rfl) ?_
  refine lv_bipush (v := 26) hx hb dX8_init_48 (by decide) ?_
  refine lv_icmp_ge (tgt := 71) hx hb dX8_init_50 (by decide) (fun c9 => absurd c9 (by decide)) (fun _ => ?_)
  refine lv_aload_n hx hb dX8_init_53 rfl (lv_at hl 1 rfl) ?_
  refine va_get (D := D) (ci := 8) (v := .ref q_3) (C := RX8) (T := TX8) (N := 7) hx hb hts (fun _ h => List.mem_cons_of_mem _ (List.mem_append_right _ h)) hown hK hP 0 rfl rfl 4 (by decide) (hts (.fieldLink RX8 23 "PuppetFilm$Studio" "sounds" "[I") (List.mem_of_getElem? (i := 9) (by decide +kernel))) (fun _ h9 => h9) rfl dX8_init_54 ?_
  refine lv_iload_n hx hb dX8_init_57 rfl (lv_at hl 0 rfl) ?_
  refine lv_iload_n hx hb dX8_init_58 rfl (lv_at hl 0 rfl) ?_
  refine lv_bipush (v := 9) hx hb dX8_init_59 (by decide) ?_
  refine lv_irem hx hb dX8_init_61 (by decide) ?_
  refine lv_topi (fun z_26 ez_26 => ?_)
  obtain rfl : z_26 = 1 := ez_26.trans (by decide)
  refine lv_iconst (v := 1) hx hb dX8_init_62 (by decide) ?_
  refine lv_iadd hx hb dX8_init_63 ?_
  refine lv_topi (fun z_27 ez_27 => ?_)
  obtain rfl : z_27 = 2 := ez_27.trans (by decide)
  refine va_iast hx hb hK hP hD hS 3 0 rfl rfl (by unfold vp_in; decide) dX8_init_64 (fun H locs hP hD hS => ?_)
  have hP : va_P D vwCl [(h0, .inr (8, [.ref q_1, .int 0, .ref q_2, .int 0, .ref q_3, .ref q_4, .ref q_5])), (q_1, .inl (cT 4, 8, .inr (.inr (.inr (.inr (fun _ => none)))))), (q_2, .inl (cT 5, 12, .inr (.inr (.inr (.inr (fun _ => none)))))), (q_3, .inl (cT 0, 26, .inl (upd (upd (upd (upd (upd (upd (upd (upd (upd (upd (upd (fun _ => 0) 0 1) 1 2) 2 3) 3 4) 4 5) 5 6) 6 7) 7 8) 8 9) 9 1) 10 2))), (q_4, .inl (cT 0, 3, .inl (fun _ => 0))), (q_5, .inl (cT 0, 8, .inl (fun _ => 0)))] _ := hP
  have hD : va_D A [(h0, .inr (8, [.ref q_1, .int 0, .ref q_2, .int 0, .ref q_3, .ref q_4, .ref q_5])), (q_1, .inl (cT 4, 8, .inr (.inr (.inr (.inr (fun _ => none)))))), (q_2, .inl (cT 5, 12, .inr (.inr (.inr (.inr (fun _ => none)))))), (q_3, .inl (cT 0, 26, .inl (upd (upd (upd (upd (upd (upd (upd (upd (upd (upd (upd (fun _ => 0) 0 1) 1 2) 2 3) 3 4) 4 5) 5 6) 6 7) 7 8) 8 9) 9 1) 10 2))), (q_4, .inl (cT 0, 3, .inl (fun _ => 0))), (q_5, .inl (cT 0, 8, .inl (fun _ => 0)))] := hD
  refine lv_iinc (v := 11) (lv' := [(1, .int 11), (0, .ref h0)]) hx hb dX8_init_65 hl (k := 0) rfl (by decide) (by decide) rfl (fun ls hl => ?_)
  refine lv_goto (tgt := 47) hx hb dX8_init_68 (by decide) ?_
  refine lv_iload_n hx hb dX8_init_47 rfl (lv_at hl 0 rfl) ?_
  refine lv_bipush (v := 26) hx hb dX8_init_48 (by decide) ?_
  refine lv_icmp_ge (tgt := 71) hx hb dX8_init_50 (by decide) (fun c9 => absurd c9 (by decide)) (fun _ => ?_)
  refine lv_aload_n hx hb dX8_init_53 rfl (lv_at hl 1 rfl) ?_
  refine va_get (D := D) (ci := 8) (v := .ref q_3) (C := RX8) (T := TX8) (N := 7) hx hb hts (fun _ h => List.mem_cons_of_mem _ (List.mem_append_right _ h)) hown hK hP 0 rfl rfl 4 (by decide) (hts (.fieldLink RX8 23 "PuppetFilm$Studio" "sounds" "[I") (List.mem_of_getElem? (i := 9) (by decide +kernel))) (fun _ h9 => h9) rfl dX8_init_54 ?_
  refine lv_iload_n hx hb dX8_init_57 rfl (lv_at hl 0 rfl) ?_
  refine lv_iload_n hx hb dX8_init_58 rfl (lv_at hl 0 rfl) ?_
  refine lv_bipush (v := 9) hx hb dX8_init_59 (by decide) ?_
  refine lv_irem hx hb dX8_init_61 (by decide) ?_
  refine lv_topi (fun z_28 ez_28 => ?_)
  obtain rfl : z_28 = 2 := ez_28.trans (by decide)
  refine lv_iconst (v := 1) hx hb dX8_init_62 (by decide) ?_
  refine lv_iadd hx hb dX8_init_63 ?_
  refine lv_topi (fun z_29 ez_29 => ?_)
  obtain rfl : z_29 = 3 := ez_29.trans (by decide)
  refine va_iast hx hb hK hP hD hS 3 0 rfl rfl (by unfold vp_in; decide) dX8_init_64 (fun H locs hP hD hS => ?_)
  have hP : va_P D vwCl [(h0, .inr (8, [.ref q_1, .int 0, .ref q_2, .int 0, .ref q_3, .ref q_4, .ref q_5])), (q_1, .inl (cT 4, 8, .inr (.inr (.inr (.inr (fun _ => none)))))), (q_2, .inl (cT 5, 12, .inr (.inr (.inr (.inr (fun _ => none)))))), (q_3, .inl (cT 0, 26, .inl (upd (upd (upd (upd (upd (upd (upd (upd (upd (upd (upd (upd (fun _ => 0) 0 1) 1 2) 2 3) 3 4) 4 5) 5 6) 6 7) 7 8) 8 9) 9 1) 10 2) 11 3))), (q_4, .inl (cT 0, 3, .inl (fun _ => 0))), (q_5, .inl (cT 0, 8, .inl (fun _ => 0)))] _ := hP
  have hD : va_D A [(h0, .inr (8, [.ref q_1, .int 0, .ref q_2, .int 0, .ref q_3, .ref q_4, .ref q_5])), (q_1, .inl (cT 4, 8, .inr (.inr (.inr (.inr (fun _ => none)))))), (q_2, .inl (cT 5, 12, .inr (.inr (.inr (.inr (fun _ => none)))))), (q_3, .inl (cT 0, 26, .inl (upd (upd (upd (upd (upd (upd (upd (upd (upd (upd (upd (upd (fun _ => 0) 0 1) 1 2) 2 3) 3 4) 4 5) 5 6) 6 7) 7 8) 8 9) 9 1) 10 2) 11 3))), (q_4, .inl (cT 0, 3, .inl (fun _ => 0))), (q_5, .inl (cT 0, 8, .inl (fun _ => 0)))] := hD
  refine lv_iinc (v := 12) (lv' := [(1, .int 12), (0, .ref h0)]) hx hb dX8_init_65 hl (k := 0) rfl (by decide) (by decide) rfl (fun ls hl => ?_)
  refine lv_goto (tgt := 47) hx hb dX8_init_68 (by decide) ?_
  refine lv_iload_n hx hb dX8_init_47 rfl (lv_at hl 0 rfl) ?_
  refine lv_bipush (v := 26) hx hb dX8_init_48 (by decide) ?_
  refine lv_icmp_ge (tgt := 71) hx hb dX8_init_50 (by decide) (fun c9 => absurd c9 (by decide)) (fun _ => ?_)
  refine lv_aload_n hx hb dX8_init_53 rfl (lv_at hl 1 rfl) ?_
  refine va_get (D := D) (ci := 8) (v := .ref q_3) (C := RX8) (T := TX8) (N := 7) hx hb hts (fun _ h => List.mem_cons_of_mem _ (List.mem_append_right _ h)) hown hK hP 0 rfl rfl 4 (by decide) (hts (.fieldLink RX8 23 "PuppetFilm$Studio" "sounds" "[I") (List.mem_of_getElem? (i := 9) (by decide +kernel))) (fun _ h9 => h9) rfl dX8_init_54 ?_
  refine lv_iload_n hx hb dX8_init_57 rfl (lv_at hl 0 rfl) ?_
  refine lv_iload_n hx hb dX8_init_58 rfl (lv_at hl 0 rfl) ?_
  refine lv_bipush (v := 9) hx hb dX8_init_59 (by decide) ?_
  refine lv_irem hx hb dX8_init_61 (by decide) ?_
  refine lv_topi (fun z_30 ez_30 => ?_)
  obtain rfl : z_30 = 3 := ez_30.trans (by decide)
  refine lv_iconst (v := 1) hx hb dX8_init_62 (by decide) ?_
  refine lv_iadd hx hb dX8_init_63 ?_
  refine lv_topi (fun z_31 ez_31 => ?_)
  obtain rfl : z_31 = 4 := ez_31.trans (by decide)
  refine va_iast hx hb hK hP hD hS 3 0 rfl rfl (by unfold vp_in; decide) dX8_init_64 (fun H locs hP hD hS => ?_)
  have hP : va_P D vwCl [(h0, .inr (8, [.ref q_1, .int 0, .ref q_2, .int 0, .ref q_3, .ref q_4, .ref q_5])), (q_1, .inl (cT 4, 8, .inr (.inr (.inr (.inr (fun _ => none)))))), (q_2, .inl (cT 5, 12, .inr (.inr (.inr (.inr (fun _ => none)))))), (q_3, .inl (cT 0, 26, .inl (upd (upd (upd (upd (upd (upd (upd (upd (upd (upd (upd (upd (upd (fun _ => 0) 0 1) 1 2) 2 3) 3 4) 4 5) 5 6) 6 7) 7 8) 8 9) 9 1) 10 2) 11 3) 12 4))), (q_4, .inl (cT 0, 3, .inl (fun _ => 0))), (q_5, .inl (cT 0, 8, .inl (fun _ => 0)))] _ := hP
  have hD : va_D A [(h0, .inr (8, [.ref q_1, .int 0, .ref q_2, .int 0, .ref q_3, .ref q_4, .ref q_5])), (q_1, .inl (cT 4, 8, .inr (.inr (.inr (.inr (fun _ => none)))))), (q_2, .inl (cT 5, 12, .inr (.inr (.inr (.inr (fun _ => none)))))), (q_3, .inl (cT 0, 26, .inl (upd (upd (upd (upd (upd (upd (upd (upd (upd (upd (upd (upd (upd (fun _ => 0) 0 1) 1 2) 2 3) 3 4) 4 5) 5 6) 6 7) 7 8) 8 9) 9 1) 10 2) 11 3) 12 4))), (q_4, .inl (cT 0, 3, .inl (fun _ => 0))), (q_5, .inl (cT 0, 8, .inl (fun _ => 0)))] := hD
  refine lv_iinc (v := 13) (lv' := [(1, .int 13), (0, .ref h0)]) hx hb dX8_init_65 hl (k := 0) rfl (by decide) (by decide) rfl (fun ls hl => ?_)
  refine lv_goto (tgt := 47) hx hb dX8_init_68 (by decide) ?_
  refine lv_iload_n hx hb dX8_init_47 rfl (lv_at hl 0 rfl) ?_
  refine lv_bipush (v := 26) hx hb dX8_init_48 (by decide) ?_
  refine lv_icmp_ge (tgt := 71) hx hb dX8_init_50 (by decide) (fun c9 => absurd c9 (by decide)) (fun _ => ?_)
  refine lv_aload_n hx hb dX8_init_53 rfl (lv_at hl 1 rfl) ?_
  refine va_get (D := D) (ci := 8) (v := .ref q_3) (C := RX8) (T := TX8) (N := 7) hx hb hts (fun _ h => List.mem_cons_of_mem _ (List.mem_append_right _ h)) hown hK hP 0 rfl rfl 4 (by decide) (hts (.fieldLink RX8 23 "PuppetFilm$Studio" "sounds" "[I") (List.mem_of_getElem? (i := 9) (by decide +kernel))) (fun _ h9 => h9) rfl dX8_init_54 ?_
  refine lv_iload_n hx hb dX8_init_57 rfl (lv_at hl 0 rfl) ?_
  refine lv_iload_n hx hb dX8_init_58 rfl (lv_at hl 0 rfl) ?_
  refine lv_bipush (v := 9) hx hb dX8_init_59 (by decide) ?_
  refine lv_irem hx hb dX8_init_61 (by decide) ?_
  refine lv_topi (fun z_32 ez_32 => ?_)
  obtain rfl : z_32 = 4 := ez_32.trans (by decide)
  refine lv_iconst (v := 1) hx hb dX8_init_62 (by decide) ?_
  refine lv_iadd hx hb dX8_init_63 ?_
  refine lv_topi (fun z_33 ez_33 => ?_)
  obtain rfl : z_33 = 5 := ez_33.trans (by decide)
  refine va_iast hx hb hK hP hD hS 3 0 rfl rfl (by unfold vp_in; decide) dX8_init_64 (fun H locs hP hD hS => ?_)
  have hP : va_P D vwCl [(h0, .inr (8, [.ref q_1, .int 0, .ref q_2, .int 0, .ref q_3, .ref q_4, .ref q_5])), (q_1, .inl (cT 4, 8, .inr (.inr (.inr (.inr (fun _ => none)))))), (q_2, .inl (cT 5, 12, .inr (.inr (.inr (.inr (fun _ => none)))))), (q_3, .inl (cT 0, 26, .inl (upd (upd (upd (upd (upd (upd (upd (upd (upd (upd (upd (upd (upd (upd (fun _ => 0) 0 1) 1 2) 2 3) 3 4) 4 5) 5 6) 6 7) 7 8) 8 9) 9 1) 10 2) 11 3) 12 4) 13 5))), (q_4, .inl (cT 0, 3, .inl (fun _ => 0))), (q_5, .inl (cT 0, 8, .inl (fun _ => 0)))] _ := hP
  have hD : va_D A [(h0, .inr (8, [.ref q_1, .int 0, .ref q_2, .int 0, .ref q_3, .ref q_4, .ref q_5])), (q_1, .inl (cT 4, 8, .inr (.inr (.inr (.inr (fun _ => none)))))), (q_2, .inl (cT 5, 12, .inr (.inr (.inr (.inr (fun _ => none)))))), (q_3, .inl (cT 0, 26, .inl (upd (upd (upd (upd (upd (upd (upd (upd (upd (upd (upd (upd (upd (upd (fun _ => 0) 0 1) 1 2) 2 3) 3 4) 4 5) 5 6) 6 7) 7 8) 8 9) 9 1) 10 2) 11 3) 12 4) 13 5))), (q_4, .inl (cT 0, 3, .inl (fun _ => 0))), (q_5, .inl (cT 0, 8, .inl (fun _ => 0)))] := hD
  refine lv_iinc (v := 14) (lv' := [(1, .int 14), (0, .ref h0)]) hx hb dX8_init_65 hl (k := 0) rfl (by decide) (by decide) rfl (fun ls hl => ?_)
  refine lv_goto (tgt := 47) hx hb dX8_init_68 (by decide) ?_
  refine lv_iload_n hx hb dX8_init_47 rfl (lv_at hl 0 rfl) ?_
  refine lv_bipush (v := 26) hx hb dX8_init_48 (by decide) ?_
  refine lv_icmp_ge (tgt := 71) hx hb dX8_init_50 (by decide) (fun c9 => absurd c9 (by decide)) (fun _ => ?_)
  refine lv_aload_n hx hb dX8_init_53 rfl (lv_at hl 1 rfl) ?_
  refine va_get (D := D) (ci := 8) (v := .ref q_3) (C := RX8) (T := TX8) (N := 7) hx hb hts (fun _ h => List.mem_cons_of_mem _ (List.mem_append_right _ h)) hown hK hP 0 rfl rfl 4 (by decide) (hts (.fieldLink RX8 23 "PuppetFilm$Studio" "sounds" "[I") (List.mem_of_getElem? (i := 9) (by decide +kernel))) (fun _ h9 => h9) rfl dX8_init_54 ?_
  refine lv_iload_n hx hb dX8_init_57 rfl (lv_at hl 0 rfl) ?_
  refine lv_iload_n hx hb dX8_init_58 rfl (lv_at hl 0 rfl) ?_
  refine lv_bipush (v := 9) hx hb dX8_init_59 (by decide) ?_
  refine lv_irem hx hb dX8_init_61 (by decide) ?_
  refine lv_topi (fun z_34 ez_34 => ?_)
  obtain rfl : z_34 = 5 := ez_34.trans (by decide)
  refine lv_iconst (v := 1) hx hb dX8_init_62 (by decide) ?_
  refine lv_iadd hx hb dX8_init_63 ?_
  refine lv_topi (fun z_35 ez_35 => ?_)
  obtain rfl : z_35 = 6 := ez_35.trans (by decide)
  refine va_iast hx hb hK hP hD hS 3 0 rfl rfl (by unfold vp_in; decide) dX8_init_64 (fun H locs hP hD hS => ?_)
  have hP : va_P D vwCl [(h0, .inr (8, [.ref q_1, .int 0, .ref q_2, .int 0, .ref q_3, .ref q_4, .ref q_5])), (q_1, .inl (cT 4, 8, .inr (.inr (.inr (.inr (fun _ => none)))))), (q_2, .inl (cT 5, 12, .inr (.inr (.inr (.inr (fun _ => none)))))), (q_3, .inl (cT 0, 26, .inl (upd (upd (upd (upd (upd (upd (upd (upd (upd (upd (upd (upd (upd (upd (upd (fun _ => 0) 0 1) 1 2) 2 3) 3 4) 4 5) 5 6) 6 7) 7 8) 8 9) 9 1) 10 2) 11 3) 12 4) 13 5) 14 6))), (q_4, .inl (cT 0, 3, .inl (fun _ => 0))), (q_5, .inl (cT 0, 8, .inl (fun _ => 0)))] _ := hP
  have hD : va_D A [(h0, .inr (8, [.ref q_1, .int 0, .ref q_2, .int 0, .ref q_3, .ref q_4, .ref q_5])), (q_1, .inl (cT 4, 8, .inr (.inr (.inr (.inr (fun _ => none)))))), (q_2, .inl (cT 5, 12, .inr (.inr (.inr (.inr (fun _ => none)))))), (q_3, .inl (cT 0, 26, .inl (upd (upd (upd (upd (upd (upd (upd (upd (upd (upd (upd (upd (upd (upd (upd (fun _ => 0) 0 1) 1 2) 2 3) 3 4) 4 5) 5 6) 6 7) 7 8) 8 9) 9 1) 10 2) 11 3) 12 4) 13 5) 14 6))), (q_4, .inl (cT 0, 3, .inl (fun _ => 0))), (q_5, .inl (cT 0, 8, .inl (fun _ => 0)))] := hD
  refine lv_iinc (v := 15) (lv' := [(1, .int 15), (0, .ref h0)]) hx hb dX8_init_65 hl (k := 0) rfl (by decide) (by decide) rfl (fun ls hl => ?_)
  refine lv_goto (tgt := 47) hx hb dX8_init_68 (by decide) ?_
  refine lv_iload_n hx hb dX8_init_47 rfl (lv_at hl 0 rfl) ?_
  refine lv_bipush (v := 26) hx hb dX8_init_48 (by decide) ?_
  refine lv_icmp_ge (tgt := 71) hx hb dX8_init_50 (by decide) (fun c9 => absurd c9 (by decide)) (fun _ => ?_)
  refine lv_aload_n hx hb dX8_init_53 rfl (lv_at hl 1 rfl) ?_
  refine va_get (D := D) (ci := 8) (v := .ref q_3) (C := RX8) (T := TX8) (N := 7) hx hb hts (fun _ h => List.mem_cons_of_mem _ (List.mem_append_right _ h)) hown hK hP 0 rfl rfl 4 (by decide) (hts (.fieldLink RX8 23 "PuppetFilm$Studio" "sounds" "[I") (List.mem_of_getElem? (i := 9) (by decide +kernel))) (fun _ h9 => h9) rfl dX8_init_54 ?_
  refine lv_iload_n hx hb dX8_init_57 rfl (lv_at hl 0 rfl) ?_
  refine lv_iload_n hx hb dX8_init_58 rfl (lv_at hl 0 rfl) ?_
  refine lv_bipush (v := 9) hx hb dX8_init_59 (by decide) ?_
  refine lv_irem hx hb dX8_init_61 (by decide) ?_
  refine lv_topi (fun z_36 ez_36 => ?_)
  obtain rfl : z_36 = 6 := ez_36.trans (by decide)
  refine lv_iconst (v := 1) hx hb dX8_init_62 (by decide) ?_
  refine lv_iadd hx hb dX8_init_63 ?_
  refine lv_topi (fun z_37 ez_37 => ?_)
  obtain rfl : z_37 = 7 := ez_37.trans (by decide)
  refine va_iast hx hb hK hP hD hS 3 0 rfl rfl (by unfold vp_in; decide) dX8_init_64 (fun H locs hP hD hS => ?_)
  have hP : va_P D vwCl [(h0, .inr (8, [.ref q_1, .int 0, .ref q_2, .int 0, .ref q_3, .ref q_4, .ref q_5])), (q_1, .inl (cT 4, 8, .inr (.inr (.inr (.inr (fun _ => none)))))), (q_2, .inl (cT 5, 12, .inr (.inr (.inr (.inr (fun _ => none)))))), (q_3, .inl (cT 0, 26, .inl (upd (upd (upd (upd (upd (upd (upd (upd (upd (upd (upd (upd (upd (upd (upd (upd (fun _ => 0) 0 1) 1 2) 2 3) 3 4) 4 5) 5 6) 6 7) 7 8) 8 9) 9 1) 10 2) 11 3) 12 4) 13 5) 14 6) 15 7))), (q_4, .inl (cT 0, 3, .inl (fun _ => 0))), (q_5, .inl (cT 0, 8, .inl (fun _ => 0)))] _ := hP
  have hD : va_D A [(h0, .inr (8, [.ref q_1, .int 0, .ref q_2, .int 0, .ref q_3, .ref q_4, .ref q_5])), (q_1, .inl (cT 4, 8, .inr (.inr (.inr (.inr (fun _ => none)))))), (q_2, .inl (cT 5, 12, .inr (.inr (.inr (.inr (fun _ => none)))))), (q_3, .inl (cT 0, 26, .inl (upd (upd (upd (upd (upd (upd (upd (upd (upd (upd (upd (upd (upd (upd (upd (upd (fun _ => 0) 0 1) 1 2) 2 3) 3 4) 4 5) 5 6) 6 7) 7 8) 8 9) 9 1) 10 2) 11 3) 12 4) 13 5) 14 6) 15 7))), (q_4, .inl (cT 0, 3, .inl (fun _ => 0))), (q_5, .inl (cT 0, 8, .inl (fun _ => 0)))] := hD
  refine lv_iinc (v := 16) (lv' := [(1, .int 16), (0, .ref h0)]) hx hb dX8_init_65 hl (k := 0) rfl (by decide) (by decide) rfl (fun ls hl => ?_)
  refine lv_goto (tgt := 47) hx hb dX8_init_68 (by decide) ?_
  refine lv_iload_n hx hb dX8_init_47 rfl (lv_at hl 0 rfl) ?_
  refine lv_bipush (v := 26) hx hb dX8_init_48 (by decide) ?_
  refine lv_icmp_ge (tgt := 71) hx hb dX8_init_50 (by decide) (fun c9 => absurd c9 (by decide)) (fun _ => ?_)
  refine lv_aload_n hx hb dX8_init_53 rfl (lv_at hl 1 rfl) ?_
  refine va_get (D := D) (ci := 8) (v := .ref q_3) (C := RX8) (T := TX8) (N := 7) hx hb hts (fun _ h => List.mem_cons_of_mem _ (List.mem_append_right _ h)) hown hK hP 0 rfl rfl 4 (by decide) (hts (.fieldLink RX8 23 "PuppetFilm$Studio" "sounds" "[I") (List.mem_of_getElem? (i := 9) (by decide +kernel))) (fun _ h9 => h9) rfl dX8_init_54 ?_
  refine lv_iload_n hx hb dX8_init_57 rfl (lv_at hl 0 rfl) ?_
  refine lv_iload_n hx hb dX8_init_58 rfl (lv_at hl 0 rfl) ?_
  refine lv_bipush (v := 9) hx hb dX8_init_59 (by decide) ?_
  refine lv_irem hx hb dX8_init_61 (by decide) ?_
  refine lv_topi (fun z_38 ez_38 => ?_)
  obtain rfl : z_38 = 7 := ez_38.trans (by decide)
  refine lv_iconst (v := 1) hx hb dX8_init_62 (by decide) ?_
  refine lv_iadd hx hb dX8_init_63 ?_
  refine lv_topi (fun z_39 ez_39 => ?_)
  obtain rfl : z_39 = 8 := ez_39.trans (by decide)
  refine va_iast hx hb hK hP hD hS 3 0 rfl rfl (by unfold vp_in; decide) dX8_init_64 (fun H locs hP hD hS => ?_)
  have hP : va_P D vwCl [(h0, .inr (8, [.ref q_1, .int 0, .ref q_2, .int 0, .ref q_3, .ref q_4, .ref q_5])), (q_1, .inl (cT 4, 8, .inr (.inr (.inr (.inr (fun _ => none)))))), (q_2, .inl (cT 5, 12, .inr (.inr (.inr (.inr (fun _ => none)))))), (q_3, .inl (cT 0, 26, .inl (upd (upd (upd (upd (upd (upd (upd (upd (upd (upd (upd (upd (upd (upd (upd (upd (upd (fun _ => 0) 0 1) 1 2) 2 3) 3 4) 4 5) 5 6) 6 7) 7 8) 8 9) 9 1) 10 2) 11 3) 12 4) 13 5) 14 6) 15 7) 16 8))), (q_4, .inl (cT 0, 3, .inl (fun _ => 0))), (q_5, .inl (cT 0, 8, .inl (fun _ => 0)))] _ := hP
  have hD : va_D A [(h0, .inr (8, [.ref q_1, .int 0, .ref q_2, .int 0, .ref q_3, .ref q_4, .ref q_5])), (q_1, .inl (cT 4, 8, .inr (.inr (.inr (.inr (fun _ => none)))))), (q_2, .inl (cT 5, 12, .inr (.inr (.inr (.inr (fun _ => none)))))), (q_3, .inl (cT 0, 26, .inl (upd (upd (upd (upd (upd (upd (upd (upd (upd (upd (upd (upd (upd (upd (upd (upd (upd (fun _ => 0) 0 1) 1 2) 2 3) 3 4) 4 5) 5 6) 6 7) 7 8) 8 9) 9 1) 10 2) 11 3) 12 4) 13 5) 14 6) 15 7) 16 8))), (q_4, .inl (cT 0, 3, .inl (fun _ => 0))), (q_5, .inl (cT 0, 8, .inl (fun _ => 0)))] := hD
  refine lv_iinc (v := 17) (lv' := [(1, .int 17), (0, .ref h0)]) hx hb dX8_init_65 hl (k := 0) rfl (by decide) (by decide) rfl (fun ls hl => ?_)
  refine lv_goto (tgt := 47) hx hb dX8_init_68 (by decide) ?_
  refine lv_iload_n hx hb dX8_init_47 rfl (lv_at hl 0 rfl) ?_
  refine lv_bipush (v := 26) hx hb dX8_init_48 (by decide) ?_
  refine lv_icmp_ge (tgt := 71) hx hb dX8_init_50 (by decide) (fun c9 => absurd c9 (by decide)) (fun _ => ?_)
  refine lv_aload_n hx hb dX8_init_53 rfl (lv_at hl 1 rfl) ?_
  refine va_get (D := D) (ci := 8) (v := .ref q_3) (C := RX8) (T := TX8) (N := 7) hx hb hts (fun _ h => List.mem_cons_of_mem _ (List.mem_append_right _ h)) hown hK hP 0 rfl rfl 4 (by decide) (hts (.fieldLink RX8 23 "PuppetFilm$Studio" "sounds" "[I") (List.mem_of_getElem? (i := 9) (by decide +kernel))) (fun _ h9 => h9) rfl dX8_init_54 ?_
  refine lv_iload_n hx hb dX8_init_57 rfl (lv_at hl 0 rfl) ?_
  refine lv_iload_n hx hb dX8_init_58 rfl (lv_at hl 0 rfl) ?_
  refine lv_bipush (v := 9) hx hb dX8_init_59 (by decide) ?_
  refine lv_irem hx hb dX8_init_61 (by decide) ?_
  refine lv_topi (fun z_40 ez_40 => ?_)
  obtain rfl : z_40 = 8 := ez_40.trans (by decide)
  refine lv_iconst (v := 1) hx hb dX8_init_62 (by decide) ?_
  refine lv_iadd hx hb dX8_init_63 ?_
  refine lv_topi (fun z_41 ez_41 => ?_)
  obtain rfl : z_41 = 9 := ez_41.trans (by decide)
  refine va_iast hx hb hK hP hD hS 3 0 rfl rfl (by unfold vp_in; decide) dX8_init_64 (fun H locs hP hD hS => ?_)
  have hP : va_P D vwCl [(h0, .inr (8, [.ref q_1, .int 0, .ref q_2, .int 0, .ref q_3, .ref q_4, .ref q_5])), (q_1, .inl (cT 4, 8, .inr (.inr (.inr (.inr (fun _ => none)))))), (q_2, .inl (cT 5, 12, .inr (.inr (.inr (.inr (fun _ => none)))))), (q_3, .inl (cT 0, 26, .inl (upd (upd (upd (upd (upd (upd (upd (upd (upd (upd (upd (upd (upd (upd (upd (upd (upd (upd (fun _ => 0) 0 1) 1 2) 2 3) 3 4) 4 5) 5 6) 6 7) 7 8) 8 9) 9 1) 10 2) 11 3) 12 4) 13 5) 14 6) 15 7) 16 8) 17 9))), (q_4, .inl (cT 0, 3, .inl (fun _ => 0))), (q_5, .inl (cT 0, 8, .inl (fun _ => 0)))] _ := hP
  have hD : va_D A [(h0, .inr (8, [.ref q_1, .int 0, .ref q_2, .int 0, .ref q_3, .ref q_4, .ref q_5])), (q_1, .inl (cT 4, 8, .inr (.inr (.inr (.inr (fun _ => none)))))), (q_2, .inl (cT 5, 12, .inr (.inr (.inr (.inr (fun _ => none)))))), (q_3, .inl (cT 0, 26, .inl (upd (upd (upd (upd (upd (upd (upd (upd (upd (upd (upd (upd (upd (upd (upd (upd (upd (upd (fun _ => 0) 0 1) 1 2) 2 3) 3 4) 4 5) 5 6) 6 7) 7 8) 8 9) 9 1) 10 2) 11 3) 12 4) 13 5) 14 6) 15 7) 16 8) 17 9))), (q_4, .inl (cT 0, 3, .inl (fun _ => 0))), (q_5, .inl (cT 0, 8, .inl (fun _ => 0)))] := hD
  refine lv_iinc (v := 18) (lv' := [(1, .int 18), (0, .ref h0)]) hx hb dX8_init_65 hl (k := 0) rfl (by decide) (by decide) rfl (fun ls hl => ?_)
  refine lv_goto (tgt := 47) hx hb dX8_init_68 (by decide) ?_
  refine lv_iload_n hx hb dX8_init_47 rfl (lv_at hl 0 rfl) ?_
  refine lv_bipush (v := 26) hx hb dX8_init_48 (by decide) ?_
  refine lv_icmp_ge (tgt := 71) hx hb dX8_init_50 (by decide) (fun c9 => absurd c9 (by decide)) (fun _ => ?_)
  refine lv_aload_n hx hb dX8_init_53 rfl (lv_at hl 1 rfl) ?_
  refine va_get (D := D) (ci := 8) (v := .ref q_3) (C := RX8) (T := TX8) (N := 7) hx hb hts (fun _ h => List.mem_cons_of_mem _ (List.mem_append_right _ h)) hown hK hP 0 rfl rfl 4 (by decide) (hts (.fieldLink RX8 23 "PuppetFilm$Studio" "sounds" "[I") (List.mem_of_getElem? (i := 9) (by decide +kernel))) (fun _ h9 => h9) rfl dX8_init_54 ?_
  refine lv_iload_n hx hb dX8_init_57 rfl (lv_at hl 0 rfl) ?_
  refine lv_iload_n hx hb dX8_init_58 rfl (lv_at hl 0 rfl) ?_
  refine lv_bipush (v := 9) hx hb dX8_init_59 (by decide) ?_
  refine lv_irem hx hb dX8_init_61 (by decide) ?_
  refine lv_topi (fun z_42 ez_42 => ?_)
  obtain rfl : z_42 = 0 := ez_42.trans (by decide)
  refine lv_iconst (v := 1) hx hb dX8_init_62 (by decide) ?_
  refine lv_iadd hx hb dX8_init_63 ?_
  refine lv_topi (fun z_43 ez_43 => ?_)
  obtain rfl : z_43 = 1 := ez_43.trans (by decide)
  refine va_iast hx hb hK hP hD hS 3 0 rfl rfl (by unfold vp_in; decide) dX8_init_64 (fun H locs hP hD hS => ?_)
  have hP : va_P D vwCl [(h0, .inr (8, [.ref q_1, .int 0, .ref q_2, .int 0, .ref q_3, .ref q_4, .ref q_5])), (q_1, .inl (cT 4, 8, .inr (.inr (.inr (.inr (fun _ => none)))))), (q_2, .inl (cT 5, 12, .inr (.inr (.inr (.inr (fun _ => none)))))), (q_3, .inl (cT 0, 26, .inl (upd (upd (upd (upd (upd (upd (upd (upd (upd (upd (upd (upd (upd (upd (upd (upd (upd (upd (upd (fun _ => 0) 0 1) 1 2) 2 3) 3 4) 4 5) 5 6) 6 7) 7 8) 8 9) 9 1) 10 2) 11 3) 12 4) 13 5) 14 6) 15 7) 16 8) 17 9) 18 1))), (q_4, .inl (cT 0, 3, .inl (fun _ => 0))), (q_5, .inl (cT 0, 8, .inl (fun _ => 0)))] _ := hP
  have hD : va_D A [(h0, .inr (8, [.ref q_1, .int 0, .ref q_2, .int 0, .ref q_3, .ref q_4, .ref q_5])), (q_1, .inl (cT 4, 8, .inr (.inr (.inr (.inr (fun _ => none)))))), (q_2, .inl (cT 5, 12, .inr (.inr (.inr (.inr (fun _ => none)))))), (q_3, .inl (cT 0, 26, .inl (upd (upd (upd (upd (upd (upd (upd (upd (upd (upd (upd (upd (upd (upd (upd (upd (upd (upd (upd (fun _ => 0) 0 1) 1 2) 2 3) 3 4) 4 5) 5 6) 6 7) 7 8) 8 9) 9 1) 10 2) 11 3) 12 4) 13 5) 14 6) 15 7) 16 8) 17 9) 18 1))), (q_4, .inl (cT 0, 3, .inl (fun _ => 0))), (q_5, .inl (cT 0, 8, .inl (fun _ => 0)))] := hD
  refine lv_iinc (v := 19) (lv' := [(1, .int 19), (0, .ref h0)]) hx hb dX8_init_65 hl (k := 0) rfl (by decide) (by decide) rfl (fun ls hl => ?_)
  refine lv_goto (tgt := 47) hx hb dX8_init_68 (by decide) ?_
  refine lv_iload_n hx hb dX8_init_47 rfl (lv_at hl 0 rfl) ?_
  refine lv_bipush (v := 26) hx hb dX8_init_48 (by decide) ?_
  refine lv_icmp_ge (tgt := 71) hx hb dX8_init_50 (by decide) (fun c9 => absurd c9 (by decide)) (fun _ => ?_)
  refine lv_aload_n hx hb dX8_init_53 rfl (lv_at hl 1 rfl) ?_
  refine va_get (D := D) (ci := 8) (v := .ref q_3) (C := RX8) (T := TX8) (N := 7) hx hb hts (fun _ h => List.mem_cons_of_mem _ (List.mem_append_right _ h)) hown hK hP 0 rfl rfl 4 (by decide) (hts (.fieldLink RX8 23 "PuppetFilm$Studio" "sounds" "[I") (List.mem_of_getElem? (i := 9) (by decide +kernel))) (fun _ h9 => h9) rfl dX8_init_54 ?_
  refine lv_iload_n hx hb dX8_init_57 rfl (lv_at hl 0 rfl) ?_
  refine lv_iload_n hx hb dX8_init_58 rfl (lv_at hl 0 rfl) ?_
  refine lv_bipush (v := 9) hx hb dX8_init_59 (by decide) ?_
  refine lv_irem hx hb dX8_init_61 (by decide) ?_
  refine lv_topi (fun z_44 ez_44 => ?_)
  obtain rfl : z_44 = 1 := ez_44.trans (by decide)
  refine lv_iconst (v := 1) hx hb dX8_init_62 (by decide) ?_
  refine lv_iadd hx hb dX8_init_63 ?_
  refine lv_topi (fun z_45 ez_45 => ?_)
  obtain rfl : z_45 = 2 := ez_45.trans (by decide)
  refine va_iast hx hb hK hP hD hS 3 0 rfl rfl (by unfold vp_in; decide) dX8_init_64 (fun H locs hP hD hS => ?_)
  have hP : va_P D vwCl [(h0, .inr (8, [.ref q_1, .int 0, .ref q_2, .int 0, .ref q_3, .ref q_4, .ref q_5])), (q_1, .inl (cT 4, 8, .inr (.inr (.inr (.inr (fun _ => none)))))), (q_2, .inl (cT 5, 12, .inr (.inr (.inr (.inr (fun _ => none)))))), (q_3, .inl (cT 0, 26, .inl (upd (upd (upd (upd (upd (upd (upd (upd (upd (upd (upd (upd (upd (upd (upd (upd (upd (upd (upd (upd (fun _ => 0) 0 1) 1 2) 2 3) 3 4) 4 5) 5 6) 6 7) 7 8) 8 9) 9 1) 10 2) 11 3) 12 4) 13 5) 14 6) 15 7) 16 8) 17 9) 18 1) 19 2))), (q_4, .inl (cT 0, 3, .inl (fun _ => 0))), (q_5, .inl (cT 0, 8, .inl (fun _ => 0)))] _ := hP
  have hD : va_D A [(h0, .inr (8, [.ref q_1, .int 0, .ref q_2, .int 0, .ref q_3, .ref q_4, .ref q_5])), (q_1, .inl (cT 4, 8, .inr (.inr (.inr (.inr (fun _ => none)))))), (q_2, .inl (cT 5, 12, .inr (.inr (.inr (.inr (fun _ => none)))))), (q_3, .inl (cT 0, 26, .inl (upd (upd (upd (upd (upd (upd (upd (upd (upd (upd (upd (upd (upd (upd (upd (upd (upd (upd (upd (upd (fun _ => 0) 0 1) 1 2) 2 3) 3 4) 4 5) 5 6) 6 7) 7 8) 8 9) 9 1) 10 2) 11 3) 12 4) 13 5) 14 6) 15 7) 16 8) 17 9) 18 1) 19 2))), (q_4, .inl (cT 0, 3, .inl (fun _ => 0))), (q_5, .inl (cT 0, 8, .inl (fun _ => 0)))] := hD
  refine lv_iinc (v := 20) (lv' := [(1, .int 20), (0, .ref h0)]) hx hb dX8_init_65 hl (k := 0) rfl (by decide) (by decide) rfl (fun ls hl => ?_)
  refine lv_goto (tgt := 47) hx hb dX8_init_68 (by decide) ?_
  refine lv_iload_n hx hb dX8_init_47 rfl (lv_at hl 0 rfl) ?_
  refine lv_bipush (v := 26) hx hb dX8_init_48 (by decide) ?_
  refine lv_icmp_ge (tgt := 71) hx hb dX8_init_50 (by decide) (fun c9 => absurd c9 (by decide)) (fun _ => ?_)
  refine lv_aload_n hx hb dX8_init_53 rfl (lv_at hl 1 rfl) ?_
  refine va_get (D := D) (ci := 8) (v := .ref q_3) (C := RX8) (T := TX8) (N := 7) hx hb hts (fun _ h => List.mem_cons_of_mem _ (List.mem_append_right _ h)) hown hK hP 0 rfl rfl 4 (by decide) (hts (.fieldLink RX8 23 "PuppetFilm$Studio" "sounds" "[I") (List.mem_of_getElem? (i := 9) (by decide +kernel))) (fun _ h9 => h9) rfl dX8_init_54 ?_
  refine lv_iload_n hx hb dX8_init_57 rfl (lv_at hl 0 rfl) ?_
  refine lv_iload_n hx hb dX8_init_58 rfl (lv_at hl 0 rfl) ?_
  refine lv_bipush (v := 9) hx hb dX8_init_59 (by decide) ?_
  refine lv_irem hx hb dX8_init_61 (by decide) ?_
  refine lv_topi (fun z_46 ez_46 => ?_)
  obtain rfl : z_46 = 2 := ez_46.trans (by decide)
  refine lv_iconst (v := 1) hx hb dX8_init_62 (by decide) ?_
  refine lv_iadd hx hb dX8_init_63 ?_
  refine lv_topi (fun z_47 ez_47 => ?_)
  obtain rfl : z_47 = 3 := ez_47.trans (by decide)
  refine va_iast hx hb hK hP hD hS 3 0 rfl rfl (by unfold vp_in; decide) dX8_init_64 (fun H locs hP hD hS => ?_)
  have hP : va_P D vwCl [(h0, .inr (8, [.ref q_1, .int 0, .ref q_2, .int 0, .ref q_3, .ref q_4, .ref q_5])), (q_1, .inl (cT 4, 8, .inr (.inr (.inr (.inr (fun _ => none)))))), (q_2, .inl (cT 5, 12, .inr (.inr (.inr (.inr (fun _ => none)))))), (q_3, .inl (cT 0, 26, .inl (upd (upd (upd (upd (upd (upd (upd (upd (upd (upd (upd (upd (upd (upd (upd (upd (upd (upd (upd (upd (upd (fun _ => 0) 0 1) 1 2) 2 3) 3 4) 4 5) 5 6) 6 7) 7 8) 8 9) 9 1) 10 2) 11 3) 12 4) 13 5) 14 6) 15 7) 16 8) 17 9) 18 1) 19 2) 20 3))), (q_4, .inl (cT 0, 3, .inl (fun _ => 0))), (q_5, .inl (cT 0, 8, .inl (fun _ => 0)))] _ := hP
  have hD : va_D A [(h0, .inr (8, [.ref q_1, .int 0, .ref q_2, .int 0, .ref q_3, .ref q_4, .ref q_5])), (q_1, .inl (cT 4, 8, .inr (.inr (.inr (.inr (fun _ => none)))))), (q_2, .inl (cT 5, 12, .inr (.inr (.inr (.inr (fun _ => none)))))), (q_3, .inl (cT 0, 26, .inl (upd (upd (upd (upd (upd (upd (upd (upd (upd (upd (upd (upd (upd (upd (upd (upd (upd (upd (upd (upd (upd (fun _ => 0) 0 1) 1 2) 2 3) 3 4) 4 5) 5 6) 6 7) 7 8) 8 9) 9 1) 10 2) 11 3) 12 4) 13 5) 14 6) 15 7) 16 8) 17 9) 18 1) 19 2) 20 3))), (q_4, .inl (cT 0, 3, .inl (fun _ => 0))), (q_5, .inl (cT 0, 8, .inl (fun _ => 0)))] := hD
  refine lv_iinc (v := 21) (lv' := [(1, .int 21), (0, .ref h0)]) hx hb dX8_init_65 hl (k := 0) rfl (by decide) (by decide) rfl (fun ls hl => ?_)
  refine lv_goto (tgt := 47) hx hb dX8_init_68 (by decide) ?_
  refine lv_iload_n hx hb dX8_init_47 rfl (lv_at hl 0 rfl) ?_
  refine lv_bipush (v := 26) hx hb dX8_init_48 (by decide) ?_
  refine lv_icmp_ge (tgt := 71) hx hb dX8_init_50 (by decide) (fun c9 => absurd c9 (by decide)) (fun _ => ?_)
  refine lv_aload_n hx hb dX8_init_53 rfl (lv_at hl 1 rfl) ?_
  refine va_get (D := D) (ci := 8) (v := .ref q_3) (C := RX8) (T := TX8) (N := 7) hx hb hts (fun _ h => List.mem_cons_of_mem _ (List.mem_append_right _ h)) hown hK hP 0 rfl rfl 4 (by decide) (hts (.fieldLink RX8 23 "PuppetFilm$Studio" "sounds" "[I") (List.mem_of_getElem? (i := 9) (by decide +kernel))) (fun _ h9 => h9) rfl dX8_init_54 ?_
  refine lv_iload_n hx hb dX8_init_57 rfl (lv_at hl 0 rfl) ?_
  refine lv_iload_n hx hb dX8_init_58 rfl (lv_at hl 0 rfl) ?_
  refine lv_bipush (v := 9) hx hb dX8_init_59 (by decide) ?_
  refine lv_irem hx hb dX8_init_61 (by decide) ?_
  refine lv_topi (fun z_48 ez_48 => ?_)
  obtain rfl : z_48 = 3 := ez_48.trans (by decide)
  refine lv_iconst (v := 1) hx hb dX8_init_62 (by decide) ?_
  refine lv_iadd hx hb dX8_init_63 ?_
  refine lv_topi (fun z_49 ez_49 => ?_)
  obtain rfl : z_49 = 4 := ez_49.trans (by decide)
  refine va_iast hx hb hK hP hD hS 3 0 rfl rfl (by unfold vp_in; decide) dX8_init_64 (fun H locs hP hD hS => ?_)
  have hP : va_P D vwCl [(h0, .inr (8, [.ref q_1, .int 0, .ref q_2, .int 0, .ref q_3, .ref q_4, .ref q_5])), (q_1, .inl (cT 4, 8, .inr (.inr (.inr (.inr (fun _ => none)))))), (q_2, .inl (cT 5, 12, .inr (.inr (.inr (.inr (fun _ => none)))))), (q_3, .inl (cT 0, 26, .inl (upd (upd (upd (upd (upd (upd (upd (upd (upd (upd (upd (upd (upd (upd (upd (upd (upd (upd (upd (upd (upd (upd (fun _ => 0) 0 1) 1 2) 2 3) 3 4) 4 5) 5 6) 6 7) 7 8) 8 9) 9 1) 10 2) 11 3) 12 4) 13 5) 14 6) 15 7) 16 8) 17 9) 18 1) 19 2) 20 3) 21 4))), (q_4, .inl (cT 0, 3, .inl (fun _ => 0))), (q_5, .inl (cT 0, 8, .inl (fun _ => 0)))] _ := hP
  have hD : va_D A [(h0, .inr (8, [.ref q_1, .int 0, .ref q_2, .int 0, .ref q_3, .ref q_4, .ref q_5])), (q_1, .inl (cT 4, 8, .inr (.inr (.inr (.inr (fun _ => none)))))), (q_2, .inl (cT 5, 12, .inr (.inr (.inr (.inr (fun _ => none)))))), (q_3, .inl (cT 0, 26, .inl (upd (upd (upd (upd (upd (upd (upd (upd (upd (upd (upd (upd (upd (upd (upd (upd (upd (upd (upd (upd (upd (upd (fun _ => 0) 0 1) 1 2) 2 3) 3 4) 4 5) 5 6) 6 7) 7 8) 8 9) 9 1) 10 2) 11 3) 12 4) 13 5) 14 6) 15 7) 16 8) 17 9) 18 1) 19 2) 20 3) 21 4))), (q_4, .inl (cT 0, 3, .inl (fun _ => 0))), (q_5, .inl (cT 0, 8, .inl (fun _ => 0)))] := hD
  refine lv_iinc (v := 22) (lv' := [(1, .int 22), (0, .ref h0)]) hx hb dX8_init_65 hl (k := 0) rfl (by decide) (by decide) rfl (fun ls hl => ?_)
  refine lv_goto (tgt := 47) hx hb dX8_init_68 (by decide) ?_
  refine lv_iload_n hx hb dX8_init_47 rfl (lv_at hl 0 rfl) ?_
  refine lv_bipush (v := 26) hx hb dX8_init_48 (by decide) ?_
  refine lv_icmp_ge (tgt := 71) hx hb dX8_init_50 (by decide) (fun c9 => absurd c9 (by decide)) (fun _ => ?_)
  refine lv_aload_n hx hb dX8_init_53 rfl (lv_at hl 1 rfl) ?_
  refine va_get (D := D) (ci := 8) (v := .ref q_3) (C := RX8) (T := TX8) (N := 7) hx hb hts (fun _ h => List.mem_cons_of_mem _ (List.mem_append_right _ h)) hown hK hP 0 rfl rfl 4 (by decide) (hts (.fieldLink RX8 23 "PuppetFilm$Studio" "sounds" "[I") (List.mem_of_getElem? (i := 9) (by decide +kernel))) (fun _ h9 => h9) rfl dX8_init_54 ?_
  refine lv_iload_n hx hb dX8_init_57 rfl (lv_at hl 0 rfl) ?_
  refine lv_iload_n hx hb dX8_init_58 rfl (lv_at hl 0 rfl) ?_
  refine lv_bipush (v := 9) hx hb dX8_init_59 (by decide) ?_
  refine lv_irem hx hb dX8_init_61 (by decide) ?_
  refine lv_topi (fun z_50 ez_50 => ?_)
  obtain rfl : z_50 = 4 := ez_50.trans (by decide)
  refine lv_iconst (v := 1) hx hb dX8_init_62 (by decide) ?_
  refine lv_iadd hx hb dX8_init_63 ?_
  refine lv_topi (fun z_51 ez_51 => ?_)
  obtain rfl : z_51 = 5 := ez_51.trans (by decide)
  refine va_iast hx hb hK hP hD hS 3 0 rfl rfl (by unfold vp_in; decide) dX8_init_64 (fun H locs hP hD hS => ?_)
  have hP : va_P D vwCl [(h0, .inr (8, [.ref q_1, .int 0, .ref q_2, .int 0, .ref q_3, .ref q_4, .ref q_5])), (q_1, .inl (cT 4, 8, .inr (.inr (.inr (.inr (fun _ => none)))))), (q_2, .inl (cT 5, 12, .inr (.inr (.inr (.inr (fun _ => none)))))), (q_3, .inl (cT 0, 26, .inl (upd (upd (upd (upd (upd (upd (upd (upd (upd (upd (upd (upd (upd (upd (upd (upd (upd (upd (upd (upd (upd (upd (upd (fun _ => 0) 0 1) 1 2) 2 3) 3 4) 4 5) 5 6) 6 7) 7 8) 8 9) 9 1) 10 2) 11 3) 12 4) 13 5) 14 6) 15 7) 16 8) 17 9) 18 1) 19 2) 20 3) 21 4) 22 5))), (q_4, .inl (cT 0, 3, .inl (fun _ => 0))), (q_5, .inl (cT 0, 8, .inl (fun _ => 0)))] _ := hP
  have hD : va_D A [(h0, .inr (8, [.ref q_1, .int 0, .ref q_2, .int 0, .ref q_3, .ref q_4, .ref q_5])), (q_1, .inl (cT 4, 8, .inr (.inr (.inr (.inr (fun _ => none)))))), (q_2, .inl (cT 5, 12, .inr (.inr (.inr (.inr (fun _ => none)))))), (q_3, .inl (cT 0, 26, .inl (upd (upd (upd (upd (upd (upd (upd (upd (upd (upd (upd (upd (upd (upd (upd (upd (upd (upd (upd (upd (upd (upd (upd (fun _ => 0) 0 1) 1 2) 2 3) 3 4) 4 5) 5 6) 6 7) 7 8) 8 9) 9 1) 10 2) 11 3) 12 4) 13 5) 14 6) 15 7) 16 8) 17 9) 18 1) 19 2) 20 3) 21 4) 22 5))), (q_4, .inl (cT 0, 3, .inl (fun _ => 0))), (q_5, .inl (cT 0, 8, .inl (fun _ => 0)))] := hD
  refine lv_iinc (v := 23) (lv' := [(1, .int 23), (0, .ref h0)]) hx hb dX8_init_65 hl (k := 0) rfl (by decide) (by decide) rfl (fun ls hl => ?_)
  refine lv_goto (tgt := 47) hx hb dX8_init_68 (by decide) ?_
  refine lv_iload_n hx hb dX8_init_47 rfl (lv_at hl 0 rfl) ?_
  refine lv_bipush (v := 26) hx hb dX8_init_48 (by decide) ?_
  refine lv_icmp_ge (tgt := 71) hx hb dX8_init_50 (by decide) (fun c9 => absurd c9 (by decide)) (fun _ => ?_)
  refine lv_aload_n hx hb dX8_init_53 rfl (lv_at hl 1 rfl) ?_
  refine va_get (D := D) (ci := 8) (v := .ref q_3) (C := RX8) (T := TX8) (N := 7) hx hb hts (fun _ h => List.mem_cons_of_mem _ (List.mem_append_right _ h)) hown hK hP 0 rfl rfl 4 (by decide) (hts (.fieldLink RX8 23 "PuppetFilm$Studio" "sounds" "[I") (List.mem_of_getElem? (i := 9) (by decide +kernel))) (fun _ h9 => h9) rfl dX8_init_54 ?_
  refine lv_iload_n hx hb dX8_init_57 rfl (lv_at hl 0 rfl) ?_
  refine lv_iload_n hx hb dX8_init_58 rfl (lv_at hl 0 rfl) ?_
  refine lv_bipush (v := 9) hx hb dX8_init_59 (by decide) ?_
  refine lv_irem hx hb dX8_init_61 (by decide) ?_
  refine lv_topi (fun z_52 ez_52 => ?_)
  obtain rfl : z_52 = 5 := ez_52.trans (by decide)
  refine lv_iconst (v := 1) hx hb dX8_init_62 (by decide) ?_
  refine lv_iadd hx hb dX8_init_63 ?_
  refine lv_topi (fun z_53 ez_53 => ?_)
  obtain rfl : z_53 = 6 := ez_53.trans (by decide)
  refine va_iast hx hb hK hP hD hS 3 0 rfl rfl (by unfold vp_in; decide) dX8_init_64 (fun H locs hP hD hS => ?_)
  have hP : va_P D vwCl [(h0, .inr (8, [.ref q_1, .int 0, .ref q_2, .int 0, .ref q_3, .ref q_4, .ref q_5])), (q_1, .inl (cT 4, 8, .inr (.inr (.inr (.inr (fun _ => none)))))), (q_2, .inl (cT 5, 12, .inr (.inr (.inr (.inr (fun _ => none)))))), (q_3, .inl (cT 0, 26, .inl (upd (upd (upd (upd (upd (upd (upd (upd (upd (upd (upd (upd (upd (upd (upd (upd (upd (upd (upd (upd (upd (upd (upd (upd (fun _ => 0) 0 1) 1 2) 2 3) 3 4) 4 5) 5 6) 6 7) 7 8) 8 9) 9 1) 10 2) 11 3) 12 4) 13 5) 14 6) 15 7) 16 8) 17 9) 18 1) 19 2) 20 3) 21 4) 22 5) 23 6))), (q_4, .inl (cT 0, 3, .inl (fun _ => 0))), (q_5, .inl (cT 0, 8, .inl (fun _ => 0)))] _ := hP
  have hD : va_D A [(h0, .inr (8, [.ref q_1, .int 0, .ref q_2, .int 0, .ref q_3, .ref q_4, .ref q_5])), (q_1, .inl (cT 4, 8, .inr (.inr (.inr (.inr (fun _ => none)))))), (q_2, .inl (cT 5, 12, .inr (.inr (.inr (.inr (fun _ => none)))))), (q_3, .inl (cT 0, 26, .inl (upd (upd (upd (upd (upd (upd (upd (upd (upd (upd (upd (upd (upd (upd (upd (upd (upd (upd (upd (upd (upd (upd (upd (upd (fun _ => 0) 0 1) 1 2) 2 3) 3 4) 4 5) 5 6) 6 7) 7 8) 8 9) 9 1) 10 2) 11 3) 12 4) 13 5) 14 6) 15 7) 16 8) 17 9) 18 1) 19 2) 20 3) 21 4) 22 5) 23 6))), (q_4, .inl (cT 0, 3, .inl (fun _ => 0))), (q_5, .inl (cT 0, 8, .inl (fun _ => 0)))] := hD
  refine lv_iinc (v := 24) (lv' := [(1, .int 24), (0, .ref h0)]) hx hb dX8_init_65 hl (k := 0) rfl (by decide) (by decide) rfl (fun ls hl => ?_)
  refine lv_goto (tgt := 47) hx hb dX8_init_68 (by decide) ?_
  refine lv_iload_n hx hb dX8_init_47 rfl (lv_at hl 0 rfl) ?_
  refine lv_bipush (v := 26) hx hb dX8_init_48 (by decide) ?_
  refine lv_icmp_ge (tgt := 71) hx hb dX8_init_50 (by decide) (fun c9 => absurd c9 (by decide)) (fun _ => ?_)
  refine lv_aload_n hx hb dX8_init_53 rfl (lv_at hl 1 rfl) ?_
  refine va_get (D := D) (ci := 8) (v := .ref q_3) (C := RX8) (T := TX8) (N := 7) hx hb hts (fun _ h => List.mem_cons_of_mem _ (List.mem_append_right _ h)) hown hK hP 0 rfl rfl 4 (by decide) (hts (.fieldLink RX8 23 "PuppetFilm$Studio" "sounds" "[I") (List.mem_of_getElem? (i := 9) (by decide +kernel))) (fun _ h9 => h9) rfl dX8_init_54 ?_
  refine lv_iload_n hx hb dX8_init_57 rfl (lv_at hl 0 rfl) ?_
  refine lv_iload_n hx hb dX8_init_58 rfl (lv_at hl 0 rfl) ?_
  refine lv_bipush (v := 9) hx hb dX8_init_59 (by decide) ?_
  refine lv_irem hx hb dX8_init_61 (by decide) ?_
  refine lv_topi (fun z_54 ez_54 => ?_)
  obtain rfl : z_54 = 6 := ez_54.trans (by decide)
  refine lv_iconst (v := 1) hx hb dX8_init_62 (by decide) ?_
  refine lv_iadd hx hb dX8_init_63 ?_
  refine lv_topi (fun z_55 ez_55 => ?_)
  obtain rfl : z_55 = 7 := ez_55.trans (by decide)
  refine va_iast hx hb hK hP hD hS 3 0 rfl rfl (by unfold vp_in; decide) dX8_init_64 (fun H locs hP hD hS => ?_)
  have hP : va_P D vwCl [(h0, .inr (8, [.ref q_1, .int 0, .ref q_2, .int 0, .ref q_3, .ref q_4, .ref q_5])), (q_1, .inl (cT 4, 8, .inr (.inr (.inr (.inr (fun _ => none)))))), (q_2, .inl (cT 5, 12, .inr (.inr (.inr (.inr (fun _ => none)))))), (q_3, .inl (cT 0, 26, .inl (upd (upd (upd (upd (upd (upd (upd (upd (upd (upd (upd (upd (upd (upd (upd (upd (upd (upd (upd (upd (upd (upd (upd (upd (upd (fun _ => 0) 0 1) 1 2) 2 3) 3 4) 4 5) 5 6) 6 7) 7 8) 8 9) 9 1) 10 2) 11 3) 12 4) 13 5) 14 6) 15 7) 16 8) 17 9) 18 1) 19 2) 20 3) 21 4) 22 5) 23 6) 24 7))), (q_4, .inl (cT 0, 3, .inl (fun _ => 0))), (q_5, .inl (cT 0, 8, .inl (fun _ => 0)))] _ := hP
  have hD : va_D A [(h0, .inr (8, [.ref q_1, .int 0, .ref q_2, .int 0, .ref q_3, .ref q_4, .ref q_5])), (q_1, .inl (cT 4, 8, .inr (.inr (.inr (.inr (fun _ => none)))))), (q_2, .inl (cT 5, 12, .inr (.inr (.inr (.inr (fun _ => none)))))), (q_3, .inl (cT 0, 26, .inl (upd (upd (upd (upd (upd (upd (upd (upd (upd (upd (upd (upd (upd (upd (upd (upd (upd (upd (upd (upd (upd (upd (upd (upd (upd (fun _ => 0) 0 1) 1 2) 2 3) 3 4) 4 5) 5 6) 6 7) 7 8) 8 9) 9 1) 10 2) 11 3) 12 4) 13 5) 14 6) 15 7) 16 8) 17 9) 18 1) 19 2) 20 3) 21 4) 22 5) 23 6) 24 7))), (q_4, .inl (cT 0, 3, .inl (fun _ => 0))), (q_5, .inl (cT 0, 8, .inl (fun _ => 0)))] := hD
  refine lv_iinc (v := 25) (lv' := [(1, .int 25), (0, .ref h0)]) hx hb dX8_init_65 hl (k := 0) rfl (by decide) (by decide) rfl (fun ls hl => ?_)
  refine lv_goto (tgt := 47) hx hb dX8_init_68 (by decide) ?_
  refine lv_iload_n hx hb dX8_init_47 rfl (lv_at hl 0 rfl) ?_
  refine lv_bipush (v := 26) hx hb dX8_init_48 (by decide) ?_
  refine lv_icmp_ge (tgt := 71) hx hb dX8_init_50 (by decide) (fun c9 => absurd c9 (by decide)) (fun _ => ?_)
  refine lv_aload_n hx hb dX8_init_53 rfl (lv_at hl 1 rfl) ?_
  refine va_get (D := D) (ci := 8) (v := .ref q_3) (C := RX8) (T := TX8) (N := 7) hx hb hts (fun _ h => List.mem_cons_of_mem _ (List.mem_append_right _ h)) hown hK hP 0 rfl rfl 4 (by decide) (hts (.fieldLink RX8 23 "PuppetFilm$Studio" "sounds" "[I") (List.mem_of_getElem? (i := 9) (by decide +kernel))) (fun _ h9 => h9) rfl dX8_init_54 ?_
  refine lv_iload_n hx hb dX8_init_57 rfl (lv_at hl 0 rfl) ?_
  refine lv_iload_n hx hb dX8_init_58 rfl (lv_at hl 0 rfl) ?_
  refine lv_bipush (v := 9) hx hb dX8_init_59 (by decide) ?_
  refine lv_irem hx hb dX8_init_61 (by decide) ?_
  refine lv_topi (fun z_56 ez_56 => ?_)
  obtain rfl : z_56 = 7 := ez_56.trans (by decide)
  refine lv_iconst (v := 1) hx hb dX8_init_62 (by decide) ?_
  refine lv_iadd hx hb dX8_init_63 ?_
  refine lv_topi (fun z_57 ez_57 => ?_)
  obtain rfl : z_57 = 8 := ez_57.trans (by decide)
  refine va_iast hx hb hK hP hD hS 3 0 rfl rfl (by unfold vp_in; decide) dX8_init_64 (fun H locs hP hD hS => ?_)
  have hP : va_P D vwCl [(h0, .inr (8, [.ref q_1, .int 0, .ref q_2, .int 0, .ref q_3, .ref q_4, .ref q_5])), (q_1, .inl (cT 4, 8, .inr (.inr (.inr (.inr (fun _ => none)))))), (q_2, .inl (cT 5, 12, .inr (.inr (.inr (.inr (fun _ => none)))))), (q_3, .inl (cT 0, 26, .inl (upd (upd (upd (upd (upd (upd (upd (upd (upd (upd (upd (upd (upd (upd (upd (upd (upd (upd (upd (upd (upd (upd (upd (upd (upd (upd (fun _ => 0) 0 1) 1 2) 2 3) 3 4) 4 5) 5 6) 6 7) 7 8) 8 9) 9 1) 10 2) 11 3) 12 4) 13 5) 14 6) 15 7) 16 8) 17 9) 18 1) 19 2) 20 3) 21 4) 22 5) 23 6) 24 7) 25 8))), (q_4, .inl (cT 0, 3, .inl (fun _ => 0))), (q_5, .inl (cT 0, 8, .inl (fun _ => 0)))] _ := hP
  have hD : va_D A [(h0, .inr (8, [.ref q_1, .int 0, .ref q_2, .int 0, .ref q_3, .ref q_4, .ref q_5])), (q_1, .inl (cT 4, 8, .inr (.inr (.inr (.inr (fun _ => none)))))), (q_2, .inl (cT 5, 12, .inr (.inr (.inr (.inr (fun _ => none)))))), (q_3, .inl (cT 0, 26, .inl (upd (upd (upd (upd (upd (upd (upd (upd (upd (upd (upd (upd (upd (upd (upd (upd (upd (upd (upd (upd (upd (upd (upd (upd (upd (upd (fun _ => 0) 0 1) 1 2) 2 3) 3 4) 4 5) 5 6) 6 7) 7 8) 8 9) 9 1) 10 2) 11 3) 12 4) 13 5) 14 6) 15 7) 16 8) 17 9) 18 1) 19 2) 20 3) 21 4) 22 5) 23 6) 24 7) 25 8))), (q_4, .inl (cT 0, 3, .inl (fun _ => 0))), (q_5, .inl (cT 0, 8, .inl (fun _ => 0)))] := hD
  refine lv_iinc (v := 26) (lv' := [(1, .int 26), (0, .ref h0)]) hx hb dX8_init_65 hl (k := 0) rfl (by decide) (by decide) rfl (fun ls hl => ?_)
  refine lv_goto (tgt := 47) hx hb dX8_init_68 (by decide) ?_
  refine lv_iload_n hx hb dX8_init_47 rfl (lv_at hl 0 rfl) ?_
  refine lv_bipush (v := 26) hx hb dX8_init_48 (by decide) ?_
  refine lv_icmp_ge (tgt := 71) hx hb dX8_init_50 (by decide) (fun _ => ?_) (fun c9 => absurd c9 (by decide))
  refine lv_aload_n hx hb dX8_init_71 rfl (lv_at hl 1 rfl) ?_
  refine va_get (D := D) (ci := 8) (v := .ref q_4) (C := RX8) (T := TX8) (N := 7) hx hb hts (fun _ h => List.mem_cons_of_mem _ (List.mem_append_right _ h)) hown hK hP 0 rfl rfl 5 (by decide) (hts (.fieldLink RX8 27 "PuppetFilm$Studio" "rates" "[I") (List.mem_of_getElem? (i := 10) (by decide +kernel))) (fun _ h9 => h9) rfl dX8_init_72 ?_
  refine lv_bipush (v := 10) hx hb dX8_init_75 (by decide) ?_
  have hF := va_free (wc := [(q_4, .inl (cT 0, 3, .inl (fun _ => 0)))]) hD hS hA [4] rfl
  refine va_callv (va_runS (As := [.ref q_4, .int 10]) (rest := []) ⟨hx, hb, hml, hown, hts⟩ (c_fill_3 l D cT q_4 (fun _ => 0) 10 _ ) (va_cwS 2 hts gX8_init_J7_fill_53178 rfl rfl rfl (by decide +kernel) ⟨Nat.le_of_ble_eq_true rfl, Nat.le_of_ble_eq_true rfl⟩) (ps_w hP hD hK hG [4] rfl rfl rfl) rfl rfl hl.1 rfl (lv_room (Nat.le_of_ble_eq_true rfl)) dX8_init_77 ⟨Nat.le_of_ble_eq_true rfl, Nat.le_of_ble_eq_true rfl⟩) hS (fun q _ h => hF q h) hF (fun uu9 tt9 H locs ht hvm wr_58 hB hz1 hk1 hS => ?_)
  obtain ⟨hP1, hD1⟩ := hB
  rw [ht] at hP1
  obtain ⟨hP, hD⟩ := va_join (wr := [(h0, .inr (8, [.ref q_1, .int 0, .ref q_2, .int 0, .ref q_3, .ref q_4, .ref q_5])), (q_1, .inl (cT 4, 8, .inr (.inr (.inr (.inr (fun _ => none)))))), (q_2, .inl (cT 5, 12, .inr (.inr (.inr (.inr (fun _ => none)))))), (q_3, .inl (cT 0, 26, .inl (upd (upd (upd (upd (upd (upd (upd (upd (upd (upd (upd (upd (upd (upd (upd (upd (upd (upd (upd (upd (upd (upd (upd (upd (upd (upd (fun _ => 0) 0 1) 1 2) 2 3) 3 4) 4 5) 5 6) 6 7) 7 8) 8 9) 9 1) 10 2) 11 3) 12 4) 13 5) 14 6) 15 7) 16 8) 17 9) 18 1) 19 2) 20 3) 21 4) 22 5) 23 6) 24 7) 25 8))), (q_5, .inl (cT 0, 8, .inl (fun _ => 0)))]) (w1 := [(q_4, .inl (cT 0, 3, .inl (upd (upd (upd (fun _ => 0) 0 10) 1 10) 2 10)))]) hP hD [4] [0, 1, 2, 3, 5] rfl rfl (by decide) (by decide) hk1 hF hP1 hD1
  have hP : va_P D vwCl [(h0, .inr (8, [.ref q_1, .int 0, .ref q_2, .int 0, .ref q_3, .ref q_4, .ref q_5])), (q_1, .inl (cT 4, 8, .inr (.inr (.inr (.inr (fun _ => none)))))), (q_2, .inl (cT 5, 12, .inr (.inr (.inr (.inr (fun _ => none)))))), (q_3, .inl (cT 0, 26, .inl (upd (upd (upd (upd (upd (upd (upd (upd (upd (upd (upd (upd (upd (upd (upd (upd (upd (upd (upd (upd (upd (upd (upd (upd (upd (upd (fun _ => 0) 0 1) 1 2) 2 3) 3 4) 4 5) 5 6) 6 7) 7 8) 8 9) 9 1) 10 2) 11 3) 12 4) 13 5) 14 6) 15 7) 16 8) 17 9) 18 1) 19 2) 20 3) 21 4) 22 5) 23 6) 24 7) 25 8))), (q_5, .inl (cT 0, 8, .inl (fun _ => 0))), (q_4, .inl (cT 0, 3, .inl (upd (upd (upd (fun _ => 0) 0 10) 1 10) 2 10)))] _ := hP
  have hD : va_D A [(h0, .inr (8, [.ref q_1, .int 0, .ref q_2, .int 0, .ref q_3, .ref q_4, .ref q_5])), (q_1, .inl (cT 4, 8, .inr (.inr (.inr (.inr (fun _ => none)))))), (q_2, .inl (cT 5, 12, .inr (.inr (.inr (.inr (fun _ => none)))))), (q_3, .inl (cT 0, 26, .inl (upd (upd (upd (upd (upd (upd (upd (upd (upd (upd (upd (upd (upd (upd (upd (upd (upd (upd (upd (upd (upd (upd (upd (upd (upd (upd (fun _ => 0) 0 1) 1 2) 2 3) 3 4) 4 5) 5 6) 6 7) 7 8) 8 9) 9 1) 10 2) 11 3) 12 4) 13 5) 14 6) 15 7) 16 8) 17 9) 18 1) 19 2) 20 3) 21 4) 22 5) 23 6) 24 7) 25 8))), (q_5, .inl (cT 0, 8, .inl (fun _ => 0))), (q_4, .inl (cT 0, 3, .inl (upd (upd (upd (fun _ => 0) 0 10) 1 10) 2 10)))] := hD
  refine lv_aload_n hx hb dX8_init_80 rfl (lv_at hl 1 rfl) ?_
  refine va_get (D := D) (ci := 8) (v := .ref q_5) (C := RX8) (T := TX8) (N := 7) hx hb hts (fun _ h => List.mem_cons_of_mem _ (List.mem_append_right _ h)) hown hK hP 0 rfl rfl 6 (by decide) (hts (.fieldLink RX8 30 "PuppetFilm$Studio" "dresses" "[I") (List.mem_of_getElem? (i := 11) (by decide +kernel))) (fun _ h9 => h9) rfl dX8_init_81 ?_
  refine lv_iconst (v := 1) hx hb dX8_init_84 (by decide) ?_
  have hF := va_free (wc := [(q_5, .inl (cT 0, 8, .inl (fun _ => 0)))]) hD hS hA [4] rfl
  refine va_callv (va_runS (As := [.ref q_5, .int 1]) (rest := []) ⟨hx, hb, hml, hown, hts⟩ (c_fill_8 l D cT q_5 (fun _ => 0) 1 _ ) (va_cwS 2 hts gX8_init_J7_fill_53178 rfl rfl rfl (by decide +kernel) ⟨Nat.le_of_ble_eq_true rfl, Nat.le_of_ble_eq_true rfl⟩) (ps_w hP hD hK hG [4] rfl rfl rfl) rfl rfl hl.1 rfl (lv_room (Nat.le_of_ble_eq_true rfl)) dX8_init_85 ⟨Nat.le_of_ble_eq_true rfl, Nat.le_of_ble_eq_true rfl⟩) hS (fun q _ h => hF q h) hF (fun uu9 tt9 H locs ht hvm wr_59 hB hz1 hk1 hS => ?_)
  obtain ⟨hP1, hD1⟩ := hB
  rw [ht] at hP1
  obtain ⟨hP, hD⟩ := va_join (wr := [(h0, .inr (8, [.ref q_1, .int 0, .ref q_2, .int 0, .ref q_3, .ref q_4, .ref q_5])), (q_1, .inl (cT 4, 8, .inr (.inr (.inr (.inr (fun _ => none)))))), (q_2, .inl (cT 5, 12, .inr (.inr (.inr (.inr (fun _ => none)))))), (q_3, .inl (cT 0, 26, .inl (upd (upd (upd (upd (upd (upd (upd (upd (upd (upd (upd (upd (upd (upd (upd (upd (upd (upd (upd (upd (upd (upd (upd (upd (upd (upd (fun _ => 0) 0 1) 1 2) 2 3) 3 4) 4 5) 5 6) 6 7) 7 8) 8 9) 9 1) 10 2) 11 3) 12 4) 13 5) 14 6) 15 7) 16 8) 17 9) 18 1) 19 2) 20 3) 21 4) 22 5) 23 6) 24 7) 25 8))), (q_4, .inl (cT 0, 3, .inl (upd (upd (upd (fun _ => 0) 0 10) 1 10) 2 10)))]) (w1 := [(q_5, .inl (cT 0, 8, .inl (upd (upd (upd (upd (upd (upd (upd (upd (fun _ => 0) 0 1) 1 1) 2 1) 3 1) 4 1) 5 1) 6 1) 7 1)))]) hP hD [4] [0, 1, 2, 3, 5] rfl rfl (by decide) (by decide) hk1 hF hP1 hD1
  have hP : va_P D vwCl [(h0, .inr (8, [.ref q_1, .int 0, .ref q_2, .int 0, .ref q_3, .ref q_4, .ref q_5])), (q_1, .inl (cT 4, 8, .inr (.inr (.inr (.inr (fun _ => none)))))), (q_2, .inl (cT 5, 12, .inr (.inr (.inr (.inr (fun _ => none)))))), (q_3, .inl (cT 0, 26, .inl (upd (upd (upd (upd (upd (upd (upd (upd (upd (upd (upd (upd (upd (upd (upd (upd (upd (upd (upd (upd (upd (upd (upd (upd (upd (upd (fun _ => 0) 0 1) 1 2) 2 3) 3 4) 4 5) 5 6) 6 7) 7 8) 8 9) 9 1) 10 2) 11 3) 12 4) 13 5) 14 6) 15 7) 16 8) 17 9) 18 1) 19 2) 20 3) 21 4) 22 5) 23 6) 24 7) 25 8))), (q_4, .inl (cT 0, 3, .inl (upd (upd (upd (fun _ => 0) 0 10) 1 10) 2 10))), (q_5, .inl (cT 0, 8, .inl (upd (upd (upd (upd (upd (upd (upd (upd (fun _ => 0) 0 1) 1 1) 2 1) 3 1) 4 1) 5 1) 6 1) 7 1)))] _ := hP
  have hD : va_D A [(h0, .inr (8, [.ref q_1, .int 0, .ref q_2, .int 0, .ref q_3, .ref q_4, .ref q_5])), (q_1, .inl (cT 4, 8, .inr (.inr (.inr (.inr (fun _ => none)))))), (q_2, .inl (cT 5, 12, .inr (.inr (.inr (.inr (fun _ => none)))))), (q_3, .inl (cT 0, 26, .inl (upd (upd (upd (upd (upd (upd (upd (upd (upd (upd (upd (upd (upd (upd (upd (upd (upd (upd (upd (upd (upd (upd (upd (upd (upd (upd (fun _ => 0) 0 1) 1 2) 2 3) 3 4) 4 5) 5 6) 6 7) 7 8) 8 9) 9 1) 10 2) 11 3) 12 4) 13 5) 14 6) 15 7) 16 8) 17 9) 18 1) 19 2) 20 3) 21 4) 22 5) 23 6) 24 7) 25 8))), (q_4, .inl (cT 0, 3, .inl (upd (upd (upd (fun _ => 0) 0 10) 1 10) 2 10))), (q_5, .inl (cT 0, 8, .inl (upd (upd (upd (upd (upd (upd (upd (upd (fun _ => 0) 0 1) 1 1) 2 1) 3 1) 4 1) 5 1) 6 1) 7 1)))] := hD
  have hP9 := hP.sub (ws' := [(h0, .inr (8, [.ref q_1, .int 0, .ref q_2, .int 0, .ref q_3, .ref q_4, .ref q_5])), (q_1, .inl (cT 4, 8, .inr (.inr (.inr (.inr (fun _ => none)))))), (q_2, .inl (cT 5, 12, .inr (.inr (.inr (.inr (fun _ => none)))))), (q_3, .inl (cT 0, 26, .inl (upd (upd (upd (upd (upd (upd (upd (upd (upd (upd (upd (upd (upd (upd (upd (upd (upd (upd (upd (upd (upd (upd (upd (upd (upd (upd (fun _ => 0) 0 1) 1 2) 2 3) 3 4) 4 5) 5 6) 6 7) 7 8) 8 9) 9 1) 10 2) 11 3) 12 4) 13 5) 14 6) 15 7) 16 8) 17 9) 18 1) 19 2) 20 3) 21 4) 22 5) 23 6) 24 7) 25 8))), (q_4, .inl (cT 0, 3, .inl (upd (upd (upd (fun _ => 0) 0 10) 1 10) 2 10))), (q_5, .inl (cT 0, 8, .inl (upd (upd (upd (upd (upd (upd (upd (upd (fun _ => 0) 0 1) 1 1) 2 1) 3 1) 4 1) 5 1) 6 1) 7 1)))]) [0, 1, 2, 3, 4, 5] rfl
  have hD9 := hD.sub (ws' := [(h0, .inr (8, [.ref q_1, .int 0, .ref q_2, .int 0, .ref q_3, .ref q_4, .ref q_5])), (q_1, .inl (cT 4, 8, .inr (.inr (.inr (.inr (fun _ => none)))))), (q_2, .inl (cT 5, 12, .inr (.inr (.inr (.inr (fun _ => none)))))), (q_3, .inl (cT 0, 26, .inl (upd (upd (upd (upd (upd (upd (upd (upd (upd (upd (upd (upd (upd (upd (upd (upd (upd (upd (upd (upd (upd (upd (upd (upd (upd (upd (fun _ => 0) 0 1) 1 2) 2 3) 3 4) 4 5) 5 6) 6 7) 7 8) 8 9) 9 1) 10 2) 11 3) 12 4) 13 5) 14 6) 15 7) 16 8) 17 9) 18 1) 19 2) 20 3) 21 4) 22 5) 23 6) 24 7) 25 8))), (q_4, .inl (cT 0, 3, .inl (upd (upd (upd (fun _ => 0) 0 10) 1 10) 2 10))), (q_5, .inl (cT 0, 8, .inl (upd (upd (upd (upd (upd (upd (upd (upd (fun _ => 0) 0 1) 1 1) 2 1) 3 1) 4 1) 5 1) 6 1) 7 1)))]) [0, 1, 2, 3, 4, 5] (by decide) rfl
  exact W.vret hx hb hr (fun t ht hW => ⟨⟨(), rfl, trivial, ⟨q_1, q_2, q_3, q_4, q_5, (upd (upd (upd (upd (upd (upd (upd (upd (upd (upd (upd (upd (upd (upd (upd (upd (upd (upd (upd (upd (upd (upd (upd (upd (upd (upd (fun _ => 0) 0 1) 1 2) 2 3) 3 4) 4 5) 5 6) 6 7) 7 8) 8 9) 9 1) 10 2) 11 3) 12 4) 13 5) 14 6) 15 7) 16 8) 17 9) 18 1) 19 2) 20 3) 21 4) 22 5) 23 6) 24 7) 25 8), (upd (upd (upd (fun _ => 0) 0 10) 1 10) 2 10), (upd (upd (upd (upd (upd (upd (upd (upd (fun _ => 0) 0 1) 1 1) 2 1) 3 1) 4 1) 5 1) 6 1) 7 1), by decide +kernel, by decide +kernel, by decide +kernel, by rw [ht]; exact hP9, hD9⟩⟩, hS.F ht⟩) hS.2.2 dX8_init_88
theorem dX1_init_0 : decode cX1_init 0 = .ok (.aload_n 0, 1) := by decide +kernel
theorem dX1_init_1 : decode cX1_init 1 = .ok (.invokespecial 3, 3) := by decide +kernel
theorem dX1_init_101 : decode cX1_init 101 = .ok (.iconst (-1), 1) := by decide +kernel
theorem dX1_init_102 : decode cX1_init 102 = .ok (.invokestatic 53, 3) := by decide +kernel
theorem dX1_init_105 : decode cX1_init 105 = .ok (.aload_n 0, 1) := by decide +kernel
theorem dX1_init_106 : decode cX1_init 106 = .ok (.getfield 27, 3) := by decide +kernel
theorem dX1_init_109 : decode cX1_init 109 = .ok (.iconst (-1), 1) := by decide +kernel
theorem dX1_init_110 : decode cX1_init 110 = .ok (.invokestatic 53, 3) := by decide +kernel
theorem dX1_init_113 : decode cX1_init 113 = .ok (.aload_n 0, 1) := by decide +kernel
theorem dX1_init_114 : decode cX1_init 114 = .ok (.getfield 33, 3) := by decide +kernel
theorem dX1_init_117 : decode cX1_init 117 = .ok (.iconst (-1), 1) := by decide +kernel
theorem dX1_init_118 : decode cX1_init 118 = .ok (.invokestatic 53, 3) := by decide +kernel
theorem dX1_init_12 : decode cX1_init 12 = .ok (.aload_n 0, 1) := by decide +kernel
theorem dX1_init_121 : decode cX1_init 121 = .ok (.aload_n 0, 1) := by decide +kernel
theorem dX1_init_122 : decode cX1_init 122 = .ok (.getfield 36, 3) := by decide +kernel
theorem dX1_init_125 : decode cX1_init 125 = .ok (.iconst (-1), 1) := by decide +kernel
theorem dX1_init_126 : decode cX1_init 126 = .ok (.invokestatic 53, 3) := by decide +kernel
theorem dX1_init_129 : decode cX1_init 129 = .ok (.return_, 1) := by decide +kernel
theorem dX1_init_13 : decode cX1_init 13 = .ok (.iconst 3, 1) := by decide +kernel
theorem dX1_init_14 : decode cX1_init 14 = .ok (.newarray .int, 2) := by decide +kernel
theorem dX1_init_16 : decode cX1_init 16 = .ok (.putfield 15, 3) := by decide +kernel
theorem dX1_init_19 : decode cX1_init 19 = .ok (.aload_n 0, 1) := by decide +kernel
theorem dX1_init_20 : decode cX1_init 20 = .ok (.bipush 30, 2) := by decide +kernel
theorem dX1_init_22 : decode cX1_init 22 = .ok (.newarray .int, 2) := by decide +kernel
theorem dX1_init_24 : decode cX1_init 24 = .ok (.putfield 18, 3) := by decide +kernel
theorem dX1_init_27 : decode cX1_init 27 = .ok (.aload_n 0, 1) := by decide +kernel
theorem dX1_init_28 : decode cX1_init 28 = .ok (.iconst 3, 1) := by decide +kernel
theorem dX1_init_29 : decode cX1_init 29 = .ok (.newarray .int, 2) := by decide +kernel
theorem dX1_init_31 : decode cX1_init 31 = .ok (.putfield 21, 3) := by decide +kernel
theorem dX1_init_34 : decode cX1_init 34 = .ok (.aload_n 0, 1) := by decide +kernel
theorem dX1_init_35 : decode cX1_init 35 = .ok (.bipush 12, 2) := by decide +kernel
theorem dX1_init_37 : decode cX1_init 37 = .ok (.newarray .int, 2) := by decide +kernel
theorem dX1_init_39 : decode cX1_init 39 = .ok (.putfield 24, 3) := by decide +kernel
theorem dX1_init_4 : decode cX1_init 4 = .ok (.aload_n 0, 1) := by decide +kernel
theorem dX1_init_42 : decode cX1_init 42 = .ok (.aload_n 0, 1) := by decide +kernel
theorem dX1_init_43 : decode cX1_init 43 = .ok (.iconst 3, 1) := by decide +kernel
theorem dX1_init_44 : decode cX1_init 44 = .ok (.newarray .int, 2) := by decide +kernel
theorem dX1_init_46 : decode cX1_init 46 = .ok (.putfield 27, 3) := by decide +kernel
theorem dX1_init_49 : decode cX1_init 49 = .ok (.aload_n 0, 1) := by decide +kernel
theorem dX1_init_5 : decode cX1_init 5 = .ok (.bipush 12, 2) := by decide +kernel
theorem dX1_init_50 : decode cX1_init 50 = .ok (.iconst 3, 1) := by decide +kernel
theorem dX1_init_51 : decode cX1_init 51 = .ok (.newarray .int, 2) := by decide +kernel
theorem dX1_init_53 : decode cX1_init 53 = .ok (.putfield 30, 3) := by decide +kernel
theorem dX1_init_56 : decode cX1_init 56 = .ok (.aload_n 0, 1) := by decide +kernel
theorem dX1_init_57 : decode cX1_init 57 = .ok (.bipush 8, 2) := by decide +kernel
theorem dX1_init_59 : decode cX1_init 59 = .ok (.newarray .int, 2) := by decide +kernel
theorem dX1_init_61 : decode cX1_init 61 = .ok (.putfield 33, 3) := by decide +kernel
theorem dX1_init_64 : decode cX1_init 64 = .ok (.aload_n 0, 1) := by decide +kernel
theorem dX1_init_65 : decode cX1_init 65 = .ok (.iconst 3, 1) := by decide +kernel
theorem dX1_init_66 : decode cX1_init 66 = .ok (.newarray .int, 2) := by decide +kernel
theorem dX1_init_68 : decode cX1_init 68 = .ok (.putfield 36, 3) := by decide +kernel
theorem dX1_init_7 : decode cX1_init 7 = .ok (.newarray .int, 2) := by decide +kernel
theorem dX1_init_71 : decode cX1_init 71 = .ok (.aload_n 0, 1) := by decide +kernel
theorem dX1_init_72 : decode cX1_init 72 = .ok (.bipush 6, 2) := by decide +kernel
theorem dX1_init_74 : decode cX1_init 74 = .ok (.newarray .int, 2) := by decide +kernel
theorem dX1_init_76 : decode cX1_init 76 = .ok (.putfield 39, 3) := by decide +kernel
theorem dX1_init_79 : decode cX1_init 79 = .ok (.aload_n 0, 1) := by decide +kernel
theorem dX1_init_80 : decode cX1_init 80 = .ok (.bipush 6, 2) := by decide +kernel
theorem dX1_init_82 : decode cX1_init 82 = .ok (.newarray .int, 2) := by decide +kernel
theorem dX1_init_84 : decode cX1_init 84 = .ok (.putfield 42, 3) := by decide +kernel
theorem dX1_init_87 : decode cX1_init 87 = .ok (.aload_n 0, 1) := by decide +kernel
theorem dX1_init_88 : decode cX1_init 88 = .ok (.aload_n 1, 1) := by decide +kernel
theorem dX1_init_89 : decode cX1_init 89 = .ok (.putfield 45, 3) := by decide +kernel
theorem dX1_init_9 : decode cX1_init 9 = .ok (.putfield 9, 3) := by decide +kernel
theorem dX1_init_92 : decode cX1_init 92 = .ok (.aload_n 0, 1) := by decide +kernel
theorem dX1_init_93 : decode cX1_init 93 = .ok (.iload_n 2, 1) := by decide +kernel
theorem dX1_init_94 : decode cX1_init 94 = .ok (.putfield 49, 3) := by decide +kernel
theorem dX1_init_97 : decode cX1_init 97 = .ok (.aload_n 0, 1) := by decide +kernel
theorem dX1_init_98 : decode cX1_init 98 = .ok (.getfield 15, 3) := by decide +kernel
set_option maxRecDepth 20000 in
theorem ggX1_init_J7_fill_53178 : GoodIn wsX1_init wsJ7_fill_53178 := goodIn_r _ [21] (by decide +kernel) (by decide +kernel)
set_option maxRecDepth 20000 in
theorem gX1_init_J7_fill_53178 : GoodIn wsX1_init (va_wsS RX1 53 yJ7_fill_53178 wsJ7_fill_53178) := goodIn_app (goodIn_of _ (by decide +kernel)) ggX1_init_J7_fill_53178
set_option maxHeartbeats 4000000 in
set_option maxRecDepth 100000 in
theorem c_X1_init_1 (l : Launch) (D : va_G) (cT : Nat → ClassId) (h0 : Nat) (st : Nat) (sz : Nat)  : Met l yX1_init wsX1_init ({ frames := 11, cells := 11, slots := 89, locals := 340 }) (va_Pc [.ref h0, .ref st, .int 1] (PW D cT [(h0, .inr (1, [.null, .int 0, .int 0, .null, .null, .null, .null, .null, .null, .null, .null, .null, .int 0, .null, .null, .int 0, .int 0, .int 0]))] sz)) (va_Qv (fun _ : Unit => True) (fun (_ : Unit) (t : State) => ∃ (a_taken : Nat), ∃ (a_on : Nat), ∃ (a_queues : Nat), ∃ (a_queued : Nat), ∃ (a_engaged : Nat), ∃ (a_dressing : Nat), ∃ (a_dressed : Nat), ∃ (a_standing : Nat), ∃ (a_stations : Nat), ∃ (a_limits : Nat), ∃ (a_worked : Nat), ∃ (fon : Nat → Int32), ∃ (fdi : Nat → Int32), ∃ (fsg : Nat → Int32), ∃ (fst : Nat → Int32), (∀ k, k < 3 → fon k = -1) ∧ (∀ k, k < 3 → fdi k = -1) ∧ (∀ k, k < 8 → fsg k = -1) ∧ (∀ k, k < 3 → fst k = -1) ∧ va_P D vwCl [(h0, .inr (1, [.ref st, .int 1, .int 0, .ref a_taken, .ref a_on, .ref a_queues, .ref a_queued, .ref a_engaged, .ref a_dressing, .ref a_dressed, .ref a_standing, .ref a_stations, .int 0, .ref a_limits, .ref a_worked, .int 0, .int 0, .int 0])), (a_taken, .inl (cT 0, 12, .inl (fun _ => 0))), (a_on, .inl (cT 0, 3, .inl fon)), (a_queues, .inl (cT 0, 30, .inl (fun _ => 0))), (a_queued, .inl (cT 0, 3, .inl (fun _ => 0))), (a_engaged, .inl (cT 0, 12, .inl (fun _ => 0))), (a_dressing, .inl (cT 0, 3, .inl fdi)), (a_dressed, .inl (cT 0, 3, .inl (fun _ => 0))), (a_standing, .inl (cT 0, 8, .inl fsg)), (a_stations, .inl (cT 0, 3, .inl fst)), (a_limits, .inl (cT 0, 6, .inl (fun _ => 0))), (a_worked, .inl (cT 0, 6, .inl (fun _ => 0)))] t.heap ∧ va_D (va_A [(h0, .inr (1, [.null, .int 0, .int 0, .null, .null, .null, .null, .null, .null, .null, .null, .null, .int 0, .null, .null, .int 0, .int 0, .int 0]))] sz) [(h0, .inr (1, [.ref st, .int 1, .int 0, .ref a_taken, .ref a_on, .ref a_queues, .ref a_queued, .ref a_engaged, .ref a_dressing, .ref a_dressed, .ref a_standing, .ref a_stations, .int 0, .ref a_limits, .ref a_worked, .int 0, .int 0, .int 0])), (a_taken, .inl (cT 0, 12, .inl (fun _ => 0))), (a_on, .inl (cT 0, 3, .inl fon)), (a_queues, .inl (cT 0, 30, .inl (fun _ => 0))), (a_queued, .inl (cT 0, 3, .inl (fun _ => 0))), (a_engaged, .inl (cT 0, 12, .inl (fun _ => 0))), (a_dressing, .inl (cT 0, 3, .inl fdi)), (a_dressed, .inl (cT 0, 3, .inl (fun _ => 0))), (a_standing, .inl (cT 0, 8, .inl fsg)), (a_stations, .inl (cT 0, 3, .inl fst)), (a_limits, .inl (cT 0, 6, .inl (fun _ => 0))), (a_worked, .inl (cT 0, 6, .inl (fun _ => 0)))]) (va_A [(h0, .inr (1, [.null, .int 0, .int 0, .null, .null, .null, .null, .null, .null, .null, .null, .null, .int 0, .null, .null, .int 0, .int 0, .int 0]))] sz)) 11 89 (va_A [(h0, .inr (1, [.null, .int 0, .int 0, .null, .null, .null, .null, .null, .null, .null, .null, .null, .int 0, .null, .null, .int 0, .int 0, .int 0]))] sz) := by
  refine Met.ofW (cc := cX1_init) (maxL := 3) (ret := none) (by decide) rfl ?_
  intro p e s m args below meth c s₁ B hml hv
  obtain ⟨rfl, hsz, hP, hK, hD0, hG⟩ := hv
  have hx := B.exec
  have hb := B.bytes
  have hr := B.returns
  have hts := atoms_spec (ws := wsX1_init) B.pre
  have hown : s.vm.findClass RX1 = some m.cls := findClass_of_methodNamed B.named
  have hlocks := B.notSynchronized
  have hin : meth.name = "<init>" := (name_of_methodNamed B.named B.method).1
  subst hsz
  have hD := hD0.self (sz := s.heap.size)
  generalize hAe : va_A [(h0, .inr (1, [.null, .int 0, .int 0, .null, .null, .null, .null, .null, .null, .null, .null, .null, .int 0, .null, .null, .int 0, .int 0, .int 0]))] s.heap.size = A at hD ⊢
  have hA : ∀ q : Nat, s.heap.size ≤ q → A q := fun q h => by rw [← hAe]; exact Or.inr h
  have hS : va_S A s.heap s.heap [] := va_S.rf
  have hP : va_P D vwCl [(h0, .inr (1, [.null, .int 0, .int 0, .null, .null, .null, .null, .null, .null, .null, .null, .null, .int 0, .null, .null, .int 0, .int 0, .int 0]))] s.heap := hP
  have hl := lv_entry ([.ref h0, .ref st, .int 1]) (n := 3) (Nat.le_of_ble_eq_true rfl)
  rw [lg_entry_eq]
  generalize (lg_sl ([.ref h0, .ref st, .int 1]) ++ List.replicate (3 - (lg_sl ([.ref h0, .ref st, .int 1])).length) Slot.unset).toArray = ls at hl ⊢
  have hl : lv_has ls 3 [(0, .ref h0), (1, .ref st), (2, .int 1)] := hl
  refine lv_aload_n hx hb dX1_init_0 rfl (lv_at hl 0 rfl) ?_
  refine W.objInit hx hb hown (hts (.methodLink RX1 3 objectInit) (List.mem_of_getElem? (i := 1) (by decide +kernel))) (hts (.instanceMethod objectInit) (List.mem_of_getElem? (i := 2) (by decide +kernel))) (hts _ (List.mem_of_getElem? (i := 3) rfl)) rfl (by rw [hml]; exact hl.1) rfl dX1_init_1 (Nat.le_of_ble_eq_true rfl) (Nat.le_of_ble_eq_true rfl) ?_
  refine W.eq (g2 := F0 m 4 ls []) rfl ?_
  refine lv_aload_n hx hb dX1_init_4 rfl (lv_at hl 0 rfl) ?_
  refine lv_bipush (v := 12) hx hb dX1_init_5 (by decide) ?_
  refine va_newa (atype := .int) (ty := .int) (n := 12) (N' := 12) (a0 := (12, .inl (fun _ => 0))) hx hb (hts (.arrayClass .int) (List.mem_of_getElem? (i := 4) (by decide +kernel))) rfl hK hP hD hS hA (fun _ => rfl) (by decide) (by decide) (Nat.le_of_ble_eq_true rfl) (Nat.le_of_ble_eq_true rfl) (Nat.le_of_ble_eq_true rfl) dX1_init_7 (fun q_1 cA9 H hK hP hD hS => ?_)
  obtain rfl := ty_new hK 0 rfl
  have hK := ty_cut hK
  have hP : va_P D vwCl [(h0, .inr (1, [.null, .int 0, .int 0, .null, .null, .null, .null, .null, .null, .null, .null, .null, .int 0, .null, .null, .int 0, .int 0, .int 0])), (q_1, .inl (cT 0, 12, .inl (fun _ => 0)))] _ := hP
  have hD : va_D A [(h0, .inr (1, [.null, .int 0, .int 0, .null, .null, .null, .null, .null, .null, .null, .null, .null, .int 0, .null, .null, .int 0, .int 0, .int 0])), (q_1, .inl (cT 0, 12, .inl (fun _ => 0)))] := hD
  refine W.widen (k := 1) (n := 12) (Nat.le_of_ble_eq_true rfl) (Nat.le_of_ble_eq_true rfl) ?_
  refine va_putF (D := D) (ci := 1) (v := .ref q_1) (ty := (.array .int)) (C := RX1) (T := TX1) (N := 18) hx hb hts (fun _ h => List.mem_cons_of_mem _ (List.mem_append_right _ h)) tyX1 tyX1_ok nmX1 hown hK hP hD hS 0 rfl rfl 3 (by decide) (hts (.fieldLink RX1 9 "PuppetFilm$Floor" "taken" "[I") (List.mem_of_getElem? (i := 5) (by decide +kernel))) (fun _ h9 => h9) rfl hin rfl (by decide +kernel) rfl rfl (Nat.le_of_ble_eq_true rfl) dX1_init_9 (fun H locs hP hD hS => ?_)
  have hP : va_P D vwCl [(h0, .inr (1, [.null, .int 0, .int 0, .ref q_1, .null, .null, .null, .null, .null, .null, .null, .null, .int 0, .null, .null, .int 0, .int 0, .int 0])), (q_1, .inl (cT 0, 12, .inl (fun _ => 0)))] _ := hP
  have hD : va_D A [(h0, .inr (1, [.null, .int 0, .int 0, .ref q_1, .null, .null, .null, .null, .null, .null, .null, .null, .int 0, .null, .null, .int 0, .int 0, .int 0])), (q_1, .inl (cT 0, 12, .inl (fun _ => 0)))] := hD
  refine lv_aload_n hx hb dX1_init_12 rfl (lv_at hl 0 rfl) ?_
  refine lv_iconst (v := 3) hx hb dX1_init_13 (by decide) ?_
  refine va_newa (atype := .int) (ty := .int) (n := 3) (N' := 3) (a0 := (3, .inl (fun _ => 0))) hx hb (hts (.arrayClass .int) (List.mem_of_getElem? (i := 4) (by decide +kernel))) rfl hK hP hD hS hA (fun _ => rfl) (by decide) (by decide) (Nat.le_of_ble_eq_true rfl) (Nat.le_of_ble_eq_true rfl) (Nat.le_of_ble_eq_true rfl) dX1_init_14 (fun q_2 cA9 H hK hP hD hS => ?_)
  obtain rfl := ty_new hK 0 rfl
  have hK := ty_cut hK
  have hP : va_P D vwCl [(h0, .inr (1, [.null, .int 0, .int 0, .ref q_1, .null, .null, .null, .null, .null, .null, .null, .null, .int 0, .null, .null, .int 0, .int 0, .int 0])), (q_1, .inl (cT 0, 12, .inl (fun _ => 0))), (q_2, .inl (cT 0, 3, .inl (fun _ => 0)))] _ := hP
  have hD : va_D A [(h0, .inr (1, [.null, .int 0, .int 0, .ref q_1, .null, .null, .null, .null, .null, .null, .null, .null, .int 0, .null, .null, .int 0, .int 0, .int 0])), (q_1, .inl (cT 0, 12, .inl (fun _ => 0))), (q_2, .inl (cT 0, 3, .inl (fun _ => 0)))] := hD
  refine W.widen (k := 2) (n := 15) (Nat.le_of_ble_eq_true rfl) (Nat.le_of_ble_eq_true rfl) ?_
  refine va_putF (D := D) (ci := 1) (v := .ref q_2) (ty := (.array .int)) (C := RX1) (T := TX1) (N := 18) hx hb hts (fun _ h => List.mem_cons_of_mem _ (List.mem_append_right _ h)) tyX1 tyX1_ok nmX1 hown hK hP hD hS 0 rfl rfl 4 (by decide) (hts (.fieldLink RX1 15 "PuppetFilm$Floor" "on" "[I") (List.mem_of_getElem? (i := 6) (by decide +kernel))) (fun _ h9 => h9) rfl hin rfl (by decide +kernel) rfl rfl (Nat.le_of_ble_eq_true rfl) dX1_init_16 (fun H locs hP hD hS => ?_)
  have hP : va_P D vwCl [(h0, .inr (1, [.null, .int 0, .int 0, .ref q_1, .ref q_2, .null, .null, .null, .null, .null, .null, .null, .int 0, .null, .null, .int 0, .int 0, .int 0])), (q_1, .inl (cT 0, 12, .inl (fun _ => 0))), (q_2, .inl (cT 0, 3, .inl (fun _ => 0)))] _ := hP
  have hD : va_D A [(h0, .inr (1, [.null, .int 0, .int 0, .ref q_1, .ref q_2, .null, .null, .null, .null, .null, .null, .null, .int 0, .null, .null, .int 0, .int 0, .int 0])), (q_1, .inl (cT 0, 12, .inl (fun _ => 0))), (q_2, .inl (cT 0, 3, .inl (fun _ => 0)))] := hD
  refine lv_aload_n hx hb dX1_init_19 rfl (lv_at hl 0 rfl) ?_
  refine lv_bipush (v := 30) hx hb dX1_init_20 (by decide) ?_
  refine va_newa (atype := .int) (ty := .int) (n := 30) (N' := 30) (a0 := (30, .inl (fun _ => 0))) hx hb (hts (.arrayClass .int) (List.mem_of_getElem? (i := 4) (by decide +kernel))) rfl hK hP hD hS hA (fun _ => rfl) (by decide) (by decide) (Nat.le_of_ble_eq_true rfl) (Nat.le_of_ble_eq_true rfl) (Nat.le_of_ble_eq_true rfl) dX1_init_22 (fun q_3 cA9 H hK hP hD hS => ?_)
  obtain rfl := ty_new hK 0 rfl
  have hK := ty_cut hK
  have hP : va_P D vwCl [(h0, .inr (1, [.null, .int 0, .int 0, .ref q_1, .ref q_2, .null, .null, .null, .null, .null, .null, .null, .int 0, .null, .null, .int 0, .int 0, .int 0])), (q_1, .inl (cT 0, 12, .inl (fun _ => 0))), (q_2, .inl (cT 0, 3, .inl (fun _ => 0))), (q_3, .inl (cT 0, 30, .inl (fun _ => 0)))] _ := hP
  have hD : va_D A [(h0, .inr (1, [.null, .int 0, .int 0, .ref q_1, .ref q_2, .null, .null, .null, .null, .null, .null, .null, .int 0, .null, .null, .int 0, .int 0, .int 0])), (q_1, .inl (cT 0, 12, .inl (fun _ => 0))), (q_2, .inl (cT 0, 3, .inl (fun _ => 0))), (q_3, .inl (cT 0, 30, .inl (fun _ => 0)))] := hD
  refine W.widen (k := 3) (n := 45) (Nat.le_of_ble_eq_true rfl) (Nat.le_of_ble_eq_true rfl) ?_
  refine va_putF (D := D) (ci := 1) (v := .ref q_3) (ty := (.array .int)) (C := RX1) (T := TX1) (N := 18) hx hb hts (fun _ h => List.mem_cons_of_mem _ (List.mem_append_right _ h)) tyX1 tyX1_ok nmX1 hown hK hP hD hS 0 rfl rfl 5 (by decide) (hts (.fieldLink RX1 18 "PuppetFilm$Floor" "queues" "[I") (List.mem_of_getElem? (i := 7) (by decide +kernel))) (fun _ h9 => h9) rfl hin rfl (by decide +kernel) rfl rfl (Nat.le_of_ble_eq_true rfl) dX1_init_24 (fun H locs hP hD hS => ?_)
  have hP : va_P D vwCl [(h0, .inr (1, [.null, .int 0, .int 0, .ref q_1, .ref q_2, .ref q_3, .null, .null, .null, .null, .null, .null, .int 0, .null, .null, .int 0, .int 0, .int 0])), (q_1, .inl (cT 0, 12, .inl (fun _ => 0))), (q_2, .inl (cT 0, 3, .inl (fun _ => 0))), (q_3, .inl (cT 0, 30, .inl (fun _ => 0)))] _ := hP
  have hD : va_D A [(h0, .inr (1, [.null, .int 0, .int 0, .ref q_1, .ref q_2, .ref q_3, .null, .null, .null, .null, .null, .null, .int 0, .null, .null, .int 0, .int 0, .int 0])), (q_1, .inl (cT 0, 12, .inl (fun _ => 0))), (q_2, .inl (cT 0, 3, .inl (fun _ => 0))), (q_3, .inl (cT 0, 30, .inl (fun _ => 0)))] := hD
  refine lv_aload_n hx hb dX1_init_27 rfl (lv_at hl 0 rfl) ?_
  refine lv_iconst (v := 3) hx hb dX1_init_28 (by decide) ?_
  refine va_newa (atype := .int) (ty := .int) (n := 3) (N' := 3) (a0 := (3, .inl (fun _ => 0))) hx hb (hts (.arrayClass .int) (List.mem_of_getElem? (i := 4) (by decide +kernel))) rfl hK hP hD hS hA (fun _ => rfl) (by decide) (by decide) (Nat.le_of_ble_eq_true rfl) (Nat.le_of_ble_eq_true rfl) (Nat.le_of_ble_eq_true rfl) dX1_init_29 (fun q_4 cA9 H hK hP hD hS => ?_)
  obtain rfl := ty_new hK 0 rfl
  have hK := ty_cut hK
  have hP : va_P D vwCl [(h0, .inr (1, [.null, .int 0, .int 0, .ref q_1, .ref q_2, .ref q_3, .null, .null, .null, .null, .null, .null, .int 0, .null, .null, .int 0, .int 0, .int 0])), (q_1, .inl (cT 0, 12, .inl (fun _ => 0))), (q_2, .inl (cT 0, 3, .inl (fun _ => 0))), (q_3, .inl (cT 0, 30, .inl (fun _ => 0))), (q_4, .inl (cT 0, 3, .inl (fun _ => 0)))] _ := hP
  have hD : va_D A [(h0, .inr (1, [.null, .int 0, .int 0, .ref q_1, .ref q_2, .ref q_3, .null, .null, .null, .null, .null, .null, .int 0, .null, .null, .int 0, .int 0, .int 0])), (q_1, .inl (cT 0, 12, .inl (fun _ => 0))), (q_2, .inl (cT 0, 3, .inl (fun _ => 0))), (q_3, .inl (cT 0, 30, .inl (fun _ => 0))), (q_4, .inl (cT 0, 3, .inl (fun _ => 0)))] := hD
  refine W.widen (k := 4) (n := 48) (Nat.le_of_ble_eq_true rfl) (Nat.le_of_ble_eq_true rfl) ?_
  refine va_putF (D := D) (ci := 1) (v := .ref q_4) (ty := (.array .int)) (C := RX1) (T := TX1) (N := 18) hx hb hts (fun _ h => List.mem_cons_of_mem _ (List.mem_append_right _ h)) tyX1 tyX1_ok nmX1 hown hK hP hD hS 0 rfl rfl 6 (by decide) (hts (.fieldLink RX1 21 "PuppetFilm$Floor" "queued" "[I") (List.mem_of_getElem? (i := 8) (by decide +kernel))) (fun _ h9 => h9) rfl hin rfl (by decide +kernel) rfl rfl (Nat.le_of_ble_eq_true rfl) dX1_init_31 (fun H locs hP hD hS => ?_)
  have hP : va_P D vwCl [(h0, .inr (1, [.null, .int 0, .int 0, .ref q_1, .ref q_2, .ref q_3, .ref q_4, .null, .null, .null, .null, .null, .int 0, .null, .null, .int 0, .int 0, .int 0])), (q_1, .inl (cT 0, 12, .inl (fun _ => 0))), (q_2, .inl (cT 0, 3, .inl (fun _ => 0))), (q_3, .inl (cT 0, 30, .inl (fun _ => 0))), (q_4, .inl (cT 0, 3, .inl (fun _ => 0)))] _ := hP
  have hD : va_D A [(h0, .inr (1, [.null, .int 0, .int 0, .ref q_1, .ref q_2, .ref q_3, .ref q_4, .null, .null, .null, .null, .null, .int 0, .null, .null, .int 0, .int 0, .int 0])), (q_1, .inl (cT 0, 12, .inl (fun _ => 0))), (q_2, .inl (cT 0, 3, .inl (fun _ => 0))), (q_3, .inl (cT 0, 30, .inl (fun _ => 0))), (q_4, .inl (cT 0, 3, .inl (fun _ => 0)))] := hD
  refine lv_aload_n hx hb dX1_init_34 rfl (lv_at hl 0 rfl) ?_
  refine lv_bipush (v := 12) hx hb dX1_init_35 (by decide) ?_
  refine va_newa (atype := .int) (ty := .int) (n := 12) (N' := 12) (a0 := (12, .inl (fun _ => 0))) hx hb (hts (.arrayClass .int) (List.mem_of_getElem? (i := 4) (by decide +kernel))) rfl hK hP hD hS hA (fun _ => rfl) (by decide) (by decide) (Nat.le_of_ble_eq_true rfl) (Nat.le_of_ble_eq_true rfl) (Nat.le_of_ble_eq_true rfl) dX1_init_37 (fun q_5 cA9 H hK hP hD hS => ?_)
  obtain rfl := ty_new hK 0 rfl
  have hK := ty_cut hK
  have hP : va_P D vwCl [(h0, .inr (1, [.null, .int 0, .int 0, .ref q_1, .ref q_2, .ref q_3, .ref q_4, .null, .null, .null, .null, .null, .int 0, .null, .null, .int 0, .int 0, .int 0])), (q_1, .inl (cT 0, 12, .inl (fun _ => 0))), (q_2, .inl (cT 0, 3, .inl (fun _ => 0))), (q_3, .inl (cT 0, 30, .inl (fun _ => 0))), (q_4, .inl (cT 0, 3, .inl (fun _ => 0))), (q_5, .inl (cT 0, 12, .inl (fun _ => 0)))] _ := hP
  have hD : va_D A [(h0, .inr (1, [.null, .int 0, .int 0, .ref q_1, .ref q_2, .ref q_3, .ref q_4, .null, .null, .null, .null, .null, .int 0, .null, .null, .int 0, .int 0, .int 0])), (q_1, .inl (cT 0, 12, .inl (fun _ => 0))), (q_2, .inl (cT 0, 3, .inl (fun _ => 0))), (q_3, .inl (cT 0, 30, .inl (fun _ => 0))), (q_4, .inl (cT 0, 3, .inl (fun _ => 0))), (q_5, .inl (cT 0, 12, .inl (fun _ => 0)))] := hD
  refine W.widen (k := 5) (n := 60) (Nat.le_of_ble_eq_true rfl) (Nat.le_of_ble_eq_true rfl) ?_
  refine va_putF (D := D) (ci := 1) (v := .ref q_5) (ty := (.array .int)) (C := RX1) (T := TX1) (N := 18) hx hb hts (fun _ h => List.mem_cons_of_mem _ (List.mem_append_right _ h)) tyX1 tyX1_ok nmX1 hown hK hP hD hS 0 rfl rfl 7 (by decide) (hts (.fieldLink RX1 24 "PuppetFilm$Floor" "engaged" "[I") (List.mem_of_getElem? (i := 9) (by decide +kernel))) (fun _ h9 => h9) rfl hin rfl (by decide +kernel) rfl rfl (Nat.le_of_ble_eq_true rfl) dX1_init_39 (fun H locs hP hD hS => ?_)
  have hP : va_P D vwCl [(h0, .inr (1, [.null, .int 0, .int 0, .ref q_1, .ref q_2, .ref q_3, .ref q_4, .ref q_5, .null, .null, .null, .null, .int 0, .null, .null, .int 0, .int 0, .int 0])), (q_1, .inl (cT 0, 12, .inl (fun _ => 0))), (q_2, .inl (cT 0, 3, .inl (fun _ => 0))), (q_3, .inl (cT 0, 30, .inl (fun _ => 0))), (q_4, .inl (cT 0, 3, .inl (fun _ => 0))), (q_5, .inl (cT 0, 12, .inl (fun _ => 0)))] _ := hP
  have hD : va_D A [(h0, .inr (1, [.null, .int 0, .int 0, .ref q_1, .ref q_2, .ref q_3, .ref q_4, .ref q_5, .null, .null, .null, .null, .int 0, .null, .null, .int 0, .int 0, .int 0])), (q_1, .inl (cT 0, 12, .inl (fun _ => 0))), (q_2, .inl (cT 0, 3, .inl (fun _ => 0))), (q_3, .inl (cT 0, 30, .inl (fun _ => 0))), (q_4, .inl (cT 0, 3, .inl (fun _ => 0))), (q_5, .inl (cT 0, 12, .inl (fun _ => 0)))] := hD
  refine lv_aload_n hx hb dX1_init_42 rfl (lv_at hl 0 rfl) ?_
  refine lv_iconst (v := 3) hx hb dX1_init_43 (by decide) ?_
  refine va_newa (atype := .int) (ty := .int) (n := 3) (N' := 3) (a0 := (3, .inl (fun _ => 0))) hx hb (hts (.arrayClass .int) (List.mem_of_getElem? (i := 4) (by decide +kernel))) rfl hK hP hD hS hA (fun _ => rfl) (by decide) (by decide) (Nat.le_of_ble_eq_true rfl) (Nat.le_of_ble_eq_true rfl) (Nat.le_of_ble_eq_true rfl) dX1_init_44 (fun q_6 cA9 H hK hP hD hS => ?_)
  obtain rfl := ty_new hK 0 rfl
  have hK := ty_cut hK
  have hP : va_P D vwCl [(h0, .inr (1, [.null, .int 0, .int 0, .ref q_1, .ref q_2, .ref q_3, .ref q_4, .ref q_5, .null, .null, .null, .null, .int 0, .null, .null, .int 0, .int 0, .int 0])), (q_1, .inl (cT 0, 12, .inl (fun _ => 0))), (q_2, .inl (cT 0, 3, .inl (fun _ => 0))), (q_3, .inl (cT 0, 30, .inl (fun _ => 0))), (q_4, .inl (cT 0, 3, .inl (fun _ => 0))), (q_5, .inl (cT 0, 12, .inl (fun _ => 0))), (q_6, .inl (cT 0, 3, .inl (fun _ => 0)))] _ := hP
  have hD : va_D A [(h0, .inr (1, [.null, .int 0, .int 0, .ref q_1, .ref q_2, .ref q_3, .ref q_4, .ref q_5, .null, .null, .null, .null, .int 0, .null, .null, .int 0, .int 0, .int 0])), (q_1, .inl (cT 0, 12, .inl (fun _ => 0))), (q_2, .inl (cT 0, 3, .inl (fun _ => 0))), (q_3, .inl (cT 0, 30, .inl (fun _ => 0))), (q_4, .inl (cT 0, 3, .inl (fun _ => 0))), (q_5, .inl (cT 0, 12, .inl (fun _ => 0))), (q_6, .inl (cT 0, 3, .inl (fun _ => 0)))] := hD
  refine W.widen (k := 6) (n := 63) (Nat.le_of_ble_eq_true rfl) (Nat.le_of_ble_eq_true rfl) ?_
  refine va_putF (D := D) (ci := 1) (v := .ref q_6) (ty := (.array .int)) (C := RX1) (T := TX1) (N := 18) hx hb hts (fun _ h => List.mem_cons_of_mem _ (List.mem_append_right _ h)) tyX1 tyX1_ok nmX1 hown hK hP hD hS 0 rfl rfl 8 (by decide) (hts (.fieldLink RX1 27 "PuppetFilm$Floor" "dressing" "[I") (List.mem_of_getElem? (i := 10) (by decide +kernel))) (fun _ h9 => h9) rfl hin rfl (by decide +kernel) rfl rfl (Nat.le_of_ble_eq_true rfl) dX1_init_46 (fun H locs hP hD hS => ?_)
  have hP : va_P D vwCl [(h0, .inr (1, [.null, .int 0, .int 0, .ref q_1, .ref q_2, .ref q_3, .ref q_4, .ref q_5, .ref q_6, .null, .null, .null, .int 0, .null, .null, .int 0, .int 0, .int 0])), (q_1, .inl (cT 0, 12, .inl (fun _ => 0))), (q_2, .inl (cT 0, 3, .inl (fun _ => 0))), (q_3, .inl (cT 0, 30, .inl (fun _ => 0))), (q_4, .inl (cT 0, 3, .inl (fun _ => 0))), (q_5, .inl (cT 0, 12, .inl (fun _ => 0))), (q_6, .inl (cT 0, 3, .inl (fun _ => 0)))] _ := hP
  have hD : va_D A [(h0, .inr (1, [.null, .int 0, .int 0, .ref q_1, .ref q_2, .ref q_3, .ref q_4, .ref q_5, .ref q_6, .null, .null, .null, .int 0, .null, .null, .int 0, .int 0, .int 0])), (q_1, .inl (cT 0, 12, .inl (fun _ => 0))), (q_2, .inl (cT 0, 3, .inl (fun _ => 0))), (q_3, .inl (cT 0, 30, .inl (fun _ => 0))), (q_4, .inl (cT 0, 3, .inl (fun _ => 0))), (q_5, .inl (cT 0, 12, .inl (fun _ => 0))), (q_6, .inl (cT 0, 3, .inl (fun _ => 0)))] := hD
  refine lv_aload_n hx hb dX1_init_49 rfl (lv_at hl 0 rfl) ?_
  refine lv_iconst (v := 3) hx hb dX1_init_50 (by decide) ?_
  refine va_newa (atype := .int) (ty := .int) (n := 3) (N' := 3) (a0 := (3, .inl (fun _ => 0))) hx hb (hts (.arrayClass .int) (List.mem_of_getElem? (i := 4) (by decide +kernel))) rfl hK hP hD hS hA (fun _ => rfl) (by decide) (by decide) (Nat.le_of_ble_eq_true rfl) (Nat.le_of_ble_eq_true rfl) (Nat.le_of_ble_eq_true rfl) dX1_init_51 (fun q_7 cA9 H hK hP hD hS => ?_)
  obtain rfl := ty_new hK 0 rfl
  have hK := ty_cut hK
  have hP : va_P D vwCl [(h0, .inr (1, [.null, .int 0, .int 0, .ref q_1, .ref q_2, .ref q_3, .ref q_4, .ref q_5, .ref q_6, .null, .null, .null, .int 0, .null, .null, .int 0, .int 0, .int 0])), (q_1, .inl (cT 0, 12, .inl (fun _ => 0))), (q_2, .inl (cT 0, 3, .inl (fun _ => 0))), (q_3, .inl (cT 0, 30, .inl (fun _ => 0))), (q_4, .inl (cT 0, 3, .inl (fun _ => 0))), (q_5, .inl (cT 0, 12, .inl (fun _ => 0))), (q_6, .inl (cT 0, 3, .inl (fun _ => 0))), (q_7, .inl (cT 0, 3, .inl (fun _ => 0)))] _ := hP
  have hD : va_D A [(h0, .inr (1, [.null, .int 0, .int 0, .ref q_1, .ref q_2, .ref q_3, .ref q_4, .ref q_5, .ref q_6, .null, .null, .null, .int 0, .null, .null, .int 0, .int 0, .int 0])), (q_1, .inl (cT 0, 12, .inl (fun _ => 0))), (q_2, .inl (cT 0, 3, .inl (fun _ => 0))), (q_3, .inl (cT 0, 30, .inl (fun _ => 0))), (q_4, .inl (cT 0, 3, .inl (fun _ => 0))), (q_5, .inl (cT 0, 12, .inl (fun _ => 0))), (q_6, .inl (cT 0, 3, .inl (fun _ => 0))), (q_7, .inl (cT 0, 3, .inl (fun _ => 0)))] := hD
  refine W.widen (k := 7) (n := 66) (Nat.le_of_ble_eq_true rfl) (Nat.le_of_ble_eq_true rfl) ?_
  refine va_putF (D := D) (ci := 1) (v := .ref q_7) (ty := (.array .int)) (C := RX1) (T := TX1) (N := 18) hx hb hts (fun _ h => List.mem_cons_of_mem _ (List.mem_append_right _ h)) tyX1 tyX1_ok nmX1 hown hK hP hD hS 0 rfl rfl 9 (by decide) (hts (.fieldLink RX1 30 "PuppetFilm$Floor" "dressed" "[I") (List.mem_of_getElem? (i := 11) (by decide +kernel))) (fun _ h9 => h9) rfl hin rfl (by decide +kernel) rfl rfl (Nat.le_of_ble_eq_true rfl) dX1_init_53 (fun H locs hP hD hS => ?_)
  have hP : va_P D vwCl [(h0, .inr (1, [.null, .int 0, .int 0, .ref q_1, .ref q_2, .ref q_3, .ref q_4, .ref q_5, .ref q_6, .ref q_7, .null, .null, .int 0, .null, .null, .int 0, .int 0, .int 0])), (q_1, .inl (cT 0, 12, .inl (fun _ => 0))), (q_2, .inl (cT 0, 3, .inl (fun _ => 0))), (q_3, .inl (cT 0, 30, .inl (fun _ => 0))), (q_4, .inl (cT 0, 3, .inl (fun _ => 0))), (q_5, .inl (cT 0, 12, .inl (fun _ => 0))), (q_6, .inl (cT 0, 3, .inl (fun _ => 0))), (q_7, .inl (cT 0, 3, .inl (fun _ => 0)))] _ := hP
  have hD : va_D A [(h0, .inr (1, [.null, .int 0, .int 0, .ref q_1, .ref q_2, .ref q_3, .ref q_4, .ref q_5, .ref q_6, .ref q_7, .null, .null, .int 0, .null, .null, .int 0, .int 0, .int 0])), (q_1, .inl (cT 0, 12, .inl (fun _ => 0))), (q_2, .inl (cT 0, 3, .inl (fun _ => 0))), (q_3, .inl (cT 0, 30, .inl (fun _ => 0))), (q_4, .inl (cT 0, 3, .inl (fun _ => 0))), (q_5, .inl (cT 0, 12, .inl (fun _ => 0))), (q_6, .inl (cT 0, 3, .inl (fun _ => 0))), (q_7, .inl (cT 0, 3, .inl (fun _ => 0)))] := hD
  refine lv_aload_n hx hb dX1_init_56 rfl (lv_at hl 0 rfl) ?_
  refine lv_bipush (v := 8) hx hb dX1_init_57 (by decide) ?_
  refine va_newa (atype := .int) (ty := .int) (n := 8) (N' := 8) (a0 := (8, .inl (fun _ => 0))) hx hb (hts (.arrayClass .int) (List.mem_of_getElem? (i := 4) (by decide +kernel))) rfl hK hP hD hS hA (fun _ => rfl) (by decide) (by decide) (Nat.le_of_ble_eq_true rfl) (Nat.le_of_ble_eq_true rfl) (Nat.le_of_ble_eq_true rfl) dX1_init_59 (fun q_8 cA9 H hK hP hD hS => ?_)
  obtain rfl := ty_new hK 0 rfl
  have hK := ty_cut hK
  have hP : va_P D vwCl [(h0, .inr (1, [.null, .int 0, .int 0, .ref q_1, .ref q_2, .ref q_3, .ref q_4, .ref q_5, .ref q_6, .ref q_7, .null, .null, .int 0, .null, .null, .int 0, .int 0, .int 0])), (q_1, .inl (cT 0, 12, .inl (fun _ => 0))), (q_2, .inl (cT 0, 3, .inl (fun _ => 0))), (q_3, .inl (cT 0, 30, .inl (fun _ => 0))), (q_4, .inl (cT 0, 3, .inl (fun _ => 0))), (q_5, .inl (cT 0, 12, .inl (fun _ => 0))), (q_6, .inl (cT 0, 3, .inl (fun _ => 0))), (q_7, .inl (cT 0, 3, .inl (fun _ => 0))), (q_8, .inl (cT 0, 8, .inl (fun _ => 0)))] _ := hP
  have hD : va_D A [(h0, .inr (1, [.null, .int 0, .int 0, .ref q_1, .ref q_2, .ref q_3, .ref q_4, .ref q_5, .ref q_6, .ref q_7, .null, .null, .int 0, .null, .null, .int 0, .int 0, .int 0])), (q_1, .inl (cT 0, 12, .inl (fun _ => 0))), (q_2, .inl (cT 0, 3, .inl (fun _ => 0))), (q_3, .inl (cT 0, 30, .inl (fun _ => 0))), (q_4, .inl (cT 0, 3, .inl (fun _ => 0))), (q_5, .inl (cT 0, 12, .inl (fun _ => 0))), (q_6, .inl (cT 0, 3, .inl (fun _ => 0))), (q_7, .inl (cT 0, 3, .inl (fun _ => 0))), (q_8, .inl (cT 0, 8, .inl (fun _ => 0)))] := hD
  refine W.widen (k := 8) (n := 74) (Nat.le_of_ble_eq_true rfl) (Nat.le_of_ble_eq_true rfl) ?_
  refine va_putF (D := D) (ci := 1) (v := .ref q_8) (ty := (.array .int)) (C := RX1) (T := TX1) (N := 18) hx hb hts (fun _ h => List.mem_cons_of_mem _ (List.mem_append_right _ h)) tyX1 tyX1_ok nmX1 hown hK hP hD hS 0 rfl rfl 10 (by decide) (hts (.fieldLink RX1 33 "PuppetFilm$Floor" "standing" "[I") (List.mem_of_getElem? (i := 12) (by decide +kernel))) (fun _ h9 => h9) rfl hin rfl (by decide +kernel) rfl rfl (Nat.le_of_ble_eq_true rfl) dX1_init_61 (fun H locs hP hD hS => ?_)
  have hP : va_P D vwCl [(h0, .inr (1, [.null, .int 0, .int 0, .ref q_1, .ref q_2, .ref q_3, .ref q_4, .ref q_5, .ref q_6, .ref q_7, .ref q_8, .null, .int 0, .null, .null, .int 0, .int 0, .int 0])), (q_1, .inl (cT 0, 12, .inl (fun _ => 0))), (q_2, .inl (cT 0, 3, .inl (fun _ => 0))), (q_3, .inl (cT 0, 30, .inl (fun _ => 0))), (q_4, .inl (cT 0, 3, .inl (fun _ => 0))), (q_5, .inl (cT 0, 12, .inl (fun _ => 0))), (q_6, .inl (cT 0, 3, .inl (fun _ => 0))), (q_7, .inl (cT 0, 3, .inl (fun _ => 0))), (q_8, .inl (cT 0, 8, .inl (fun _ => 0)))] _ := hP
  have hD : va_D A [(h0, .inr (1, [.null, .int 0, .int 0, .ref q_1, .ref q_2, .ref q_3, .ref q_4, .ref q_5, .ref q_6, .ref q_7, .ref q_8, .null, .int 0, .null, .null, .int 0, .int 0, .int 0])), (q_1, .inl (cT 0, 12, .inl (fun _ => 0))), (q_2, .inl (cT 0, 3, .inl (fun _ => 0))), (q_3, .inl (cT 0, 30, .inl (fun _ => 0))), (q_4, .inl (cT 0, 3, .inl (fun _ => 0))), (q_5, .inl (cT 0, 12, .inl (fun _ => 0))), (q_6, .inl (cT 0, 3, .inl (fun _ => 0))), (q_7, .inl (cT 0, 3, .inl (fun _ => 0))), (q_8, .inl (cT 0, 8, .inl (fun _ => 0)))] := hD
  refine lv_aload_n hx hb dX1_init_64 rfl (lv_at hl 0 rfl) ?_
  refine lv_iconst (v := 3) hx hb dX1_init_65 (by decide) ?_
  refine va_newa (atype := .int) (ty := .int) (n := 3) (N' := 3) (a0 := (3, .inl (fun _ => 0))) hx hb (hts (.arrayClass .int) (List.mem_of_getElem? (i := 4) (by decide +kernel))) rfl hK hP hD hS hA (fun _ => rfl) (by decide) (by decide) (Nat.le_of_ble_eq_true rfl) (Nat.le_of_ble_eq_true rfl) (Nat.le_of_ble_eq_true rfl) dX1_init_66 (fun q_9 cA9 H hK hP hD hS => ?_)
  obtain rfl := ty_new hK 0 rfl
  have hK := ty_cut hK
  have hP : va_P D vwCl [(h0, .inr (1, [.null, .int 0, .int 0, .ref q_1, .ref q_2, .ref q_3, .ref q_4, .ref q_5, .ref q_6, .ref q_7, .ref q_8, .null, .int 0, .null, .null, .int 0, .int 0, .int 0])), (q_1, .inl (cT 0, 12, .inl (fun _ => 0))), (q_2, .inl (cT 0, 3, .inl (fun _ => 0))), (q_3, .inl (cT 0, 30, .inl (fun _ => 0))), (q_4, .inl (cT 0, 3, .inl (fun _ => 0))), (q_5, .inl (cT 0, 12, .inl (fun _ => 0))), (q_6, .inl (cT 0, 3, .inl (fun _ => 0))), (q_7, .inl (cT 0, 3, .inl (fun _ => 0))), (q_8, .inl (cT 0, 8, .inl (fun _ => 0))), (q_9, .inl (cT 0, 3, .inl (fun _ => 0)))] _ := hP
  have hD : va_D A [(h0, .inr (1, [.null, .int 0, .int 0, .ref q_1, .ref q_2, .ref q_3, .ref q_4, .ref q_5, .ref q_6, .ref q_7, .ref q_8, .null, .int 0, .null, .null, .int 0, .int 0, .int 0])), (q_1, .inl (cT 0, 12, .inl (fun _ => 0))), (q_2, .inl (cT 0, 3, .inl (fun _ => 0))), (q_3, .inl (cT 0, 30, .inl (fun _ => 0))), (q_4, .inl (cT 0, 3, .inl (fun _ => 0))), (q_5, .inl (cT 0, 12, .inl (fun _ => 0))), (q_6, .inl (cT 0, 3, .inl (fun _ => 0))), (q_7, .inl (cT 0, 3, .inl (fun _ => 0))), (q_8, .inl (cT 0, 8, .inl (fun _ => 0))), (q_9, .inl (cT 0, 3, .inl (fun _ => 0)))] := hD
  refine W.widen (k := 9) (n := 77) (Nat.le_of_ble_eq_true rfl) (Nat.le_of_ble_eq_true rfl) ?_
  refine va_putF (D := D) (ci := 1) (v := .ref q_9) (ty := (.array .int)) (C := RX1) (T := TX1) (N := 18) hx hb hts (fun _ h => List.mem_cons_of_mem _ (List.mem_append_right _ h)) tyX1 tyX1_ok nmX1 hown hK hP hD hS 0 rfl rfl 11 (by decide) (hts (.fieldLink RX1 36 "PuppetFilm$Floor" "stations" "[I") (List.mem_of_getElem? (i := 13) (by decide +kernel))) (fun _ h9 => h9) rfl hin rfl (by decide +kernel) rfl rfl (Nat.le_of_ble_eq_true rfl) dX1_init_68 (fun H locs hP hD hS => ?_)
  have hP : va_P D vwCl [(h0, .inr (1, [.null, .int 0, .int 0, .ref q_1, .ref q_2, .ref q_3, .ref q_4, .ref q_5, .ref q_6, .ref q_7, .ref q_8, .ref q_9, .int 0, .null, .null, .int 0, .int 0, .int 0])), (q_1, .inl (cT 0, 12, .inl (fun _ => 0))), (q_2, .inl (cT 0, 3, .inl (fun _ => 0))), (q_3, .inl (cT 0, 30, .inl (fun _ => 0))), (q_4, .inl (cT 0, 3, .inl (fun _ => 0))), (q_5, .inl (cT 0, 12, .inl (fun _ => 0))), (q_6, .inl (cT 0, 3, .inl (fun _ => 0))), (q_7, .inl (cT 0, 3, .inl (fun _ => 0))), (q_8, .inl (cT 0, 8, .inl (fun _ => 0))), (q_9, .inl (cT 0, 3, .inl (fun _ => 0)))] _ := hP
  have hD : va_D A [(h0, .inr (1, [.null, .int 0, .int 0, .ref q_1, .ref q_2, .ref q_3, .ref q_4, .ref q_5, .ref q_6, .ref q_7, .ref q_8, .ref q_9, .int 0, .null, .null, .int 0, .int 0, .int 0])), (q_1, .inl (cT 0, 12, .inl (fun _ => 0))), (q_2, .inl (cT 0, 3, .inl (fun _ => 0))), (q_3, .inl (cT 0, 30, .inl (fun _ => 0))), (q_4, .inl (cT 0, 3, .inl (fun _ => 0))), (q_5, .inl (cT 0, 12, .inl (fun _ => 0))), (q_6, .inl (cT 0, 3, .inl (fun _ => 0))), (q_7, .inl (cT 0, 3, .inl (fun _ => 0))), (q_8, .inl (cT 0, 8, .inl (fun _ => 0))), (q_9, .inl (cT 0, 3, .inl (fun _ => 0)))] := hD
  refine lv_aload_n hx hb dX1_init_71 rfl (lv_at hl 0 rfl) ?_
  refine lv_bipush (v := 6) hx hb dX1_init_72 (by decide) ?_
  refine va_newa (atype := .int) (ty := .int) (n := 6) (N' := 6) (a0 := (6, .inl (fun _ => 0))) hx hb (hts (.arrayClass .int) (List.mem_of_getElem? (i := 4) (by decide +kernel))) rfl hK hP hD hS hA (fun _ => rfl) (by decide) (by decide) (Nat.le_of_ble_eq_true rfl) (Nat.le_of_ble_eq_true rfl) (Nat.le_of_ble_eq_true rfl) dX1_init_74 (fun q_10 cA9 H hK hP hD hS => ?_)
  obtain rfl := ty_new hK 0 rfl
  have hK := ty_cut hK
  have hP : va_P D vwCl [(h0, .inr (1, [.null, .int 0, .int 0, .ref q_1, .ref q_2, .ref q_3, .ref q_4, .ref q_5, .ref q_6, .ref q_7, .ref q_8, .ref q_9, .int 0, .null, .null, .int 0, .int 0, .int 0])), (q_1, .inl (cT 0, 12, .inl (fun _ => 0))), (q_2, .inl (cT 0, 3, .inl (fun _ => 0))), (q_3, .inl (cT 0, 30, .inl (fun _ => 0))), (q_4, .inl (cT 0, 3, .inl (fun _ => 0))), (q_5, .inl (cT 0, 12, .inl (fun _ => 0))), (q_6, .inl (cT 0, 3, .inl (fun _ => 0))), (q_7, .inl (cT 0, 3, .inl (fun _ => 0))), (q_8, .inl (cT 0, 8, .inl (fun _ => 0))), (q_9, .inl (cT 0, 3, .inl (fun _ => 0))), (q_10, .inl (cT 0, 6, .inl (fun _ => 0)))] _ := hP
  have hD : va_D A [(h0, .inr (1, [.null, .int 0, .int 0, .ref q_1, .ref q_2, .ref q_3, .ref q_4, .ref q_5, .ref q_6, .ref q_7, .ref q_8, .ref q_9, .int 0, .null, .null, .int 0, .int 0, .int 0])), (q_1, .inl (cT 0, 12, .inl (fun _ => 0))), (q_2, .inl (cT 0, 3, .inl (fun _ => 0))), (q_3, .inl (cT 0, 30, .inl (fun _ => 0))), (q_4, .inl (cT 0, 3, .inl (fun _ => 0))), (q_5, .inl (cT 0, 12, .inl (fun _ => 0))), (q_6, .inl (cT 0, 3, .inl (fun _ => 0))), (q_7, .inl (cT 0, 3, .inl (fun _ => 0))), (q_8, .inl (cT 0, 8, .inl (fun _ => 0))), (q_9, .inl (cT 0, 3, .inl (fun _ => 0))), (q_10, .inl (cT 0, 6, .inl (fun _ => 0)))] := hD
  refine W.widen (k := 10) (n := 83) (Nat.le_of_ble_eq_true rfl) (Nat.le_of_ble_eq_true rfl) ?_
  refine va_putF (D := D) (ci := 1) (v := .ref q_10) (ty := (.array .int)) (C := RX1) (T := TX1) (N := 18) hx hb hts (fun _ h => List.mem_cons_of_mem _ (List.mem_append_right _ h)) tyX1 tyX1_ok nmX1 hown hK hP hD hS 0 rfl rfl 13 (by decide) (hts (.fieldLink RX1 39 "PuppetFilm$Floor" "limits" "[I") (List.mem_of_getElem? (i := 14) (by decide +kernel))) (fun _ h9 => h9) rfl hin rfl (by decide +kernel) rfl rfl (Nat.le_of_ble_eq_true rfl) dX1_init_76 (fun H locs hP hD hS => ?_)
  have hP : va_P D vwCl [(h0, .inr (1, [.null, .int 0, .int 0, .ref q_1, .ref q_2, .ref q_3, .ref q_4, .ref q_5, .ref q_6, .ref q_7, .ref q_8, .ref q_9, .int 0, .ref q_10, .null, .int 0, .int 0, .int 0])), (q_1, .inl (cT 0, 12, .inl (fun _ => 0))), (q_2, .inl (cT 0, 3, .inl (fun _ => 0))), (q_3, .inl (cT 0, 30, .inl (fun _ => 0))), (q_4, .inl (cT 0, 3, .inl (fun _ => 0))), (q_5, .inl (cT 0, 12, .inl (fun _ => 0))), (q_6, .inl (cT 0, 3, .inl (fun _ => 0))), (q_7, .inl (cT 0, 3, .inl (fun _ => 0))), (q_8, .inl (cT 0, 8, .inl (fun _ => 0))), (q_9, .inl (cT 0, 3, .inl (fun _ => 0))), (q_10, .inl (cT 0, 6, .inl (fun _ => 0)))] _ := hP
  have hD : va_D A [(h0, .inr (1, [.null, .int 0, .int 0, .ref q_1, .ref q_2, .ref q_3, .ref q_4, .ref q_5, .ref q_6, .ref q_7, .ref q_8, .ref q_9, .int 0, .ref q_10, .null, .int 0, .int 0, .int 0])), (q_1, .inl (cT 0, 12, .inl (fun _ => 0))), (q_2, .inl (cT 0, 3, .inl (fun _ => 0))), (q_3, .inl (cT 0, 30, .inl (fun _ => 0))), (q_4, .inl (cT 0, 3, .inl (fun _ => 0))), (q_5, .inl (cT 0, 12, .inl (fun _ => 0))), (q_6, .inl (cT 0, 3, .inl (fun _ => 0))), (q_7, .inl (cT 0, 3, .inl (fun _ => 0))), (q_8, .inl (cT 0, 8, .inl (fun _ => 0))), (q_9, .inl (cT 0, 3, .inl (fun _ => 0))), (q_10, .inl (cT 0, 6, .inl (fun _ => 0)))] := hD
  refine lv_aload_n hx hb dX1_init_79 rfl (lv_at hl 0 rfl) ?_
  refine lv_bipush (v := 6) hx hb dX1_init_80 (by decide) ?_
  refine va_newa (atype := .int) (ty := .int) (n := 6) (N' := 6) (a0 := (6, .inl (fun _ => 0))) hx hb (hts (.arrayClass .int) (List.mem_of_getElem? (i := 4) (by decide +kernel))) rfl hK hP hD hS hA (fun _ => rfl) (by decide) (by decide) (Nat.le_of_ble_eq_true rfl) (Nat.le_of_ble_eq_true rfl) (Nat.le_of_ble_eq_true rfl) dX1_init_82 (fun q_11 cA9 H hK hP hD hS => ?_)
  obtain rfl := ty_new hK 0 rfl
  have hK := ty_cut hK
  have hP : va_P D vwCl [(h0, .inr (1, [.null, .int 0, .int 0, .ref q_1, .ref q_2, .ref q_3, .ref q_4, .ref q_5, .ref q_6, .ref q_7, .ref q_8, .ref q_9, .int 0, .ref q_10, .null, .int 0, .int 0, .int 0])), (q_1, .inl (cT 0, 12, .inl (fun _ => 0))), (q_2, .inl (cT 0, 3, .inl (fun _ => 0))), (q_3, .inl (cT 0, 30, .inl (fun _ => 0))), (q_4, .inl (cT 0, 3, .inl (fun _ => 0))), (q_5, .inl (cT 0, 12, .inl (fun _ => 0))), (q_6, .inl (cT 0, 3, .inl (fun _ => 0))), (q_7, .inl (cT 0, 3, .inl (fun _ => 0))), (q_8, .inl (cT 0, 8, .inl (fun _ => 0))), (q_9, .inl (cT 0, 3, .inl (fun _ => 0))), (q_10, .inl (cT 0, 6, .inl (fun _ => 0))), (q_11, .inl (cT 0, 6, .inl (fun _ => 0)))] _ := hP
  have hD : va_D A [(h0, .inr (1, [.null, .int 0, .int 0, .ref q_1, .ref q_2, .ref q_3, .ref q_4, .ref q_5, .ref q_6, .ref q_7, .ref q_8, .ref q_9, .int 0, .ref q_10, .null, .int 0, .int 0, .int 0])), (q_1, .inl (cT 0, 12, .inl (fun _ => 0))), (q_2, .inl (cT 0, 3, .inl (fun _ => 0))), (q_3, .inl (cT 0, 30, .inl (fun _ => 0))), (q_4, .inl (cT 0, 3, .inl (fun _ => 0))), (q_5, .inl (cT 0, 12, .inl (fun _ => 0))), (q_6, .inl (cT 0, 3, .inl (fun _ => 0))), (q_7, .inl (cT 0, 3, .inl (fun _ => 0))), (q_8, .inl (cT 0, 8, .inl (fun _ => 0))), (q_9, .inl (cT 0, 3, .inl (fun _ => 0))), (q_10, .inl (cT 0, 6, .inl (fun _ => 0))), (q_11, .inl (cT 0, 6, .inl (fun _ => 0)))] := hD
  refine W.widen (k := 11) (n := 89) (Nat.le_of_ble_eq_true rfl) (Nat.le_of_ble_eq_true rfl) ?_
  refine va_putF (D := D) (ci := 1) (v := .ref q_11) (ty := (.array .int)) (C := RX1) (T := TX1) (N := 18) hx hb hts (fun _ h => List.mem_cons_of_mem _ (List.mem_append_right _ h)) tyX1 tyX1_ok nmX1 hown hK hP hD hS 0 rfl rfl 14 (by decide) (hts (.fieldLink RX1 42 "PuppetFilm$Floor" "worked" "[I") (List.mem_of_getElem? (i := 15) (by decide +kernel))) (fun _ h9 => h9) rfl hin rfl (by decide +kernel) rfl rfl (Nat.le_of_ble_eq_true rfl) dX1_init_84 (fun H locs hP hD hS => ?_)
  have hP : va_P D vwCl [(h0, .inr (1, [.null, .int 0, .int 0, .ref q_1, .ref q_2, .ref q_3, .ref q_4, .ref q_5, .ref q_6, .ref q_7, .ref q_8, .ref q_9, .int 0, .ref q_10, .ref q_11, .int 0, .int 0, .int 0])), (q_1, .inl (cT 0, 12, .inl (fun _ => 0))), (q_2, .inl (cT 0, 3, .inl (fun _ => 0))), (q_3, .inl (cT 0, 30, .inl (fun _ => 0))), (q_4, .inl (cT 0, 3, .inl (fun _ => 0))), (q_5, .inl (cT 0, 12, .inl (fun _ => 0))), (q_6, .inl (cT 0, 3, .inl (fun _ => 0))), (q_7, .inl (cT 0, 3, .inl (fun _ => 0))), (q_8, .inl (cT 0, 8, .inl (fun _ => 0))), (q_9, .inl (cT 0, 3, .inl (fun _ => 0))), (q_10, .inl (cT 0, 6, .inl (fun _ => 0))), (q_11, .inl (cT 0, 6, .inl (fun _ => 0)))] _ := hP
  have hD : va_D A [(h0, .inr (1, [.null, .int 0, .int 0, .ref q_1, .ref q_2, .ref q_3, .ref q_4, .ref q_5, .ref q_6, .ref q_7, .ref q_8, .ref q_9, .int 0, .ref q_10, .ref q_11, .int 0, .int 0, .int 0])), (q_1, .inl (cT 0, 12, .inl (fun _ => 0))), (q_2, .inl (cT 0, 3, .inl (fun _ => 0))), (q_3, .inl (cT 0, 30, .inl (fun _ => 0))), (q_4, .inl (cT 0, 3, .inl (fun _ => 0))), (q_5, .inl (cT 0, 12, .inl (fun _ => 0))), (q_6, .inl (cT 0, 3, .inl (fun _ => 0))), (q_7, .inl (cT 0, 3, .inl (fun _ => 0))), (q_8, .inl (cT 0, 8, .inl (fun _ => 0))), (q_9, .inl (cT 0, 3, .inl (fun _ => 0))), (q_10, .inl (cT 0, 6, .inl (fun _ => 0))), (q_11, .inl (cT 0, 6, .inl (fun _ => 0)))] := hD
  refine lv_aload_n hx hb dX1_init_87 rfl (lv_at hl 0 rfl) ?_
  refine lv_aload_n hx hb dX1_init_88 rfl (lv_at hl 1 rfl) ?_
  refine va_putF (D := D) (ci := 1) (v := .ref st) (ty := (.object "PuppetFilm$Studio")) (C := RX1) (T := TX1) (N := 18) hx hb hts (fun _ h => List.mem_cons_of_mem _ (List.mem_append_right _ h)) tyX1 tyX1_ok nmX1 hown hK hP hD hS 0 rfl rfl 0 (by decide) (hts (.fieldLink RX1 45 "PuppetFilm$Floor" "studio" "LPuppetFilm$Studio;") (List.mem_of_getElem? (i := 16) (by decide +kernel))) (fun _ h9 => h9) rfl hin rfl (by decide +kernel) rfl rfl (Nat.le_of_ble_eq_true rfl) dX1_init_89 (fun H locs hP hD hS => ?_)
  have hP : va_P D vwCl [(h0, .inr (1, [.ref st, .int 0, .int 0, .ref q_1, .ref q_2, .ref q_3, .ref q_4, .ref q_5, .ref q_6, .ref q_7, .ref q_8, .ref q_9, .int 0, .ref q_10, .ref q_11, .int 0, .int 0, .int 0])), (q_1, .inl (cT 0, 12, .inl (fun _ => 0))), (q_2, .inl (cT 0, 3, .inl (fun _ => 0))), (q_3, .inl (cT 0, 30, .inl (fun _ => 0))), (q_4, .inl (cT 0, 3, .inl (fun _ => 0))), (q_5, .inl (cT 0, 12, .inl (fun _ => 0))), (q_6, .inl (cT 0, 3, .inl (fun _ => 0))), (q_7, .inl (cT 0, 3, .inl (fun _ => 0))), (q_8, .inl (cT 0, 8, .inl (fun _ => 0))), (q_9, .inl (cT 0, 3, .inl (fun _ => 0))), (q_10, .inl (cT 0, 6, .inl (fun _ => 0))), (q_11, .inl (cT 0, 6, .inl (fun _ => 0)))] _ := hP
  have hD : va_D A [(h0, .inr (1, [.ref st, .int 0, .int 0, .ref q_1, .ref q_2, .ref q_3, .ref q_4, .ref q_5, .ref q_6, .ref q_7, .ref q_8, .ref q_9, .int 0, .ref q_10, .ref q_11, .int 0, .int 0, .int 0])), (q_1, .inl (cT 0, 12, .inl (fun _ => 0))), (q_2, .inl (cT 0, 3, .inl (fun _ => 0))), (q_3, .inl (cT 0, 30, .inl (fun _ => 0))), (q_4, .inl (cT 0, 3, .inl (fun _ => 0))), (q_5, .inl (cT 0, 12, .inl (fun _ => 0))), (q_6, .inl (cT 0, 3, .inl (fun _ => 0))), (q_7, .inl (cT 0, 3, .inl (fun _ => 0))), (q_8, .inl (cT 0, 8, .inl (fun _ => 0))), (q_9, .inl (cT 0, 3, .inl (fun _ => 0))), (q_10, .inl (cT 0, 6, .inl (fun _ => 0))), (q_11, .inl (cT 0, 6, .inl (fun _ => 0)))] := hD
  refine lv_aload_n hx hb dX1_init_92 rfl (lv_at hl 0 rfl) ?_
  refine lv_iload_n hx hb dX1_init_93 rfl (lv_at hl 2 rfl) ?_
  refine va_putF (D := D) (ci := 1) (v := .int 1) (ty := .boolean) (C := RX1) (T := TX1) (N := 18) hx hb hts (fun _ h => List.mem_cons_of_mem _ (List.mem_append_right _ h)) tyX1 tyX1_ok nmX1 hown hK hP hD hS 0 rfl rfl 1 (by decide) (hts (.fieldLink RX1 49 "PuppetFilm$Floor" "real" "Z") (List.mem_of_getElem? (i := 17) (by decide +kernel))) (fun _ h9 => h9) rfl hin rfl (by decide +kernel) rfl rfl (Nat.le_of_ble_eq_true rfl) dX1_init_94 (fun H locs hP hD hS => ?_)
  have hP : va_P D vwCl [(h0, .inr (1, [.ref st, .int 1, .int 0, .ref q_1, .ref q_2, .ref q_3, .ref q_4, .ref q_5, .ref q_6, .ref q_7, .ref q_8, .ref q_9, .int 0, .ref q_10, .ref q_11, .int 0, .int 0, .int 0])), (q_1, .inl (cT 0, 12, .inl (fun _ => 0))), (q_2, .inl (cT 0, 3, .inl (fun _ => 0))), (q_3, .inl (cT 0, 30, .inl (fun _ => 0))), (q_4, .inl (cT 0, 3, .inl (fun _ => 0))), (q_5, .inl (cT 0, 12, .inl (fun _ => 0))), (q_6, .inl (cT 0, 3, .inl (fun _ => 0))), (q_7, .inl (cT 0, 3, .inl (fun _ => 0))), (q_8, .inl (cT 0, 8, .inl (fun _ => 0))), (q_9, .inl (cT 0, 3, .inl (fun _ => 0))), (q_10, .inl (cT 0, 6, .inl (fun _ => 0))), (q_11, .inl (cT 0, 6, .inl (fun _ => 0)))] _ := hP
  have hD : va_D A [(h0, .inr (1, [.ref st, .int 1, .int 0, .ref q_1, .ref q_2, .ref q_3, .ref q_4, .ref q_5, .ref q_6, .ref q_7, .ref q_8, .ref q_9, .int 0, .ref q_10, .ref q_11, .int 0, .int 0, .int 0])), (q_1, .inl (cT 0, 12, .inl (fun _ => 0))), (q_2, .inl (cT 0, 3, .inl (fun _ => 0))), (q_3, .inl (cT 0, 30, .inl (fun _ => 0))), (q_4, .inl (cT 0, 3, .inl (fun _ => 0))), (q_5, .inl (cT 0, 12, .inl (fun _ => 0))), (q_6, .inl (cT 0, 3, .inl (fun _ => 0))), (q_7, .inl (cT 0, 3, .inl (fun _ => 0))), (q_8, .inl (cT 0, 8, .inl (fun _ => 0))), (q_9, .inl (cT 0, 3, .inl (fun _ => 0))), (q_10, .inl (cT 0, 6, .inl (fun _ => 0))), (q_11, .inl (cT 0, 6, .inl (fun _ => 0)))] := hD
  refine lv_aload_n hx hb dX1_init_97 rfl (lv_at hl 0 rfl) ?_
  refine va_get (D := D) (ci := 1) (v := .ref q_2) (C := RX1) (T := TX1) (N := 18) hx hb hts (fun _ h => List.mem_cons_of_mem _ (List.mem_append_right _ h)) hown hK hP 0 rfl rfl 4 (by decide) (hts (.fieldLink RX1 15 "PuppetFilm$Floor" "on" "[I") (List.mem_of_getElem? (i := 6) (by decide +kernel))) (fun _ h9 => h9) rfl dX1_init_98 ?_
  refine lv_iconst (v := (-1)) hx hb dX1_init_101 (by decide) ?_
  have hF := va_free (wc := [(q_2, .inl (cT 0, 3, .inl (fun _ => 0)))]) hD hS hA [2] rfl
  refine va_callv (va_runS (As := [.ref q_2, .int (-1)]) (rest := []) ⟨hx, hb, hml, hown, hts⟩ (c_fill_3 l D cT q_2 (fun _ => 0) (-1) _ ) (va_cwS 2 hts gX1_init_J7_fill_53178 rfl rfl rfl (by decide +kernel) ⟨Nat.le_of_ble_eq_true rfl, Nat.le_of_ble_eq_true rfl⟩) (ps_w hP hD hK hG [2] rfl rfl rfl) rfl rfl hl.1 rfl (lv_room (Nat.le_of_ble_eq_true rfl)) dX1_init_102 ⟨Nat.le_of_ble_eq_true rfl, Nat.le_of_ble_eq_true rfl⟩) hS (fun q _ h => hF q h) hF (fun uu9 tt9 H locs ht hvm wr_12 hB hz1 hk1 hS => ?_)
  obtain ⟨hP1, hD1⟩ := hB
  rw [ht] at hP1
  obtain ⟨hP, hD⟩ := va_join (wr := [(h0, .inr (1, [.ref st, .int 1, .int 0, .ref q_1, .ref q_2, .ref q_3, .ref q_4, .ref q_5, .ref q_6, .ref q_7, .ref q_8, .ref q_9, .int 0, .ref q_10, .ref q_11, .int 0, .int 0, .int 0])), (q_1, .inl (cT 0, 12, .inl (fun _ => 0))), (q_3, .inl (cT 0, 30, .inl (fun _ => 0))), (q_4, .inl (cT 0, 3, .inl (fun _ => 0))), (q_5, .inl (cT 0, 12, .inl (fun _ => 0))), (q_6, .inl (cT 0, 3, .inl (fun _ => 0))), (q_7, .inl (cT 0, 3, .inl (fun _ => 0))), (q_8, .inl (cT 0, 8, .inl (fun _ => 0))), (q_9, .inl (cT 0, 3, .inl (fun _ => 0))), (q_10, .inl (cT 0, 6, .inl (fun _ => 0))), (q_11, .inl (cT 0, 6, .inl (fun _ => 0)))]) (w1 := [(q_2, .inl (cT 0, 3, .inl (upd (upd (upd (fun _ => 0) 0 (-1)) 1 (-1)) 2 (-1))))]) hP hD [2] [0, 1, 3, 4, 5, 6, 7, 8, 9, 10, 11] rfl rfl (by decide) (by decide) hk1 hF hP1 hD1
  have hP : va_P D vwCl [(h0, .inr (1, [.ref st, .int 1, .int 0, .ref q_1, .ref q_2, .ref q_3, .ref q_4, .ref q_5, .ref q_6, .ref q_7, .ref q_8, .ref q_9, .int 0, .ref q_10, .ref q_11, .int 0, .int 0, .int 0])), (q_1, .inl (cT 0, 12, .inl (fun _ => 0))), (q_3, .inl (cT 0, 30, .inl (fun _ => 0))), (q_4, .inl (cT 0, 3, .inl (fun _ => 0))), (q_5, .inl (cT 0, 12, .inl (fun _ => 0))), (q_6, .inl (cT 0, 3, .inl (fun _ => 0))), (q_7, .inl (cT 0, 3, .inl (fun _ => 0))), (q_8, .inl (cT 0, 8, .inl (fun _ => 0))), (q_9, .inl (cT 0, 3, .inl (fun _ => 0))), (q_10, .inl (cT 0, 6, .inl (fun _ => 0))), (q_11, .inl (cT 0, 6, .inl (fun _ => 0))), (q_2, .inl (cT 0, 3, .inl (upd (upd (upd (fun _ => 0) 0 (-1)) 1 (-1)) 2 (-1))))] _ := hP
  have hD : va_D A [(h0, .inr (1, [.ref st, .int 1, .int 0, .ref q_1, .ref q_2, .ref q_3, .ref q_4, .ref q_5, .ref q_6, .ref q_7, .ref q_8, .ref q_9, .int 0, .ref q_10, .ref q_11, .int 0, .int 0, .int 0])), (q_1, .inl (cT 0, 12, .inl (fun _ => 0))), (q_3, .inl (cT 0, 30, .inl (fun _ => 0))), (q_4, .inl (cT 0, 3, .inl (fun _ => 0))), (q_5, .inl (cT 0, 12, .inl (fun _ => 0))), (q_6, .inl (cT 0, 3, .inl (fun _ => 0))), (q_7, .inl (cT 0, 3, .inl (fun _ => 0))), (q_8, .inl (cT 0, 8, .inl (fun _ => 0))), (q_9, .inl (cT 0, 3, .inl (fun _ => 0))), (q_10, .inl (cT 0, 6, .inl (fun _ => 0))), (q_11, .inl (cT 0, 6, .inl (fun _ => 0))), (q_2, .inl (cT 0, 3, .inl (upd (upd (upd (fun _ => 0) 0 (-1)) 1 (-1)) 2 (-1))))] := hD
  refine lv_aload_n hx hb dX1_init_105 rfl (lv_at hl 0 rfl) ?_
  refine va_get (D := D) (ci := 1) (v := .ref q_6) (C := RX1) (T := TX1) (N := 18) hx hb hts (fun _ h => List.mem_cons_of_mem _ (List.mem_append_right _ h)) hown hK hP 0 rfl rfl 8 (by decide) (hts (.fieldLink RX1 27 "PuppetFilm$Floor" "dressing" "[I") (List.mem_of_getElem? (i := 10) (by decide +kernel))) (fun _ h9 => h9) rfl dX1_init_106 ?_
  refine lv_iconst (v := (-1)) hx hb dX1_init_109 (by decide) ?_
  have hF := va_free (wc := [(q_6, .inl (cT 0, 3, .inl (fun _ => 0)))]) hD hS hA [5] rfl
  refine va_callv (va_runS (As := [.ref q_6, .int (-1)]) (rest := []) ⟨hx, hb, hml, hown, hts⟩ (c_fill_3 l D cT q_6 (fun _ => 0) (-1) _ ) (va_cwS 2 hts gX1_init_J7_fill_53178 rfl rfl rfl (by decide +kernel) ⟨Nat.le_of_ble_eq_true rfl, Nat.le_of_ble_eq_true rfl⟩) (ps_w hP hD hK hG [5] rfl rfl rfl) rfl rfl hl.1 rfl (lv_room (Nat.le_of_ble_eq_true rfl)) dX1_init_110 ⟨Nat.le_of_ble_eq_true rfl, Nat.le_of_ble_eq_true rfl⟩) hS (fun q _ h => hF q h) hF (fun uu9 tt9 H locs ht hvm wr_13 hB hz1 hk1 hS => ?_)
  obtain ⟨hP1, hD1⟩ := hB
  rw [ht] at hP1
  obtain ⟨hP, hD⟩ := va_join (wr := [(h0, .inr (1, [.ref st, .int 1, .int 0, .ref q_1, .ref q_2, .ref q_3, .ref q_4, .ref q_5, .ref q_6, .ref q_7, .ref q_8, .ref q_9, .int 0, .ref q_10, .ref q_11, .int 0, .int 0, .int 0])), (q_1, .inl (cT 0, 12, .inl (fun _ => 0))), (q_3, .inl (cT 0, 30, .inl (fun _ => 0))), (q_4, .inl (cT 0, 3, .inl (fun _ => 0))), (q_5, .inl (cT 0, 12, .inl (fun _ => 0))), (q_7, .inl (cT 0, 3, .inl (fun _ => 0))), (q_8, .inl (cT 0, 8, .inl (fun _ => 0))), (q_9, .inl (cT 0, 3, .inl (fun _ => 0))), (q_10, .inl (cT 0, 6, .inl (fun _ => 0))), (q_11, .inl (cT 0, 6, .inl (fun _ => 0))), (q_2, .inl (cT 0, 3, .inl (upd (upd (upd (fun _ => 0) 0 (-1)) 1 (-1)) 2 (-1))))]) (w1 := [(q_6, .inl (cT 0, 3, .inl (upd (upd (upd (fun _ => 0) 0 (-1)) 1 (-1)) 2 (-1))))]) hP hD [5] [0, 1, 2, 3, 4, 6, 7, 8, 9, 10, 11] rfl rfl (by decide) (by decide) hk1 hF hP1 hD1
  have hP : va_P D vwCl [(h0, .inr (1, [.ref st, .int 1, .int 0, .ref q_1, .ref q_2, .ref q_3, .ref q_4, .ref q_5, .ref q_6, .ref q_7, .ref q_8, .ref q_9, .int 0, .ref q_10, .ref q_11, .int 0, .int 0, .int 0])), (q_1, .inl (cT 0, 12, .inl (fun _ => 0))), (q_3, .inl (cT 0, 30, .inl (fun _ => 0))), (q_4, .inl (cT 0, 3, .inl (fun _ => 0))), (q_5, .inl (cT 0, 12, .inl (fun _ => 0))), (q_7, .inl (cT 0, 3, .inl (fun _ => 0))), (q_8, .inl (cT 0, 8, .inl (fun _ => 0))), (q_9, .inl (cT 0, 3, .inl (fun _ => 0))), (q_10, .inl (cT 0, 6, .inl (fun _ => 0))), (q_11, .inl (cT 0, 6, .inl (fun _ => 0))), (q_2, .inl (cT 0, 3, .inl (upd (upd (upd (fun _ => 0) 0 (-1)) 1 (-1)) 2 (-1)))), (q_6, .inl (cT 0, 3, .inl (upd (upd (upd (fun _ => 0) 0 (-1)) 1 (-1)) 2 (-1))))] _ := hP
  have hD : va_D A [(h0, .inr (1, [.ref st, .int 1, .int 0, .ref q_1, .ref q_2, .ref q_3, .ref q_4, .ref q_5, .ref q_6, .ref q_7, .ref q_8, .ref q_9, .int 0, .ref q_10, .ref q_11, .int 0, .int 0, .int 0])), (q_1, .inl (cT 0, 12, .inl (fun _ => 0))), (q_3, .inl (cT 0, 30, .inl (fun _ => 0))), (q_4, .inl (cT 0, 3, .inl (fun _ => 0))), (q_5, .inl (cT 0, 12, .inl (fun _ => 0))), (q_7, .inl (cT 0, 3, .inl (fun _ => 0))), (q_8, .inl (cT 0, 8, .inl (fun _ => 0))), (q_9, .inl (cT 0, 3, .inl (fun _ => 0))), (q_10, .inl (cT 0, 6, .inl (fun _ => 0))), (q_11, .inl (cT 0, 6, .inl (fun _ => 0))), (q_2, .inl (cT 0, 3, .inl (upd (upd (upd (fun _ => 0) 0 (-1)) 1 (-1)) 2 (-1)))), (q_6, .inl (cT 0, 3, .inl (upd (upd (upd (fun _ => 0) 0 (-1)) 1 (-1)) 2 (-1))))] := hD
  refine lv_aload_n hx hb dX1_init_113 rfl (lv_at hl 0 rfl) ?_
  refine va_get (D := D) (ci := 1) (v := .ref q_8) (C := RX1) (T := TX1) (N := 18) hx hb hts (fun _ h => List.mem_cons_of_mem _ (List.mem_append_right _ h)) hown hK hP 0 rfl rfl 10 (by decide) (hts (.fieldLink RX1 33 "PuppetFilm$Floor" "standing" "[I") (List.mem_of_getElem? (i := 12) (by decide +kernel))) (fun _ h9 => h9) rfl dX1_init_114 ?_
  refine lv_iconst (v := (-1)) hx hb dX1_init_117 (by decide) ?_
  have hF := va_free (wc := [(q_8, .inl (cT 0, 8, .inl (fun _ => 0)))]) hD hS hA [6] rfl
  refine va_callv (va_runS (As := [.ref q_8, .int (-1)]) (rest := []) ⟨hx, hb, hml, hown, hts⟩ (c_fill_8 l D cT q_8 (fun _ => 0) (-1) _ ) (va_cwS 2 hts gX1_init_J7_fill_53178 rfl rfl rfl (by decide +kernel) ⟨Nat.le_of_ble_eq_true rfl, Nat.le_of_ble_eq_true rfl⟩) (ps_w hP hD hK hG [6] rfl rfl rfl) rfl rfl hl.1 rfl (lv_room (Nat.le_of_ble_eq_true rfl)) dX1_init_118 ⟨Nat.le_of_ble_eq_true rfl, Nat.le_of_ble_eq_true rfl⟩) hS (fun q _ h => hF q h) hF (fun uu9 tt9 H locs ht hvm wr_14 hB hz1 hk1 hS => ?_)
  obtain ⟨hP1, hD1⟩ := hB
  rw [ht] at hP1
  obtain ⟨hP, hD⟩ := va_join (wr := [(h0, .inr (1, [.ref st, .int 1, .int 0, .ref q_1, .ref q_2, .ref q_3, .ref q_4, .ref q_5, .ref q_6, .ref q_7, .ref q_8, .ref q_9, .int 0, .ref q_10, .ref q_11, .int 0, .int 0, .int 0])), (q_1, .inl (cT 0, 12, .inl (fun _ => 0))), (q_3, .inl (cT 0, 30, .inl (fun _ => 0))), (q_4, .inl (cT 0, 3, .inl (fun _ => 0))), (q_5, .inl (cT 0, 12, .inl (fun _ => 0))), (q_7, .inl (cT 0, 3, .inl (fun _ => 0))), (q_9, .inl (cT 0, 3, .inl (fun _ => 0))), (q_10, .inl (cT 0, 6, .inl (fun _ => 0))), (q_11, .inl (cT 0, 6, .inl (fun _ => 0))), (q_2, .inl (cT 0, 3, .inl (upd (upd (upd (fun _ => 0) 0 (-1)) 1 (-1)) 2 (-1)))), (q_6, .inl (cT 0, 3, .inl (upd (upd (upd (fun _ => 0) 0 (-1)) 1 (-1)) 2 (-1))))]) (w1 := [(q_8, .inl (cT 0, 8, .inl (upd (upd (upd (upd (upd (upd (upd (upd (fun _ => 0) 0 (-1)) 1 (-1)) 2 (-1)) 3 (-1)) 4 (-1)) 5 (-1)) 6 (-1)) 7 (-1))))]) hP hD [6] [0, 1, 2, 3, 4, 5, 7, 8, 9, 10, 11] rfl rfl (by decide) (by decide) hk1 hF hP1 hD1
  have hP : va_P D vwCl [(h0, .inr (1, [.ref st, .int 1, .int 0, .ref q_1, .ref q_2, .ref q_3, .ref q_4, .ref q_5, .ref q_6, .ref q_7, .ref q_8, .ref q_9, .int 0, .ref q_10, .ref q_11, .int 0, .int 0, .int 0])), (q_1, .inl (cT 0, 12, .inl (fun _ => 0))), (q_3, .inl (cT 0, 30, .inl (fun _ => 0))), (q_4, .inl (cT 0, 3, .inl (fun _ => 0))), (q_5, .inl (cT 0, 12, .inl (fun _ => 0))), (q_7, .inl (cT 0, 3, .inl (fun _ => 0))), (q_9, .inl (cT 0, 3, .inl (fun _ => 0))), (q_10, .inl (cT 0, 6, .inl (fun _ => 0))), (q_11, .inl (cT 0, 6, .inl (fun _ => 0))), (q_2, .inl (cT 0, 3, .inl (upd (upd (upd (fun _ => 0) 0 (-1)) 1 (-1)) 2 (-1)))), (q_6, .inl (cT 0, 3, .inl (upd (upd (upd (fun _ => 0) 0 (-1)) 1 (-1)) 2 (-1)))), (q_8, .inl (cT 0, 8, .inl (upd (upd (upd (upd (upd (upd (upd (upd (fun _ => 0) 0 (-1)) 1 (-1)) 2 (-1)) 3 (-1)) 4 (-1)) 5 (-1)) 6 (-1)) 7 (-1))))] _ := hP
  have hD : va_D A [(h0, .inr (1, [.ref st, .int 1, .int 0, .ref q_1, .ref q_2, .ref q_3, .ref q_4, .ref q_5, .ref q_6, .ref q_7, .ref q_8, .ref q_9, .int 0, .ref q_10, .ref q_11, .int 0, .int 0, .int 0])), (q_1, .inl (cT 0, 12, .inl (fun _ => 0))), (q_3, .inl (cT 0, 30, .inl (fun _ => 0))), (q_4, .inl (cT 0, 3, .inl (fun _ => 0))), (q_5, .inl (cT 0, 12, .inl (fun _ => 0))), (q_7, .inl (cT 0, 3, .inl (fun _ => 0))), (q_9, .inl (cT 0, 3, .inl (fun _ => 0))), (q_10, .inl (cT 0, 6, .inl (fun _ => 0))), (q_11, .inl (cT 0, 6, .inl (fun _ => 0))), (q_2, .inl (cT 0, 3, .inl (upd (upd (upd (fun _ => 0) 0 (-1)) 1 (-1)) 2 (-1)))), (q_6, .inl (cT 0, 3, .inl (upd (upd (upd (fun _ => 0) 0 (-1)) 1 (-1)) 2 (-1)))), (q_8, .inl (cT 0, 8, .inl (upd (upd (upd (upd (upd (upd (upd (upd (fun _ => 0) 0 (-1)) 1 (-1)) 2 (-1)) 3 (-1)) 4 (-1)) 5 (-1)) 6 (-1)) 7 (-1))))] := hD
  refine lv_aload_n hx hb dX1_init_121 rfl (lv_at hl 0 rfl) ?_
  refine va_get (D := D) (ci := 1) (v := .ref q_9) (C := RX1) (T := TX1) (N := 18) hx hb hts (fun _ h => List.mem_cons_of_mem _ (List.mem_append_right _ h)) hown hK hP 0 rfl rfl 11 (by decide) (hts (.fieldLink RX1 36 "PuppetFilm$Floor" "stations" "[I") (List.mem_of_getElem? (i := 13) (by decide +kernel))) (fun _ h9 => h9) rfl dX1_init_122 ?_
  refine lv_iconst (v := (-1)) hx hb dX1_init_125 (by decide) ?_
  have hF := va_free (wc := [(q_9, .inl (cT 0, 3, .inl (fun _ => 0)))]) hD hS hA [6] rfl
  refine va_callv (va_runS (As := [.ref q_9, .int (-1)]) (rest := []) ⟨hx, hb, hml, hown, hts⟩ (c_fill_3 l D cT q_9 (fun _ => 0) (-1) _ ) (va_cwS 2 hts gX1_init_J7_fill_53178 rfl rfl rfl (by decide +kernel) ⟨Nat.le_of_ble_eq_true rfl, Nat.le_of_ble_eq_true rfl⟩) (ps_w hP hD hK hG [6] rfl rfl rfl) rfl rfl hl.1 rfl (lv_room (Nat.le_of_ble_eq_true rfl)) dX1_init_126 ⟨Nat.le_of_ble_eq_true rfl, Nat.le_of_ble_eq_true rfl⟩) hS (fun q _ h => hF q h) hF (fun uu9 tt9 H locs ht hvm wr_15 hB hz1 hk1 hS => ?_)
  obtain ⟨hP1, hD1⟩ := hB
  rw [ht] at hP1
  obtain ⟨hP, hD⟩ := va_join (wr := [(h0, .inr (1, [.ref st, .int 1, .int 0, .ref q_1, .ref q_2, .ref q_3, .ref q_4, .ref q_5, .ref q_6, .ref q_7, .ref q_8, .ref q_9, .int 0, .ref q_10, .ref q_11, .int 0, .int 0, .int 0])), (q_1, .inl (cT 0, 12, .inl (fun _ => 0))), (q_3, .inl (cT 0, 30, .inl (fun _ => 0))), (q_4, .inl (cT 0, 3, .inl (fun _ => 0))), (q_5, .inl (cT 0, 12, .inl (fun _ => 0))), (q_7, .inl (cT 0, 3, .inl (fun _ => 0))), (q_10, .inl (cT 0, 6, .inl (fun _ => 0))), (q_11, .inl (cT 0, 6, .inl (fun _ => 0))), (q_2, .inl (cT 0, 3, .inl (upd (upd (upd (fun _ => 0) 0 (-1)) 1 (-1)) 2 (-1)))), (q_6, .inl (cT 0, 3, .inl (upd (upd (upd (fun _ => 0) 0 (-1)) 1 (-1)) 2 (-1)))), (q_8, .inl (cT 0, 8, .inl (upd (upd (upd (upd (upd (upd (upd (upd (fun _ => 0) 0 (-1)) 1 (-1)) 2 (-1)) 3 (-1)) 4 (-1)) 5 (-1)) 6 (-1)) 7 (-1))))]) (w1 := [(q_9, .inl (cT 0, 3, .inl (upd (upd (upd (fun _ => 0) 0 (-1)) 1 (-1)) 2 (-1))))]) hP hD [6] [0, 1, 2, 3, 4, 5, 7, 8, 9, 10, 11] rfl rfl (by decide) (by decide) hk1 hF hP1 hD1
  have hP : va_P D vwCl [(h0, .inr (1, [.ref st, .int 1, .int 0, .ref q_1, .ref q_2, .ref q_3, .ref q_4, .ref q_5, .ref q_6, .ref q_7, .ref q_8, .ref q_9, .int 0, .ref q_10, .ref q_11, .int 0, .int 0, .int 0])), (q_1, .inl (cT 0, 12, .inl (fun _ => 0))), (q_3, .inl (cT 0, 30, .inl (fun _ => 0))), (q_4, .inl (cT 0, 3, .inl (fun _ => 0))), (q_5, .inl (cT 0, 12, .inl (fun _ => 0))), (q_7, .inl (cT 0, 3, .inl (fun _ => 0))), (q_10, .inl (cT 0, 6, .inl (fun _ => 0))), (q_11, .inl (cT 0, 6, .inl (fun _ => 0))), (q_2, .inl (cT 0, 3, .inl (upd (upd (upd (fun _ => 0) 0 (-1)) 1 (-1)) 2 (-1)))), (q_6, .inl (cT 0, 3, .inl (upd (upd (upd (fun _ => 0) 0 (-1)) 1 (-1)) 2 (-1)))), (q_8, .inl (cT 0, 8, .inl (upd (upd (upd (upd (upd (upd (upd (upd (fun _ => 0) 0 (-1)) 1 (-1)) 2 (-1)) 3 (-1)) 4 (-1)) 5 (-1)) 6 (-1)) 7 (-1)))), (q_9, .inl (cT 0, 3, .inl (upd (upd (upd (fun _ => 0) 0 (-1)) 1 (-1)) 2 (-1))))] _ := hP
  have hD : va_D A [(h0, .inr (1, [.ref st, .int 1, .int 0, .ref q_1, .ref q_2, .ref q_3, .ref q_4, .ref q_5, .ref q_6, .ref q_7, .ref q_8, .ref q_9, .int 0, .ref q_10, .ref q_11, .int 0, .int 0, .int 0])), (q_1, .inl (cT 0, 12, .inl (fun _ => 0))), (q_3, .inl (cT 0, 30, .inl (fun _ => 0))), (q_4, .inl (cT 0, 3, .inl (fun _ => 0))), (q_5, .inl (cT 0, 12, .inl (fun _ => 0))), (q_7, .inl (cT 0, 3, .inl (fun _ => 0))), (q_10, .inl (cT 0, 6, .inl (fun _ => 0))), (q_11, .inl (cT 0, 6, .inl (fun _ => 0))), (q_2, .inl (cT 0, 3, .inl (upd (upd (upd (fun _ => 0) 0 (-1)) 1 (-1)) 2 (-1)))), (q_6, .inl (cT 0, 3, .inl (upd (upd (upd (fun _ => 0) 0 (-1)) 1 (-1)) 2 (-1)))), (q_8, .inl (cT 0, 8, .inl (upd (upd (upd (upd (upd (upd (upd (upd (fun _ => 0) 0 (-1)) 1 (-1)) 2 (-1)) 3 (-1)) 4 (-1)) 5 (-1)) 6 (-1)) 7 (-1)))), (q_9, .inl (cT 0, 3, .inl (upd (upd (upd (fun _ => 0) 0 (-1)) 1 (-1)) 2 (-1))))] := hD
  have hP9 := hP.sub (ws' := [(h0, .inr (1, [.ref st, .int 1, .int 0, .ref q_1, .ref q_2, .ref q_3, .ref q_4, .ref q_5, .ref q_6, .ref q_7, .ref q_8, .ref q_9, .int 0, .ref q_10, .ref q_11, .int 0, .int 0, .int 0])), (q_1, .inl (cT 0, 12, .inl (fun _ => 0))), (q_2, .inl (cT 0, 3, .inl (upd (upd (upd (fun _ => 0) 0 (-1)) 1 (-1)) 2 (-1)))), (q_3, .inl (cT 0, 30, .inl (fun _ => 0))), (q_4, .inl (cT 0, 3, .inl (fun _ => 0))), (q_5, .inl (cT 0, 12, .inl (fun _ => 0))), (q_6, .inl (cT 0, 3, .inl (upd (upd (upd (fun _ => 0) 0 (-1)) 1 (-1)) 2 (-1)))), (q_7, .inl (cT 0, 3, .inl (fun _ => 0))), (q_8, .inl (cT 0, 8, .inl (upd (upd (upd (upd (upd (upd (upd (upd (fun _ => 0) 0 (-1)) 1 (-1)) 2 (-1)) 3 (-1)) 4 (-1)) 5 (-1)) 6 (-1)) 7 (-1)))), (q_9, .inl (cT 0, 3, .inl (upd (upd (upd (fun _ => 0) 0 (-1)) 1 (-1)) 2 (-1)))), (q_10, .inl (cT 0, 6, .inl (fun _ => 0))), (q_11, .inl (cT 0, 6, .inl (fun _ => 0)))]) [0, 1, 8, 2, 3, 4, 9, 5, 10, 11, 6, 7] rfl
  have hD9 := hD.sub (ws' := [(h0, .inr (1, [.ref st, .int 1, .int 0, .ref q_1, .ref q_2, .ref q_3, .ref q_4, .ref q_5, .ref q_6, .ref q_7, .ref q_8, .ref q_9, .int 0, .ref q_10, .ref q_11, .int 0, .int 0, .int 0])), (q_1, .inl (cT 0, 12, .inl (fun _ => 0))), (q_2, .inl (cT 0, 3, .inl (upd (upd (upd (fun _ => 0) 0 (-1)) 1 (-1)) 2 (-1)))), (q_3, .inl (cT 0, 30, .inl (fun _ => 0))), (q_4, .inl (cT 0, 3, .inl (fun _ => 0))), (q_5, .inl (cT 0, 12, .inl (fun _ => 0))), (q_6, .inl (cT 0, 3, .inl (upd (upd (upd (fun _ => 0) 0 (-1)) 1 (-1)) 2 (-1)))), (q_7, .inl (cT 0, 3, .inl (fun _ => 0))), (q_8, .inl (cT 0, 8, .inl (upd (upd (upd (upd (upd (upd (upd (upd (fun _ => 0) 0 (-1)) 1 (-1)) 2 (-1)) 3 (-1)) 4 (-1)) 5 (-1)) 6 (-1)) 7 (-1)))), (q_9, .inl (cT 0, 3, .inl (upd (upd (upd (fun _ => 0) 0 (-1)) 1 (-1)) 2 (-1)))), (q_10, .inl (cT 0, 6, .inl (fun _ => 0))), (q_11, .inl (cT 0, 6, .inl (fun _ => 0)))]) [0, 1, 8, 2, 3, 4, 9, 5, 10, 11, 6, 7] (by decide) rfl
  exact W.vret hx hb hr (fun t ht hW => ⟨⟨(), rfl, trivial, ⟨q_1, q_2, q_3, q_4, q_5, q_6, q_7, q_8, q_9, q_10, q_11, (upd (upd (upd (fun _ => 0) 0 (-1)) 1 (-1)) 2 (-1)), (upd (upd (upd (fun _ => 0) 0 (-1)) 1 (-1)) 2 (-1)), (upd (upd (upd (upd (upd (upd (upd (upd (fun _ => 0) 0 (-1)) 1 (-1)) 2 (-1)) 3 (-1)) 4 (-1)) 5 (-1)) 6 (-1)) 7 (-1)), (upd (upd (upd (fun _ => 0) 0 (-1)) 1 (-1)) 2 (-1)), by decide +kernel, by decide +kernel, by decide +kernel, by decide +kernel, by rw [ht]; exact hP9, hD9⟩⟩, hS.F ht⟩) hS.2.2 dX1_init_129
set_option maxHeartbeats 4000000 in
set_option maxRecDepth 100000 in
theorem c_X1_init_0 (l : Launch) (D : va_G) (cT : Nat → ClassId) (h0 : Nat) (st : Nat) (sz : Nat)  : Met l yX1_init wsX1_init ({ frames := 11, cells := 11, slots := 89, locals := 340 }) (va_Pc [.ref h0, .ref st, .int 0] (PW D cT [(h0, .inr (1, [.null, .int 0, .int 0, .null, .null, .null, .null, .null, .null, .null, .null, .null, .int 0, .null, .null, .int 0, .int 0, .int 0]))] sz)) (va_Qv (fun _ : Unit => True) (fun (_ : Unit) (t : State) => ∃ (a_taken : Nat), ∃ (a_on : Nat), ∃ (a_queues : Nat), ∃ (a_queued : Nat), ∃ (a_engaged : Nat), ∃ (a_dressing : Nat), ∃ (a_dressed : Nat), ∃ (a_standing : Nat), ∃ (a_stations : Nat), ∃ (a_limits : Nat), ∃ (a_worked : Nat), ∃ (fon : Nat → Int32), ∃ (fdi : Nat → Int32), ∃ (fsg : Nat → Int32), ∃ (fst : Nat → Int32), (∀ k, k < 3 → fon k = -1) ∧ (∀ k, k < 3 → fdi k = -1) ∧ (∀ k, k < 8 → fsg k = -1) ∧ (∀ k, k < 3 → fst k = -1) ∧ va_P D vwCl [(h0, .inr (1, [.ref st, .int 0, .int 0, .ref a_taken, .ref a_on, .ref a_queues, .ref a_queued, .ref a_engaged, .ref a_dressing, .ref a_dressed, .ref a_standing, .ref a_stations, .int 0, .ref a_limits, .ref a_worked, .int 0, .int 0, .int 0])), (a_taken, .inl (cT 0, 12, .inl (fun _ => 0))), (a_on, .inl (cT 0, 3, .inl fon)), (a_queues, .inl (cT 0, 30, .inl (fun _ => 0))), (a_queued, .inl (cT 0, 3, .inl (fun _ => 0))), (a_engaged, .inl (cT 0, 12, .inl (fun _ => 0))), (a_dressing, .inl (cT 0, 3, .inl fdi)), (a_dressed, .inl (cT 0, 3, .inl (fun _ => 0))), (a_standing, .inl (cT 0, 8, .inl fsg)), (a_stations, .inl (cT 0, 3, .inl fst)), (a_limits, .inl (cT 0, 6, .inl (fun _ => 0))), (a_worked, .inl (cT 0, 6, .inl (fun _ => 0)))] t.heap ∧ va_D (va_A [(h0, .inr (1, [.null, .int 0, .int 0, .null, .null, .null, .null, .null, .null, .null, .null, .null, .int 0, .null, .null, .int 0, .int 0, .int 0]))] sz) [(h0, .inr (1, [.ref st, .int 0, .int 0, .ref a_taken, .ref a_on, .ref a_queues, .ref a_queued, .ref a_engaged, .ref a_dressing, .ref a_dressed, .ref a_standing, .ref a_stations, .int 0, .ref a_limits, .ref a_worked, .int 0, .int 0, .int 0])), (a_taken, .inl (cT 0, 12, .inl (fun _ => 0))), (a_on, .inl (cT 0, 3, .inl fon)), (a_queues, .inl (cT 0, 30, .inl (fun _ => 0))), (a_queued, .inl (cT 0, 3, .inl (fun _ => 0))), (a_engaged, .inl (cT 0, 12, .inl (fun _ => 0))), (a_dressing, .inl (cT 0, 3, .inl fdi)), (a_dressed, .inl (cT 0, 3, .inl (fun _ => 0))), (a_standing, .inl (cT 0, 8, .inl fsg)), (a_stations, .inl (cT 0, 3, .inl fst)), (a_limits, .inl (cT 0, 6, .inl (fun _ => 0))), (a_worked, .inl (cT 0, 6, .inl (fun _ => 0)))]) (va_A [(h0, .inr (1, [.null, .int 0, .int 0, .null, .null, .null, .null, .null, .null, .null, .null, .null, .int 0, .null, .null, .int 0, .int 0, .int 0]))] sz)) 11 89 (va_A [(h0, .inr (1, [.null, .int 0, .int 0, .null, .null, .null, .null, .null, .null, .null, .null, .null, .int 0, .null, .null, .int 0, .int 0, .int 0]))] sz) := by
  refine Met.ofW (cc := cX1_init) (maxL := 3) (ret := none) (by decide) rfl ?_
  intro p e s m args below meth c s₁ B hml hv
  obtain ⟨rfl, hsz, hP, hK, hD0, hG⟩ := hv
  have hx := B.exec
  have hb := B.bytes
  have hr := B.returns
  have hts := atoms_spec (ws := wsX1_init) B.pre
  have hown : s.vm.findClass RX1 = some m.cls := findClass_of_methodNamed B.named
  have hlocks := B.notSynchronized
  have hin : meth.name = "<init>" := (name_of_methodNamed B.named B.method).1
  subst hsz
  have hD := hD0.self (sz := s.heap.size)
  generalize hAe : va_A [(h0, .inr (1, [.null, .int 0, .int 0, .null, .null, .null, .null, .null, .null, .null, .null, .null, .int 0, .null, .null, .int 0, .int 0, .int 0]))] s.heap.size = A at hD ⊢
  have hA : ∀ q : Nat, s.heap.size ≤ q → A q := fun q h => by rw [← hAe]; exact Or.inr h
  have hS : va_S A s.heap s.heap [] := va_S.rf
  have hP : va_P D vwCl [(h0, .inr (1, [.null, .int 0, .int 0, .null, .null, .null, .null, .null, .null, .null, .null, .null, .int 0, .null, .null, .int 0, .int 0, .int 0]))] s.heap := hP
  have hl := lv_entry ([.ref h0, .ref st, .int 0]) (n := 3) (Nat.le_of_ble_eq_true rfl)
  rw [lg_entry_eq]
  generalize (lg_sl ([.ref h0, .ref st, .int 0]) ++ List.replicate (3 - (lg_sl ([.ref h0, .ref st, .int 0])).length) Slot.unset).toArray = ls at hl ⊢
  have hl : lv_has ls 3 [(0, .ref h0), (1, .ref st), (2, .int 0)] := hl
  refine lv_aload_n hx hb dX1_init_0 rfl (lv_at hl 0 rfl) ?_
  refine W.objInit hx hb hown (hts (.methodLink RX1 3 objectInit) (List.mem_of_getElem? (i := 1) (by decide +kernel))) (hts (.instanceMethod objectInit) (List.mem_of_getElem? (i := 2) (by decide +kernel))) (hts _ (List.mem_of_getElem? (i := 3) rfl)) rfl (by rw [hml]; exact hl.1) rfl dX1_init_1 (Nat.le_of_ble_eq_true rfl) (Nat.le_of_ble_eq_true rfl) ?_
  refine W.eq (g2 := F0 m 4 ls []) rfl ?_
  refine lv_aload_n hx hb dX1_init_4 rfl (lv_at hl 0 rfl) ?_
  refine lv_bipush (v := 12) hx hb dX1_init_5 (by decide) ?_
  refine va_newa (atype := .int) (ty := .int) (n := 12) (N' := 12) (a0 := (12, .inl (fun _ => 0))) hx hb (hts (.arrayClass .int) (List.mem_of_getElem? (i := 4) (by decide +kernel))) rfl hK hP hD hS hA (fun _ => rfl) (by decide) (by decide) (Nat.le_of_ble_eq_true rfl) (Nat.le_of_ble_eq_true rfl) (Nat.le_of_ble_eq_true rfl) dX1_init_7 (fun q_1 cA9 H hK hP hD hS => ?_)
  obtain rfl := ty_new hK 0 rfl
  have hK := ty_cut hK
  have hP : va_P D vwCl [(h0, .inr (1, [.null, .int 0, .int 0, .null, .null, .null, .null, .null, .null, .null, .null, .null, .int 0, .null, .null, .int 0, .int 0, .int 0])), (q_1, .inl (cT 0, 12, .inl (fun _ => 0)))] _ := hP
  have hD : va_D A [(h0, .inr (1, [.null, .int 0, .int 0, .null, .null, .null, .null, .null, .null, .null, .null, .null, .int 0, .null, .null, .int 0, .int 0, .int 0])), (q_1, .inl (cT 0, 12, .inl (fun _ => 0)))] := hD
  refine W.widen (k := 1) (n := 12) (Nat.le_of_ble_eq_true rfl) (Nat.le_of_ble_eq_true rfl) ?_
  refine va_putF (D := D) (ci := 1) (v := .ref q_1) (ty := (.array .int)) (C := RX1) (T := TX1) (N := 18) hx hb hts (fun _ h => List.mem_cons_of_mem _ (List.mem_append_right _ h)) tyX1 tyX1_ok nmX1 hown hK hP hD hS 0 rfl rfl 3 (by decide) (hts (.fieldLink RX1 9 "PuppetFilm$Floor" "taken" "[I") (List.mem_of_getElem? (i := 5) (by decide +kernel))) (fun _ h9 => h9) rfl hin rfl (by decide +kernel) rfl rfl (Nat.le_of_ble_eq_true rfl) dX1_init_9 (fun H locs hP hD hS => ?_)
  have hP : va_P D vwCl [(h0, .inr (1, [.null, .int 0, .int 0, .ref q_1, .null, .null, .null, .null, .null, .null, .null, .null, .int 0, .null, .null, .int 0, .int 0, .int 0])), (q_1, .inl (cT 0, 12, .inl (fun _ => 0)))] _ := hP
  have hD : va_D A [(h0, .inr (1, [.null, .int 0, .int 0, .ref q_1, .null, .null, .null, .null, .null, .null, .null, .null, .int 0, .null, .null, .int 0, .int 0, .int 0])), (q_1, .inl (cT 0, 12, .inl (fun _ => 0)))] := hD
  refine lv_aload_n hx hb dX1_init_12 rfl (lv_at hl 0 rfl) ?_
  refine lv_iconst (v := 3) hx hb dX1_init_13 (by decide) ?_
  refine va_newa (atype := .int) (ty := .int) (n := 3) (N' := 3) (a0 := (3, .inl (fun _ => 0))) hx hb (hts (.arrayClass .int) (List.mem_of_getElem? (i := 4) (by decide +kernel))) rfl hK hP hD hS hA (fun _ => rfl) (by decide) (by decide) (Nat.le_of_ble_eq_true rfl) (Nat.le_of_ble_eq_true rfl) (Nat.le_of_ble_eq_true rfl) dX1_init_14 (fun q_2 cA9 H hK hP hD hS => ?_)
  obtain rfl := ty_new hK 0 rfl
  have hK := ty_cut hK
  have hP : va_P D vwCl [(h0, .inr (1, [.null, .int 0, .int 0, .ref q_1, .null, .null, .null, .null, .null, .null, .null, .null, .int 0, .null, .null, .int 0, .int 0, .int 0])), (q_1, .inl (cT 0, 12, .inl (fun _ => 0))), (q_2, .inl (cT 0, 3, .inl (fun _ => 0)))] _ := hP
  have hD : va_D A [(h0, .inr (1, [.null, .int 0, .int 0, .ref q_1, .null, .null, .null, .null, .null, .null, .null, .null, .int 0, .null, .null, .int 0, .int 0, .int 0])), (q_1, .inl (cT 0, 12, .inl (fun _ => 0))), (q_2, .inl (cT 0, 3, .inl (fun _ => 0)))] := hD
  refine W.widen (k := 2) (n := 15) (Nat.le_of_ble_eq_true rfl) (Nat.le_of_ble_eq_true rfl) ?_
  refine va_putF (D := D) (ci := 1) (v := .ref q_2) (ty := (.array .int)) (C := RX1) (T := TX1) (N := 18) hx hb hts (fun _ h => List.mem_cons_of_mem _ (List.mem_append_right _ h)) tyX1 tyX1_ok nmX1 hown hK hP hD hS 0 rfl rfl 4 (by decide) (hts (.fieldLink RX1 15 "PuppetFilm$Floor" "on" "[I") (List.mem_of_getElem? (i := 6) (by decide +kernel))) (fun _ h9 => h9) rfl hin rfl (by decide +kernel) rfl rfl (Nat.le_of_ble_eq_true rfl) dX1_init_16 (fun H locs hP hD hS => ?_)
  have hP : va_P D vwCl [(h0, .inr (1, [.null, .int 0, .int 0, .ref q_1, .ref q_2, .null, .null, .null, .null, .null, .null, .null, .int 0, .null, .null, .int 0, .int 0, .int 0])), (q_1, .inl (cT 0, 12, .inl (fun _ => 0))), (q_2, .inl (cT 0, 3, .inl (fun _ => 0)))] _ := hP
  have hD : va_D A [(h0, .inr (1, [.null, .int 0, .int 0, .ref q_1, .ref q_2, .null, .null, .null, .null, .null, .null, .null, .int 0, .null, .null, .int 0, .int 0, .int 0])), (q_1, .inl (cT 0, 12, .inl (fun _ => 0))), (q_2, .inl (cT 0, 3, .inl (fun _ => 0)))] := hD
  refine lv_aload_n hx hb dX1_init_19 rfl (lv_at hl 0 rfl) ?_
  refine lv_bipush (v := 30) hx hb dX1_init_20 (by decide) ?_
  refine va_newa (atype := .int) (ty := .int) (n := 30) (N' := 30) (a0 := (30, .inl (fun _ => 0))) hx hb (hts (.arrayClass .int) (List.mem_of_getElem? (i := 4) (by decide +kernel))) rfl hK hP hD hS hA (fun _ => rfl) (by decide) (by decide) (Nat.le_of_ble_eq_true rfl) (Nat.le_of_ble_eq_true rfl) (Nat.le_of_ble_eq_true rfl) dX1_init_22 (fun q_3 cA9 H hK hP hD hS => ?_)
  obtain rfl := ty_new hK 0 rfl
  have hK := ty_cut hK
  have hP : va_P D vwCl [(h0, .inr (1, [.null, .int 0, .int 0, .ref q_1, .ref q_2, .null, .null, .null, .null, .null, .null, .null, .int 0, .null, .null, .int 0, .int 0, .int 0])), (q_1, .inl (cT 0, 12, .inl (fun _ => 0))), (q_2, .inl (cT 0, 3, .inl (fun _ => 0))), (q_3, .inl (cT 0, 30, .inl (fun _ => 0)))] _ := hP
  have hD : va_D A [(h0, .inr (1, [.null, .int 0, .int 0, .ref q_1, .ref q_2, .null, .null, .null, .null, .null, .null, .null, .int 0, .null, .null, .int 0, .int 0, .int 0])), (q_1, .inl (cT 0, 12, .inl (fun _ => 0))), (q_2, .inl (cT 0, 3, .inl (fun _ => 0))), (q_3, .inl (cT 0, 30, .inl (fun _ => 0)))] := hD
  refine W.widen (k := 3) (n := 45) (Nat.le_of_ble_eq_true rfl) (Nat.le_of_ble_eq_true rfl) ?_
  refine va_putF (D := D) (ci := 1) (v := .ref q_3) (ty := (.array .int)) (C := RX1) (T := TX1) (N := 18) hx hb hts (fun _ h => List.mem_cons_of_mem _ (List.mem_append_right _ h)) tyX1 tyX1_ok nmX1 hown hK hP hD hS 0 rfl rfl 5 (by decide) (hts (.fieldLink RX1 18 "PuppetFilm$Floor" "queues" "[I") (List.mem_of_getElem? (i := 7) (by decide +kernel))) (fun _ h9 => h9) rfl hin rfl (by decide +kernel) rfl rfl (Nat.le_of_ble_eq_true rfl) dX1_init_24 (fun H locs hP hD hS => ?_)
  have hP : va_P D vwCl [(h0, .inr (1, [.null, .int 0, .int 0, .ref q_1, .ref q_2, .ref q_3, .null, .null, .null, .null, .null, .null, .int 0, .null, .null, .int 0, .int 0, .int 0])), (q_1, .inl (cT 0, 12, .inl (fun _ => 0))), (q_2, .inl (cT 0, 3, .inl (fun _ => 0))), (q_3, .inl (cT 0, 30, .inl (fun _ => 0)))] _ := hP
  have hD : va_D A [(h0, .inr (1, [.null, .int 0, .int 0, .ref q_1, .ref q_2, .ref q_3, .null, .null, .null, .null, .null, .null, .int 0, .null, .null, .int 0, .int 0, .int 0])), (q_1, .inl (cT 0, 12, .inl (fun _ => 0))), (q_2, .inl (cT 0, 3, .inl (fun _ => 0))), (q_3, .inl (cT 0, 30, .inl (fun _ => 0)))] := hD
  refine lv_aload_n hx hb dX1_init_27 rfl (lv_at hl 0 rfl) ?_
  refine lv_iconst (v := 3) hx hb dX1_init_28 (by decide) ?_
  refine va_newa (atype := .int) (ty := .int) (n := 3) (N' := 3) (a0 := (3, .inl (fun _ => 0))) hx hb (hts (.arrayClass .int) (List.mem_of_getElem? (i := 4) (by decide +kernel))) rfl hK hP hD hS hA (fun _ => rfl) (by decide) (by decide) (Nat.le_of_ble_eq_true rfl) (Nat.le_of_ble_eq_true rfl) (Nat.le_of_ble_eq_true rfl) dX1_init_29 (fun q_4 cA9 H hK hP hD hS => ?_)
  obtain rfl := ty_new hK 0 rfl
  have hK := ty_cut hK
  have hP : va_P D vwCl [(h0, .inr (1, [.null, .int 0, .int 0, .ref q_1, .ref q_2, .ref q_3, .null, .null, .null, .null, .null, .null, .int 0, .null, .null, .int 0, .int 0, .int 0])), (q_1, .inl (cT 0, 12, .inl (fun _ => 0))), (q_2, .inl (cT 0, 3, .inl (fun _ => 0))), (q_3, .inl (cT 0, 30, .inl (fun _ => 0))), (q_4, .inl (cT 0, 3, .inl (fun _ => 0)))] _ := hP
  have hD : va_D A [(h0, .inr (1, [.null, .int 0, .int 0, .ref q_1, .ref q_2, .ref q_3, .null, .null, .null, .null, .null, .null, .int 0, .null, .null, .int 0, .int 0, .int 0])), (q_1, .inl (cT 0, 12, .inl (fun _ => 0))), (q_2, .inl (cT 0, 3, .inl (fun _ => 0))), (q_3, .inl (cT 0, 30, .inl (fun _ => 0))), (q_4, .inl (cT 0, 3, .inl (fun _ => 0)))] := hD
  refine W.widen (k := 4) (n := 48) (Nat.le_of_ble_eq_true rfl) (Nat.le_of_ble_eq_true rfl) ?_
  refine va_putF (D := D) (ci := 1) (v := .ref q_4) (ty := (.array .int)) (C := RX1) (T := TX1) (N := 18) hx hb hts (fun _ h => List.mem_cons_of_mem _ (List.mem_append_right _ h)) tyX1 tyX1_ok nmX1 hown hK hP hD hS 0 rfl rfl 6 (by decide) (hts (.fieldLink RX1 21 "PuppetFilm$Floor" "queued" "[I") (List.mem_of_getElem? (i := 8) (by decide +kernel))) (fun _ h9 => h9) rfl hin rfl (by decide +kernel) rfl rfl (Nat.le_of_ble_eq_true rfl) dX1_init_31 (fun H locs hP hD hS => ?_)
  have hP : va_P D vwCl [(h0, .inr (1, [.null, .int 0, .int 0, .ref q_1, .ref q_2, .ref q_3, .ref q_4, .null, .null, .null, .null, .null, .int 0, .null, .null, .int 0, .int 0, .int 0])), (q_1, .inl (cT 0, 12, .inl (fun _ => 0))), (q_2, .inl (cT 0, 3, .inl (fun _ => 0))), (q_3, .inl (cT 0, 30, .inl (fun _ => 0))), (q_4, .inl (cT 0, 3, .inl (fun _ => 0)))] _ := hP
  have hD : va_D A [(h0, .inr (1, [.null, .int 0, .int 0, .ref q_1, .ref q_2, .ref q_3, .ref q_4, .null, .null, .null, .null, .null, .int 0, .null, .null, .int 0, .int 0, .int 0])), (q_1, .inl (cT 0, 12, .inl (fun _ => 0))), (q_2, .inl (cT 0, 3, .inl (fun _ => 0))), (q_3, .inl (cT 0, 30, .inl (fun _ => 0))), (q_4, .inl (cT 0, 3, .inl (fun _ => 0)))] := hD
  refine lv_aload_n hx hb dX1_init_34 rfl (lv_at hl 0 rfl) ?_
  refine lv_bipush (v := 12) hx hb dX1_init_35 (by decide) ?_
  refine va_newa (atype := .int) (ty := .int) (n := 12) (N' := 12) (a0 := (12, .inl (fun _ => 0))) hx hb (hts (.arrayClass .int) (List.mem_of_getElem? (i := 4) (by decide +kernel))) rfl hK hP hD hS hA (fun _ => rfl) (by decide) (by decide) (Nat.le_of_ble_eq_true rfl) (Nat.le_of_ble_eq_true rfl) (Nat.le_of_ble_eq_true rfl) dX1_init_37 (fun q_5 cA9 H hK hP hD hS => ?_)
  obtain rfl := ty_new hK 0 rfl
  have hK := ty_cut hK
  have hP : va_P D vwCl [(h0, .inr (1, [.null, .int 0, .int 0, .ref q_1, .ref q_2, .ref q_3, .ref q_4, .null, .null, .null, .null, .null, .int 0, .null, .null, .int 0, .int 0, .int 0])), (q_1, .inl (cT 0, 12, .inl (fun _ => 0))), (q_2, .inl (cT 0, 3, .inl (fun _ => 0))), (q_3, .inl (cT 0, 30, .inl (fun _ => 0))), (q_4, .inl (cT 0, 3, .inl (fun _ => 0))), (q_5, .inl (cT 0, 12, .inl (fun _ => 0)))] _ := hP
  have hD : va_D A [(h0, .inr (1, [.null, .int 0, .int 0, .ref q_1, .ref q_2, .ref q_3, .ref q_4, .null, .null, .null, .null, .null, .int 0, .null, .null, .int 0, .int 0, .int 0])), (q_1, .inl (cT 0, 12, .inl (fun _ => 0))), (q_2, .inl (cT 0, 3, .inl (fun _ => 0))), (q_3, .inl (cT 0, 30, .inl (fun _ => 0))), (q_4, .inl (cT 0, 3, .inl (fun _ => 0))), (q_5, .inl (cT 0, 12, .inl (fun _ => 0)))] := hD
  refine W.widen (k := 5) (n := 60) (Nat.le_of_ble_eq_true rfl) (Nat.le_of_ble_eq_true rfl) ?_
  refine va_putF (D := D) (ci := 1) (v := .ref q_5) (ty := (.array .int)) (C := RX1) (T := TX1) (N := 18) hx hb hts (fun _ h => List.mem_cons_of_mem _ (List.mem_append_right _ h)) tyX1 tyX1_ok nmX1 hown hK hP hD hS 0 rfl rfl 7 (by decide) (hts (.fieldLink RX1 24 "PuppetFilm$Floor" "engaged" "[I") (List.mem_of_getElem? (i := 9) (by decide +kernel))) (fun _ h9 => h9) rfl hin rfl (by decide +kernel) rfl rfl (Nat.le_of_ble_eq_true rfl) dX1_init_39 (fun H locs hP hD hS => ?_)
  have hP : va_P D vwCl [(h0, .inr (1, [.null, .int 0, .int 0, .ref q_1, .ref q_2, .ref q_3, .ref q_4, .ref q_5, .null, .null, .null, .null, .int 0, .null, .null, .int 0, .int 0, .int 0])), (q_1, .inl (cT 0, 12, .inl (fun _ => 0))), (q_2, .inl (cT 0, 3, .inl (fun _ => 0))), (q_3, .inl (cT 0, 30, .inl (fun _ => 0))), (q_4, .inl (cT 0, 3, .inl (fun _ => 0))), (q_5, .inl (cT 0, 12, .inl (fun _ => 0)))] _ := hP
  have hD : va_D A [(h0, .inr (1, [.null, .int 0, .int 0, .ref q_1, .ref q_2, .ref q_3, .ref q_4, .ref q_5, .null, .null, .null, .null, .int 0, .null, .null, .int 0, .int 0, .int 0])), (q_1, .inl (cT 0, 12, .inl (fun _ => 0))), (q_2, .inl (cT 0, 3, .inl (fun _ => 0))), (q_3, .inl (cT 0, 30, .inl (fun _ => 0))), (q_4, .inl (cT 0, 3, .inl (fun _ => 0))), (q_5, .inl (cT 0, 12, .inl (fun _ => 0)))] := hD
  refine lv_aload_n hx hb dX1_init_42 rfl (lv_at hl 0 rfl) ?_
  refine lv_iconst (v := 3) hx hb dX1_init_43 (by decide) ?_
  refine va_newa (atype := .int) (ty := .int) (n := 3) (N' := 3) (a0 := (3, .inl (fun _ => 0))) hx hb (hts (.arrayClass .int) (List.mem_of_getElem? (i := 4) (by decide +kernel))) rfl hK hP hD hS hA (fun _ => rfl) (by decide) (by decide) (Nat.le_of_ble_eq_true rfl) (Nat.le_of_ble_eq_true rfl) (Nat.le_of_ble_eq_true rfl) dX1_init_44 (fun q_6 cA9 H hK hP hD hS => ?_)
  obtain rfl := ty_new hK 0 rfl
  have hK := ty_cut hK
  have hP : va_P D vwCl [(h0, .inr (1, [.null, .int 0, .int 0, .ref q_1, .ref q_2, .ref q_3, .ref q_4, .ref q_5, .null, .null, .null, .null, .int 0, .null, .null, .int 0, .int 0, .int 0])), (q_1, .inl (cT 0, 12, .inl (fun _ => 0))), (q_2, .inl (cT 0, 3, .inl (fun _ => 0))), (q_3, .inl (cT 0, 30, .inl (fun _ => 0))), (q_4, .inl (cT 0, 3, .inl (fun _ => 0))), (q_5, .inl (cT 0, 12, .inl (fun _ => 0))), (q_6, .inl (cT 0, 3, .inl (fun _ => 0)))] _ := hP
  have hD : va_D A [(h0, .inr (1, [.null, .int 0, .int 0, .ref q_1, .ref q_2, .ref q_3, .ref q_4, .ref q_5, .null, .null, .null, .null, .int 0, .null, .null, .int 0, .int 0, .int 0])), (q_1, .inl (cT 0, 12, .inl (fun _ => 0))), (q_2, .inl (cT 0, 3, .inl (fun _ => 0))), (q_3, .inl (cT 0, 30, .inl (fun _ => 0))), (q_4, .inl (cT 0, 3, .inl (fun _ => 0))), (q_5, .inl (cT 0, 12, .inl (fun _ => 0))), (q_6, .inl (cT 0, 3, .inl (fun _ => 0)))] := hD
  refine W.widen (k := 6) (n := 63) (Nat.le_of_ble_eq_true rfl) (Nat.le_of_ble_eq_true rfl) ?_
  refine va_putF (D := D) (ci := 1) (v := .ref q_6) (ty := (.array .int)) (C := RX1) (T := TX1) (N := 18) hx hb hts (fun _ h => List.mem_cons_of_mem _ (List.mem_append_right _ h)) tyX1 tyX1_ok nmX1 hown hK hP hD hS 0 rfl rfl 8 (by decide) (hts (.fieldLink RX1 27 "PuppetFilm$Floor" "dressing" "[I") (List.mem_of_getElem? (i := 10) (by decide +kernel))) (fun _ h9 => h9) rfl hin rfl (by decide +kernel) rfl rfl (Nat.le_of_ble_eq_true rfl) dX1_init_46 (fun H locs hP hD hS => ?_)
  have hP : va_P D vwCl [(h0, .inr (1, [.null, .int 0, .int 0, .ref q_1, .ref q_2, .ref q_3, .ref q_4, .ref q_5, .ref q_6, .null, .null, .null, .int 0, .null, .null, .int 0, .int 0, .int 0])), (q_1, .inl (cT 0, 12, .inl (fun _ => 0))), (q_2, .inl (cT 0, 3, .inl (fun _ => 0))), (q_3, .inl (cT 0, 30, .inl (fun _ => 0))), (q_4, .inl (cT 0, 3, .inl (fun _ => 0))), (q_5, .inl (cT 0, 12, .inl (fun _ => 0))), (q_6, .inl (cT 0, 3, .inl (fun _ => 0)))] _ := hP
  have hD : va_D A [(h0, .inr (1, [.null, .int 0, .int 0, .ref q_1, .ref q_2, .ref q_3, .ref q_4, .ref q_5, .ref q_6, .null, .null, .null, .int 0, .null, .null, .int 0, .int 0, .int 0])), (q_1, .inl (cT 0, 12, .inl (fun _ => 0))), (q_2, .inl (cT 0, 3, .inl (fun _ => 0))), (q_3, .inl (cT 0, 30, .inl (fun _ => 0))), (q_4, .inl (cT 0, 3, .inl (fun _ => 0))), (q_5, .inl (cT 0, 12, .inl (fun _ => 0))), (q_6, .inl (cT 0, 3, .inl (fun _ => 0)))] := hD
  refine lv_aload_n hx hb dX1_init_49 rfl (lv_at hl 0 rfl) ?_
  refine lv_iconst (v := 3) hx hb dX1_init_50 (by decide) ?_
  refine va_newa (atype := .int) (ty := .int) (n := 3) (N' := 3) (a0 := (3, .inl (fun _ => 0))) hx hb (hts (.arrayClass .int) (List.mem_of_getElem? (i := 4) (by decide +kernel))) rfl hK hP hD hS hA (fun _ => rfl) (by decide) (by decide) (Nat.le_of_ble_eq_true rfl) (Nat.le_of_ble_eq_true rfl) (Nat.le_of_ble_eq_true rfl) dX1_init_51 (fun q_7 cA9 H hK hP hD hS => ?_)
  obtain rfl := ty_new hK 0 rfl
  have hK := ty_cut hK
  have hP : va_P D vwCl [(h0, .inr (1, [.null, .int 0, .int 0, .ref q_1, .ref q_2, .ref q_3, .ref q_4, .ref q_5, .ref q_6, .null, .null, .null, .int 0, .null, .null, .int 0, .int 0, .int 0])), (q_1, .inl (cT 0, 12, .inl (fun _ => 0))), (q_2, .inl (cT 0, 3, .inl (fun _ => 0))), (q_3, .inl (cT 0, 30, .inl (fun _ => 0))), (q_4, .inl (cT 0, 3, .inl (fun _ => 0))), (q_5, .inl (cT 0, 12, .inl (fun _ => 0))), (q_6, .inl (cT 0, 3, .inl (fun _ => 0))), (q_7, .inl (cT 0, 3, .inl (fun _ => 0)))] _ := hP
  have hD : va_D A [(h0, .inr (1, [.null, .int 0, .int 0, .ref q_1, .ref q_2, .ref q_3, .ref q_4, .ref q_5, .ref q_6, .null, .null, .null, .int 0, .null, .null, .int 0, .int 0, .int 0])), (q_1, .inl (cT 0, 12, .inl (fun _ => 0))), (q_2, .inl (cT 0, 3, .inl (fun _ => 0))), (q_3, .inl (cT 0, 30, .inl (fun _ => 0))), (q_4, .inl (cT 0, 3, .inl (fun _ => 0))), (q_5, .inl (cT 0, 12, .inl (fun _ => 0))), (q_6, .inl (cT 0, 3, .inl (fun _ => 0))), (q_7, .inl (cT 0, 3, .inl (fun _ => 0)))] := hD
  refine W.widen (k := 7) (n := 66) (Nat.le_of_ble_eq_true rfl) (Nat.le_of_ble_eq_true rfl) ?_
  refine va_putF (D := D) (ci := 1) (v := .ref q_7) (ty := (.array .int)) (C := RX1) (T := TX1) (N := 18) hx hb hts (fun _ h => List.mem_cons_of_mem _ (List.mem_append_right _ h)) tyX1 tyX1_ok nmX1 hown hK hP hD hS 0 rfl rfl 9 (by decide) (hts (.fieldLink RX1 30 "PuppetFilm$Floor" "dressed" "[I") (List.mem_of_getElem? (i := 11) (by decide +kernel))) (fun _ h9 => h9) rfl hin rfl (by decide +kernel) rfl rfl (Nat.le_of_ble_eq_true rfl) dX1_init_53 (fun H locs hP hD hS => ?_)
  have hP : va_P D vwCl [(h0, .inr (1, [.null, .int 0, .int 0, .ref q_1, .ref q_2, .ref q_3, .ref q_4, .ref q_5, .ref q_6, .ref q_7, .null, .null, .int 0, .null, .null, .int 0, .int 0, .int 0])), (q_1, .inl (cT 0, 12, .inl (fun _ => 0))), (q_2, .inl (cT 0, 3, .inl (fun _ => 0))), (q_3, .inl (cT 0, 30, .inl (fun _ => 0))), (q_4, .inl (cT 0, 3, .inl (fun _ => 0))), (q_5, .inl (cT 0, 12, .inl (fun _ => 0))), (q_6, .inl (cT 0, 3, .inl (fun _ => 0))), (q_7, .inl (cT 0, 3, .inl (fun _ => 0)))] _ := hP
  have hD : va_D A [(h0, .inr (1, [.null, .int 0, .int 0, .ref q_1, .ref q_2, .ref q_3, .ref q_4, .ref q_5, .ref q_6, .ref q_7, .null, .null, .int 0, .null, .null, .int 0, .int 0, .int 0])), (q_1, .inl (cT 0, 12, .inl (fun _ => 0))), (q_2, .inl (cT 0, 3, .inl (fun _ => 0))), (q_3, .inl (cT 0, 30, .inl (fun _ => 0))), (q_4, .inl (cT 0, 3, .inl (fun _ => 0))), (q_5, .inl (cT 0, 12, .inl (fun _ => 0))), (q_6, .inl (cT 0, 3, .inl (fun _ => 0))), (q_7, .inl (cT 0, 3, .inl (fun _ => 0)))] := hD
  refine lv_aload_n hx hb dX1_init_56 rfl (lv_at hl 0 rfl) ?_
  refine lv_bipush (v := 8) hx hb dX1_init_57 (by decide) ?_
  refine va_newa (atype := .int) (ty := .int) (n := 8) (N' := 8) (a0 := (8, .inl (fun _ => 0))) hx hb (hts (.arrayClass .int) (List.mem_of_getElem? (i := 4) (by decide +kernel))) rfl hK hP hD hS hA (fun _ => rfl) (by decide) (by decide) (Nat.le_of_ble_eq_true rfl) (Nat.le_of_ble_eq_true rfl) (Nat.le_of_ble_eq_true rfl) dX1_init_59 (fun q_8 cA9 H hK hP hD hS => ?_)
  obtain rfl := ty_new hK 0 rfl
  have hK := ty_cut hK
  have hP : va_P D vwCl [(h0, .inr (1, [.null, .int 0, .int 0, .ref q_1, .ref q_2, .ref q_3, .ref q_4, .ref q_5, .ref q_6, .ref q_7, .null, .null, .int 0, .null, .null, .int 0, .int 0, .int 0])), (q_1, .inl (cT 0, 12, .inl (fun _ => 0))), (q_2, .inl (cT 0, 3, .inl (fun _ => 0))), (q_3, .inl (cT 0, 30, .inl (fun _ => 0))), (q_4, .inl (cT 0, 3, .inl (fun _ => 0))), (q_5, .inl (cT 0, 12, .inl (fun _ => 0))), (q_6, .inl (cT 0, 3, .inl (fun _ => 0))), (q_7, .inl (cT 0, 3, .inl (fun _ => 0))), (q_8, .inl (cT 0, 8, .inl (fun _ => 0)))] _ := hP
  have hD : va_D A [(h0, .inr (1, [.null, .int 0, .int 0, .ref q_1, .ref q_2, .ref q_3, .ref q_4, .ref q_5, .ref q_6, .ref q_7, .null, .null, .int 0, .null, .null, .int 0, .int 0, .int 0])), (q_1, .inl (cT 0, 12, .inl (fun _ => 0))), (q_2, .inl (cT 0, 3, .inl (fun _ => 0))), (q_3, .inl (cT 0, 30, .inl (fun _ => 0))), (q_4, .inl (cT 0, 3, .inl (fun _ => 0))), (q_5, .inl (cT 0, 12, .inl (fun _ => 0))), (q_6, .inl (cT 0, 3, .inl (fun _ => 0))), (q_7, .inl (cT 0, 3, .inl (fun _ => 0))), (q_8, .inl (cT 0, 8, .inl (fun _ => 0)))] := hD
  refine W.widen (k := 8) (n := 74) (Nat.le_of_ble_eq_true rfl) (Nat.le_of_ble_eq_true rfl) ?_
  refine va_putF (D := D) (ci := 1) (v := .ref q_8) (ty := (.array .int)) (C := RX1) (T := TX1) (N := 18) hx hb hts (fun _ h => List.mem_cons_of_mem _ (List.mem_append_right _ h)) tyX1 tyX1_ok nmX1 hown hK hP hD hS 0 rfl rfl 10 (by decide) (hts (.fieldLink RX1 33 "PuppetFilm$Floor" "standing" "[I") (List.mem_of_getElem? (i := 12) (by decide +kernel))) (fun _ h9 => h9) rfl hin rfl (by decide +kernel) rfl rfl (Nat.le_of_ble_eq_true rfl) dX1_init_61 (fun H locs hP hD hS => ?_)
  have hP : va_P D vwCl [(h0, .inr (1, [.null, .int 0, .int 0, .ref q_1, .ref q_2, .ref q_3, .ref q_4, .ref q_5, .ref q_6, .ref q_7, .ref q_8, .null, .int 0, .null, .null, .int 0, .int 0, .int 0])), (q_1, .inl (cT 0, 12, .inl (fun _ => 0))), (q_2, .inl (cT 0, 3, .inl (fun _ => 0))), (q_3, .inl (cT 0, 30, .inl (fun _ => 0))), (q_4, .inl (cT 0, 3, .inl (fun _ => 0))), (q_5, .inl (cT 0, 12, .inl (fun _ => 0))), (q_6, .inl (cT 0, 3, .inl (fun _ => 0))), (q_7, .inl (cT 0, 3, .inl (fun _ => 0))), (q_8, .inl (cT 0, 8, .inl (fun _ => 0)))] _ := hP
  have hD : va_D A [(h0, .inr (1, [.null, .int 0, .int 0, .ref q_1, .ref q_2, .ref q_3, .ref q_4, .ref q_5, .ref q_6, .ref q_7, .ref q_8, .null, .int 0, .null, .null, .int 0, .int 0, .int 0])), (q_1, .inl (cT 0, 12, .inl (fun _ => 0))), (q_2, .inl (cT 0, 3, .inl (fun _ => 0))), (q_3, .inl (cT 0, 30, .inl (fun _ => 0))), (q_4, .inl (cT 0, 3, .inl (fun _ => 0))), (q_5, .inl (cT 0, 12, .inl (fun _ => 0))), (q_6, .inl (cT 0, 3, .inl (fun _ => 0))), (q_7, .inl (cT 0, 3, .inl (fun _ => 0))), (q_8, .inl (cT 0, 8, .inl (fun _ => 0)))] := hD
  refine lv_aload_n hx hb dX1_init_64 rfl (lv_at hl 0 rfl) ?_
  refine lv_iconst (v := 3) hx hb dX1_init_65 (by decide) ?_
  refine va_newa (atype := .int) (ty := .int) (n := 3) (N' := 3) (a0 := (3, .inl (fun _ => 0))) hx hb (hts (.arrayClass .int) (List.mem_of_getElem? (i := 4) (by decide +kernel))) rfl hK hP hD hS hA (fun _ => rfl) (by decide) (by decide) (Nat.le_of_ble_eq_true rfl) (Nat.le_of_ble_eq_true rfl) (Nat.le_of_ble_eq_true rfl) dX1_init_66 (fun q_9 cA9 H hK hP hD hS => ?_)
  obtain rfl := ty_new hK 0 rfl
  have hK := ty_cut hK
  have hP : va_P D vwCl [(h0, .inr (1, [.null, .int 0, .int 0, .ref q_1, .ref q_2, .ref q_3, .ref q_4, .ref q_5, .ref q_6, .ref q_7, .ref q_8, .null, .int 0, .null, .null, .int 0, .int 0, .int 0])), (q_1, .inl (cT 0, 12, .inl (fun _ => 0))), (q_2, .inl (cT 0, 3, .inl (fun _ => 0))), (q_3, .inl (cT 0, 30, .inl (fun _ => 0))), (q_4, .inl (cT 0, 3, .inl (fun _ => 0))), (q_5, .inl (cT 0, 12, .inl (fun _ => 0))), (q_6, .inl (cT 0, 3, .inl (fun _ => 0))), (q_7, .inl (cT 0, 3, .inl (fun _ => 0))), (q_8, .inl (cT 0, 8, .inl (fun _ => 0))), (q_9, .inl (cT 0, 3, .inl (fun _ => 0)))] _ := hP
  have hD : va_D A [(h0, .inr (1, [.null, .int 0, .int 0, .ref q_1, .ref q_2, .ref q_3, .ref q_4, .ref q_5, .ref q_6, .ref q_7, .ref q_8, .null, .int 0, .null, .null, .int 0, .int 0, .int 0])), (q_1, .inl (cT 0, 12, .inl (fun _ => 0))), (q_2, .inl (cT 0, 3, .inl (fun _ => 0))), (q_3, .inl (cT 0, 30, .inl (fun _ => 0))), (q_4, .inl (cT 0, 3, .inl (fun _ => 0))), (q_5, .inl (cT 0, 12, .inl (fun _ => 0))), (q_6, .inl (cT 0, 3, .inl (fun _ => 0))), (q_7, .inl (cT 0, 3, .inl (fun _ => 0))), (q_8, .inl (cT 0, 8, .inl (fun _ => 0))), (q_9, .inl (cT 0, 3, .inl (fun _ => 0)))] := hD
  refine W.widen (k := 9) (n := 77) (Nat.le_of_ble_eq_true rfl) (Nat.le_of_ble_eq_true rfl) ?_
  refine va_putF (D := D) (ci := 1) (v := .ref q_9) (ty := (.array .int)) (C := RX1) (T := TX1) (N := 18) hx hb hts (fun _ h => List.mem_cons_of_mem _ (List.mem_append_right _ h)) tyX1 tyX1_ok nmX1 hown hK hP hD hS 0 rfl rfl 11 (by decide) (hts (.fieldLink RX1 36 "PuppetFilm$Floor" "stations" "[I") (List.mem_of_getElem? (i := 13) (by decide +kernel))) (fun _ h9 => h9) rfl hin rfl (by decide +kernel) rfl rfl (Nat.le_of_ble_eq_true rfl) dX1_init_68 (fun H locs hP hD hS => ?_)
  have hP : va_P D vwCl [(h0, .inr (1, [.null, .int 0, .int 0, .ref q_1, .ref q_2, .ref q_3, .ref q_4, .ref q_5, .ref q_6, .ref q_7, .ref q_8, .ref q_9, .int 0, .null, .null, .int 0, .int 0, .int 0])), (q_1, .inl (cT 0, 12, .inl (fun _ => 0))), (q_2, .inl (cT 0, 3, .inl (fun _ => 0))), (q_3, .inl (cT 0, 30, .inl (fun _ => 0))), (q_4, .inl (cT 0, 3, .inl (fun _ => 0))), (q_5, .inl (cT 0, 12, .inl (fun _ => 0))), (q_6, .inl (cT 0, 3, .inl (fun _ => 0))), (q_7, .inl (cT 0, 3, .inl (fun _ => 0))), (q_8, .inl (cT 0, 8, .inl (fun _ => 0))), (q_9, .inl (cT 0, 3, .inl (fun _ => 0)))] _ := hP
  have hD : va_D A [(h0, .inr (1, [.null, .int 0, .int 0, .ref q_1, .ref q_2, .ref q_3, .ref q_4, .ref q_5, .ref q_6, .ref q_7, .ref q_8, .ref q_9, .int 0, .null, .null, .int 0, .int 0, .int 0])), (q_1, .inl (cT 0, 12, .inl (fun _ => 0))), (q_2, .inl (cT 0, 3, .inl (fun _ => 0))), (q_3, .inl (cT 0, 30, .inl (fun _ => 0))), (q_4, .inl (cT 0, 3, .inl (fun _ => 0))), (q_5, .inl (cT 0, 12, .inl (fun _ => 0))), (q_6, .inl (cT 0, 3, .inl (fun _ => 0))), (q_7, .inl (cT 0, 3, .inl (fun _ => 0))), (q_8, .inl (cT 0, 8, .inl (fun _ => 0))), (q_9, .inl (cT 0, 3, .inl (fun _ => 0)))] := hD
  refine lv_aload_n hx hb dX1_init_71 rfl (lv_at hl 0 rfl) ?_
  refine lv_bipush (v := 6) hx hb dX1_init_72 (by decide) ?_
  refine va_newa (atype := .int) (ty := .int) (n := 6) (N' := 6) (a0 := (6, .inl (fun _ => 0))) hx hb (hts (.arrayClass .int) (List.mem_of_getElem? (i := 4) (by decide +kernel))) rfl hK hP hD hS hA (fun _ => rfl) (by decide) (by decide) (Nat.le_of_ble_eq_true rfl) (Nat.le_of_ble_eq_true rfl) (Nat.le_of_ble_eq_true rfl) dX1_init_74 (fun q_10 cA9 H hK hP hD hS => ?_)
  obtain rfl := ty_new hK 0 rfl
  have hK := ty_cut hK
  have hP : va_P D vwCl [(h0, .inr (1, [.null, .int 0, .int 0, .ref q_1, .ref q_2, .ref q_3, .ref q_4, .ref q_5, .ref q_6, .ref q_7, .ref q_8, .ref q_9, .int 0, .null, .null, .int 0, .int 0, .int 0])), (q_1, .inl (cT 0, 12, .inl (fun _ => 0))), (q_2, .inl (cT 0, 3, .inl (fun _ => 0))), (q_3, .inl (cT 0, 30, .inl (fun _ => 0))), (q_4, .inl (cT 0, 3, .inl (fun _ => 0))), (q_5, .inl (cT 0, 12, .inl (fun _ => 0))), (q_6, .inl (cT 0, 3, .inl (fun _ => 0))), (q_7, .inl (cT 0, 3, .inl (fun _ => 0))), (q_8, .inl (cT 0, 8, .inl (fun _ => 0))), (q_9, .inl (cT 0, 3, .inl (fun _ => 0))), (q_10, .inl (cT 0, 6, .inl (fun _ => 0)))] _ := hP
  have hD : va_D A [(h0, .inr (1, [.null, .int 0, .int 0, .ref q_1, .ref q_2, .ref q_3, .ref q_4, .ref q_5, .ref q_6, .ref q_7, .ref q_8, .ref q_9, .int 0, .null, .null, .int 0, .int 0, .int 0])), (q_1, .inl (cT 0, 12, .inl (fun _ => 0))), (q_2, .inl (cT 0, 3, .inl (fun _ => 0))), (q_3, .inl (cT 0, 30, .inl (fun _ => 0))), (q_4, .inl (cT 0, 3, .inl (fun _ => 0))), (q_5, .inl (cT 0, 12, .inl (fun _ => 0))), (q_6, .inl (cT 0, 3, .inl (fun _ => 0))), (q_7, .inl (cT 0, 3, .inl (fun _ => 0))), (q_8, .inl (cT 0, 8, .inl (fun _ => 0))), (q_9, .inl (cT 0, 3, .inl (fun _ => 0))), (q_10, .inl (cT 0, 6, .inl (fun _ => 0)))] := hD
  refine W.widen (k := 10) (n := 83) (Nat.le_of_ble_eq_true rfl) (Nat.le_of_ble_eq_true rfl) ?_
  refine va_putF (D := D) (ci := 1) (v := .ref q_10) (ty := (.array .int)) (C := RX1) (T := TX1) (N := 18) hx hb hts (fun _ h => List.mem_cons_of_mem _ (List.mem_append_right _ h)) tyX1 tyX1_ok nmX1 hown hK hP hD hS 0 rfl rfl 13 (by decide) (hts (.fieldLink RX1 39 "PuppetFilm$Floor" "limits" "[I") (List.mem_of_getElem? (i := 14) (by decide +kernel))) (fun _ h9 => h9) rfl hin rfl (by decide +kernel) rfl rfl (Nat.le_of_ble_eq_true rfl) dX1_init_76 (fun H locs hP hD hS => ?_)
  have hP : va_P D vwCl [(h0, .inr (1, [.null, .int 0, .int 0, .ref q_1, .ref q_2, .ref q_3, .ref q_4, .ref q_5, .ref q_6, .ref q_7, .ref q_8, .ref q_9, .int 0, .ref q_10, .null, .int 0, .int 0, .int 0])), (q_1, .inl (cT 0, 12, .inl (fun _ => 0))), (q_2, .inl (cT 0, 3, .inl (fun _ => 0))), (q_3, .inl (cT 0, 30, .inl (fun _ => 0))), (q_4, .inl (cT 0, 3, .inl (fun _ => 0))), (q_5, .inl (cT 0, 12, .inl (fun _ => 0))), (q_6, .inl (cT 0, 3, .inl (fun _ => 0))), (q_7, .inl (cT 0, 3, .inl (fun _ => 0))), (q_8, .inl (cT 0, 8, .inl (fun _ => 0))), (q_9, .inl (cT 0, 3, .inl (fun _ => 0))), (q_10, .inl (cT 0, 6, .inl (fun _ => 0)))] _ := hP
  have hD : va_D A [(h0, .inr (1, [.null, .int 0, .int 0, .ref q_1, .ref q_2, .ref q_3, .ref q_4, .ref q_5, .ref q_6, .ref q_7, .ref q_8, .ref q_9, .int 0, .ref q_10, .null, .int 0, .int 0, .int 0])), (q_1, .inl (cT 0, 12, .inl (fun _ => 0))), (q_2, .inl (cT 0, 3, .inl (fun _ => 0))), (q_3, .inl (cT 0, 30, .inl (fun _ => 0))), (q_4, .inl (cT 0, 3, .inl (fun _ => 0))), (q_5, .inl (cT 0, 12, .inl (fun _ => 0))), (q_6, .inl (cT 0, 3, .inl (fun _ => 0))), (q_7, .inl (cT 0, 3, .inl (fun _ => 0))), (q_8, .inl (cT 0, 8, .inl (fun _ => 0))), (q_9, .inl (cT 0, 3, .inl (fun _ => 0))), (q_10, .inl (cT 0, 6, .inl (fun _ => 0)))] := hD
  refine lv_aload_n hx hb dX1_init_79 rfl (lv_at hl 0 rfl) ?_
  refine lv_bipush (v := 6) hx hb dX1_init_80 (by decide) ?_
  refine va_newa (atype := .int) (ty := .int) (n := 6) (N' := 6) (a0 := (6, .inl (fun _ => 0))) hx hb (hts (.arrayClass .int) (List.mem_of_getElem? (i := 4) (by decide +kernel))) rfl hK hP hD hS hA (fun _ => rfl) (by decide) (by decide) (Nat.le_of_ble_eq_true rfl) (Nat.le_of_ble_eq_true rfl) (Nat.le_of_ble_eq_true rfl) dX1_init_82 (fun q_11 cA9 H hK hP hD hS => ?_)
  obtain rfl := ty_new hK 0 rfl
  have hK := ty_cut hK
  have hP : va_P D vwCl [(h0, .inr (1, [.null, .int 0, .int 0, .ref q_1, .ref q_2, .ref q_3, .ref q_4, .ref q_5, .ref q_6, .ref q_7, .ref q_8, .ref q_9, .int 0, .ref q_10, .null, .int 0, .int 0, .int 0])), (q_1, .inl (cT 0, 12, .inl (fun _ => 0))), (q_2, .inl (cT 0, 3, .inl (fun _ => 0))), (q_3, .inl (cT 0, 30, .inl (fun _ => 0))), (q_4, .inl (cT 0, 3, .inl (fun _ => 0))), (q_5, .inl (cT 0, 12, .inl (fun _ => 0))), (q_6, .inl (cT 0, 3, .inl (fun _ => 0))), (q_7, .inl (cT 0, 3, .inl (fun _ => 0))), (q_8, .inl (cT 0, 8, .inl (fun _ => 0))), (q_9, .inl (cT 0, 3, .inl (fun _ => 0))), (q_10, .inl (cT 0, 6, .inl (fun _ => 0))), (q_11, .inl (cT 0, 6, .inl (fun _ => 0)))] _ := hP
  have hD : va_D A [(h0, .inr (1, [.null, .int 0, .int 0, .ref q_1, .ref q_2, .ref q_3, .ref q_4, .ref q_5, .ref q_6, .ref q_7, .ref q_8, .ref q_9, .int 0, .ref q_10, .null, .int 0, .int 0, .int 0])), (q_1, .inl (cT 0, 12, .inl (fun _ => 0))), (q_2, .inl (cT 0, 3, .inl (fun _ => 0))), (q_3, .inl (cT 0, 30, .inl (fun _ => 0))), (q_4, .inl (cT 0, 3, .inl (fun _ => 0))), (q_5, .inl (cT 0, 12, .inl (fun _ => 0))), (q_6, .inl (cT 0, 3, .inl (fun _ => 0))), (q_7, .inl (cT 0, 3, .inl (fun _ => 0))), (q_8, .inl (cT 0, 8, .inl (fun _ => 0))), (q_9, .inl (cT 0, 3, .inl (fun _ => 0))), (q_10, .inl (cT 0, 6, .inl (fun _ => 0))), (q_11, .inl (cT 0, 6, .inl (fun _ => 0)))] := hD
  refine W.widen (k := 11) (n := 89) (Nat.le_of_ble_eq_true rfl) (Nat.le_of_ble_eq_true rfl) ?_
  refine va_putF (D := D) (ci := 1) (v := .ref q_11) (ty := (.array .int)) (C := RX1) (T := TX1) (N := 18) hx hb hts (fun _ h => List.mem_cons_of_mem _ (List.mem_append_right _ h)) tyX1 tyX1_ok nmX1 hown hK hP hD hS 0 rfl rfl 14 (by decide) (hts (.fieldLink RX1 42 "PuppetFilm$Floor" "worked" "[I") (List.mem_of_getElem? (i := 15) (by decide +kernel))) (fun _ h9 => h9) rfl hin rfl (by decide +kernel) rfl rfl (Nat.le_of_ble_eq_true rfl) dX1_init_84 (fun H locs hP hD hS => ?_)
  have hP : va_P D vwCl [(h0, .inr (1, [.null, .int 0, .int 0, .ref q_1, .ref q_2, .ref q_3, .ref q_4, .ref q_5, .ref q_6, .ref q_7, .ref q_8, .ref q_9, .int 0, .ref q_10, .ref q_11, .int 0, .int 0, .int 0])), (q_1, .inl (cT 0, 12, .inl (fun _ => 0))), (q_2, .inl (cT 0, 3, .inl (fun _ => 0))), (q_3, .inl (cT 0, 30, .inl (fun _ => 0))), (q_4, .inl (cT 0, 3, .inl (fun _ => 0))), (q_5, .inl (cT 0, 12, .inl (fun _ => 0))), (q_6, .inl (cT 0, 3, .inl (fun _ => 0))), (q_7, .inl (cT 0, 3, .inl (fun _ => 0))), (q_8, .inl (cT 0, 8, .inl (fun _ => 0))), (q_9, .inl (cT 0, 3, .inl (fun _ => 0))), (q_10, .inl (cT 0, 6, .inl (fun _ => 0))), (q_11, .inl (cT 0, 6, .inl (fun _ => 0)))] _ := hP
  have hD : va_D A [(h0, .inr (1, [.null, .int 0, .int 0, .ref q_1, .ref q_2, .ref q_3, .ref q_4, .ref q_5, .ref q_6, .ref q_7, .ref q_8, .ref q_9, .int 0, .ref q_10, .ref q_11, .int 0, .int 0, .int 0])), (q_1, .inl (cT 0, 12, .inl (fun _ => 0))), (q_2, .inl (cT 0, 3, .inl (fun _ => 0))), (q_3, .inl (cT 0, 30, .inl (fun _ => 0))), (q_4, .inl (cT 0, 3, .inl (fun _ => 0))), (q_5, .inl (cT 0, 12, .inl (fun _ => 0))), (q_6, .inl (cT 0, 3, .inl (fun _ => 0))), (q_7, .inl (cT 0, 3, .inl (fun _ => 0))), (q_8, .inl (cT 0, 8, .inl (fun _ => 0))), (q_9, .inl (cT 0, 3, .inl (fun _ => 0))), (q_10, .inl (cT 0, 6, .inl (fun _ => 0))), (q_11, .inl (cT 0, 6, .inl (fun _ => 0)))] := hD
  refine lv_aload_n hx hb dX1_init_87 rfl (lv_at hl 0 rfl) ?_
  refine lv_aload_n hx hb dX1_init_88 rfl (lv_at hl 1 rfl) ?_
  refine va_putF (D := D) (ci := 1) (v := .ref st) (ty := (.object "PuppetFilm$Studio")) (C := RX1) (T := TX1) (N := 18) hx hb hts (fun _ h => List.mem_cons_of_mem _ (List.mem_append_right _ h)) tyX1 tyX1_ok nmX1 hown hK hP hD hS 0 rfl rfl 0 (by decide) (hts (.fieldLink RX1 45 "PuppetFilm$Floor" "studio" "LPuppetFilm$Studio;") (List.mem_of_getElem? (i := 16) (by decide +kernel))) (fun _ h9 => h9) rfl hin rfl (by decide +kernel) rfl rfl (Nat.le_of_ble_eq_true rfl) dX1_init_89 (fun H locs hP hD hS => ?_)
  have hP : va_P D vwCl [(h0, .inr (1, [.ref st, .int 0, .int 0, .ref q_1, .ref q_2, .ref q_3, .ref q_4, .ref q_5, .ref q_6, .ref q_7, .ref q_8, .ref q_9, .int 0, .ref q_10, .ref q_11, .int 0, .int 0, .int 0])), (q_1, .inl (cT 0, 12, .inl (fun _ => 0))), (q_2, .inl (cT 0, 3, .inl (fun _ => 0))), (q_3, .inl (cT 0, 30, .inl (fun _ => 0))), (q_4, .inl (cT 0, 3, .inl (fun _ => 0))), (q_5, .inl (cT 0, 12, .inl (fun _ => 0))), (q_6, .inl (cT 0, 3, .inl (fun _ => 0))), (q_7, .inl (cT 0, 3, .inl (fun _ => 0))), (q_8, .inl (cT 0, 8, .inl (fun _ => 0))), (q_9, .inl (cT 0, 3, .inl (fun _ => 0))), (q_10, .inl (cT 0, 6, .inl (fun _ => 0))), (q_11, .inl (cT 0, 6, .inl (fun _ => 0)))] _ := hP
  have hD : va_D A [(h0, .inr (1, [.ref st, .int 0, .int 0, .ref q_1, .ref q_2, .ref q_3, .ref q_4, .ref q_5, .ref q_6, .ref q_7, .ref q_8, .ref q_9, .int 0, .ref q_10, .ref q_11, .int 0, .int 0, .int 0])), (q_1, .inl (cT 0, 12, .inl (fun _ => 0))), (q_2, .inl (cT 0, 3, .inl (fun _ => 0))), (q_3, .inl (cT 0, 30, .inl (fun _ => 0))), (q_4, .inl (cT 0, 3, .inl (fun _ => 0))), (q_5, .inl (cT 0, 12, .inl (fun _ => 0))), (q_6, .inl (cT 0, 3, .inl (fun _ => 0))), (q_7, .inl (cT 0, 3, .inl (fun _ => 0))), (q_8, .inl (cT 0, 8, .inl (fun _ => 0))), (q_9, .inl (cT 0, 3, .inl (fun _ => 0))), (q_10, .inl (cT 0, 6, .inl (fun _ => 0))), (q_11, .inl (cT 0, 6, .inl (fun _ => 0)))] := hD
  refine lv_aload_n hx hb dX1_init_92 rfl (lv_at hl 0 rfl) ?_
  refine lv_iload_n hx hb dX1_init_93 rfl (lv_at hl 2 rfl) ?_
  refine va_putF (D := D) (ci := 1) (v := .int 0) (ty := .boolean) (C := RX1) (T := TX1) (N := 18) hx hb hts (fun _ h => List.mem_cons_of_mem _ (List.mem_append_right _ h)) tyX1 tyX1_ok nmX1 hown hK hP hD hS 0 rfl rfl 1 (by decide) (hts (.fieldLink RX1 49 "PuppetFilm$Floor" "real" "Z") (List.mem_of_getElem? (i := 17) (by decide +kernel))) (fun _ h9 => h9) rfl hin rfl (by decide +kernel) rfl rfl (Nat.le_of_ble_eq_true rfl) dX1_init_94 (fun H locs hP hD hS => ?_)
  have hP : va_P D vwCl [(h0, .inr (1, [.ref st, .int 0, .int 0, .ref q_1, .ref q_2, .ref q_3, .ref q_4, .ref q_5, .ref q_6, .ref q_7, .ref q_8, .ref q_9, .int 0, .ref q_10, .ref q_11, .int 0, .int 0, .int 0])), (q_1, .inl (cT 0, 12, .inl (fun _ => 0))), (q_2, .inl (cT 0, 3, .inl (fun _ => 0))), (q_3, .inl (cT 0, 30, .inl (fun _ => 0))), (q_4, .inl (cT 0, 3, .inl (fun _ => 0))), (q_5, .inl (cT 0, 12, .inl (fun _ => 0))), (q_6, .inl (cT 0, 3, .inl (fun _ => 0))), (q_7, .inl (cT 0, 3, .inl (fun _ => 0))), (q_8, .inl (cT 0, 8, .inl (fun _ => 0))), (q_9, .inl (cT 0, 3, .inl (fun _ => 0))), (q_10, .inl (cT 0, 6, .inl (fun _ => 0))), (q_11, .inl (cT 0, 6, .inl (fun _ => 0)))] _ := hP
  have hD : va_D A [(h0, .inr (1, [.ref st, .int 0, .int 0, .ref q_1, .ref q_2, .ref q_3, .ref q_4, .ref q_5, .ref q_6, .ref q_7, .ref q_8, .ref q_9, .int 0, .ref q_10, .ref q_11, .int 0, .int 0, .int 0])), (q_1, .inl (cT 0, 12, .inl (fun _ => 0))), (q_2, .inl (cT 0, 3, .inl (fun _ => 0))), (q_3, .inl (cT 0, 30, .inl (fun _ => 0))), (q_4, .inl (cT 0, 3, .inl (fun _ => 0))), (q_5, .inl (cT 0, 12, .inl (fun _ => 0))), (q_6, .inl (cT 0, 3, .inl (fun _ => 0))), (q_7, .inl (cT 0, 3, .inl (fun _ => 0))), (q_8, .inl (cT 0, 8, .inl (fun _ => 0))), (q_9, .inl (cT 0, 3, .inl (fun _ => 0))), (q_10, .inl (cT 0, 6, .inl (fun _ => 0))), (q_11, .inl (cT 0, 6, .inl (fun _ => 0)))] := hD
  refine lv_aload_n hx hb dX1_init_97 rfl (lv_at hl 0 rfl) ?_
  refine va_get (D := D) (ci := 1) (v := .ref q_2) (C := RX1) (T := TX1) (N := 18) hx hb hts (fun _ h => List.mem_cons_of_mem _ (List.mem_append_right _ h)) hown hK hP 0 rfl rfl 4 (by decide) (hts (.fieldLink RX1 15 "PuppetFilm$Floor" "on" "[I") (List.mem_of_getElem? (i := 6) (by decide +kernel))) (fun _ h9 => h9) rfl dX1_init_98 ?_
  refine lv_iconst (v := (-1)) hx hb dX1_init_101 (by decide) ?_
  have hF := va_free (wc := [(q_2, .inl (cT 0, 3, .inl (fun _ => 0)))]) hD hS hA [2] rfl
  refine va_callv (va_runS (As := [.ref q_2, .int (-1)]) (rest := []) ⟨hx, hb, hml, hown, hts⟩ (c_fill_3 l D cT q_2 (fun _ => 0) (-1) _ ) (va_cwS 2 hts gX1_init_J7_fill_53178 rfl rfl rfl (by decide +kernel) ⟨Nat.le_of_ble_eq_true rfl, Nat.le_of_ble_eq_true rfl⟩) (ps_w hP hD hK hG [2] rfl rfl rfl) rfl rfl hl.1 rfl (lv_room (Nat.le_of_ble_eq_true rfl)) dX1_init_102 ⟨Nat.le_of_ble_eq_true rfl, Nat.le_of_ble_eq_true rfl⟩) hS (fun q _ h => hF q h) hF (fun uu9 tt9 H locs ht hvm wr_12 hB hz1 hk1 hS => ?_)
  obtain ⟨hP1, hD1⟩ := hB
  rw [ht] at hP1
  obtain ⟨hP, hD⟩ := va_join (wr := [(h0, .inr (1, [.ref st, .int 0, .int 0, .ref q_1, .ref q_2, .ref q_3, .ref q_4, .ref q_5, .ref q_6, .ref q_7, .ref q_8, .ref q_9, .int 0, .ref q_10, .ref q_11, .int 0, .int 0, .int 0])), (q_1, .inl (cT 0, 12, .inl (fun _ => 0))), (q_3, .inl (cT 0, 30, .inl (fun _ => 0))), (q_4, .inl (cT 0, 3, .inl (fun _ => 0))), (q_5, .inl (cT 0, 12, .inl (fun _ => 0))), (q_6, .inl (cT 0, 3, .inl (fun _ => 0))), (q_7, .inl (cT 0, 3, .inl (fun _ => 0))), (q_8, .inl (cT 0, 8, .inl (fun _ => 0))), (q_9, .inl (cT 0, 3, .inl (fun _ => 0))), (q_10, .inl (cT 0, 6, .inl (fun _ => 0))), (q_11, .inl (cT 0, 6, .inl (fun _ => 0)))]) (w1 := [(q_2, .inl (cT 0, 3, .inl (upd (upd (upd (fun _ => 0) 0 (-1)) 1 (-1)) 2 (-1))))]) hP hD [2] [0, 1, 3, 4, 5, 6, 7, 8, 9, 10, 11] rfl rfl (by decide) (by decide) hk1 hF hP1 hD1
  have hP : va_P D vwCl [(h0, .inr (1, [.ref st, .int 0, .int 0, .ref q_1, .ref q_2, .ref q_3, .ref q_4, .ref q_5, .ref q_6, .ref q_7, .ref q_8, .ref q_9, .int 0, .ref q_10, .ref q_11, .int 0, .int 0, .int 0])), (q_1, .inl (cT 0, 12, .inl (fun _ => 0))), (q_3, .inl (cT 0, 30, .inl (fun _ => 0))), (q_4, .inl (cT 0, 3, .inl (fun _ => 0))), (q_5, .inl (cT 0, 12, .inl (fun _ => 0))), (q_6, .inl (cT 0, 3, .inl (fun _ => 0))), (q_7, .inl (cT 0, 3, .inl (fun _ => 0))), (q_8, .inl (cT 0, 8, .inl (fun _ => 0))), (q_9, .inl (cT 0, 3, .inl (fun _ => 0))), (q_10, .inl (cT 0, 6, .inl (fun _ => 0))), (q_11, .inl (cT 0, 6, .inl (fun _ => 0))), (q_2, .inl (cT 0, 3, .inl (upd (upd (upd (fun _ => 0) 0 (-1)) 1 (-1)) 2 (-1))))] _ := hP
  have hD : va_D A [(h0, .inr (1, [.ref st, .int 0, .int 0, .ref q_1, .ref q_2, .ref q_3, .ref q_4, .ref q_5, .ref q_6, .ref q_7, .ref q_8, .ref q_9, .int 0, .ref q_10, .ref q_11, .int 0, .int 0, .int 0])), (q_1, .inl (cT 0, 12, .inl (fun _ => 0))), (q_3, .inl (cT 0, 30, .inl (fun _ => 0))), (q_4, .inl (cT 0, 3, .inl (fun _ => 0))), (q_5, .inl (cT 0, 12, .inl (fun _ => 0))), (q_6, .inl (cT 0, 3, .inl (fun _ => 0))), (q_7, .inl (cT 0, 3, .inl (fun _ => 0))), (q_8, .inl (cT 0, 8, .inl (fun _ => 0))), (q_9, .inl (cT 0, 3, .inl (fun _ => 0))), (q_10, .inl (cT 0, 6, .inl (fun _ => 0))), (q_11, .inl (cT 0, 6, .inl (fun _ => 0))), (q_2, .inl (cT 0, 3, .inl (upd (upd (upd (fun _ => 0) 0 (-1)) 1 (-1)) 2 (-1))))] := hD
  refine lv_aload_n hx hb dX1_init_105 rfl (lv_at hl 0 rfl) ?_
  refine va_get (D := D) (ci := 1) (v := .ref q_6) (C := RX1) (T := TX1) (N := 18) hx hb hts (fun _ h => List.mem_cons_of_mem _ (List.mem_append_right _ h)) hown hK hP 0 rfl rfl 8 (by decide) (hts (.fieldLink RX1 27 "PuppetFilm$Floor" "dressing" "[I") (List.mem_of_getElem? (i := 10) (by decide +kernel))) (fun _ h9 => h9) rfl dX1_init_106 ?_
  refine lv_iconst (v := (-1)) hx hb dX1_init_109 (by decide) ?_
  have hF := va_free (wc := [(q_6, .inl (cT 0, 3, .inl (fun _ => 0)))]) hD hS hA [5] rfl
  refine va_callv (va_runS (As := [.ref q_6, .int (-1)]) (rest := []) ⟨hx, hb, hml, hown, hts⟩ (c_fill_3 l D cT q_6 (fun _ => 0) (-1) _ ) (va_cwS 2 hts gX1_init_J7_fill_53178 rfl rfl rfl (by decide +kernel) ⟨Nat.le_of_ble_eq_true rfl, Nat.le_of_ble_eq_true rfl⟩) (ps_w hP hD hK hG [5] rfl rfl rfl) rfl rfl hl.1 rfl (lv_room (Nat.le_of_ble_eq_true rfl)) dX1_init_110 ⟨Nat.le_of_ble_eq_true rfl, Nat.le_of_ble_eq_true rfl⟩) hS (fun q _ h => hF q h) hF (fun uu9 tt9 H locs ht hvm wr_13 hB hz1 hk1 hS => ?_)
  obtain ⟨hP1, hD1⟩ := hB
  rw [ht] at hP1
  obtain ⟨hP, hD⟩ := va_join (wr := [(h0, .inr (1, [.ref st, .int 0, .int 0, .ref q_1, .ref q_2, .ref q_3, .ref q_4, .ref q_5, .ref q_6, .ref q_7, .ref q_8, .ref q_9, .int 0, .ref q_10, .ref q_11, .int 0, .int 0, .int 0])), (q_1, .inl (cT 0, 12, .inl (fun _ => 0))), (q_3, .inl (cT 0, 30, .inl (fun _ => 0))), (q_4, .inl (cT 0, 3, .inl (fun _ => 0))), (q_5, .inl (cT 0, 12, .inl (fun _ => 0))), (q_7, .inl (cT 0, 3, .inl (fun _ => 0))), (q_8, .inl (cT 0, 8, .inl (fun _ => 0))), (q_9, .inl (cT 0, 3, .inl (fun _ => 0))), (q_10, .inl (cT 0, 6, .inl (fun _ => 0))), (q_11, .inl (cT 0, 6, .inl (fun _ => 0))), (q_2, .inl (cT 0, 3, .inl (upd (upd (upd (fun _ => 0) 0 (-1)) 1 (-1)) 2 (-1))))]) (w1 := [(q_6, .inl (cT 0, 3, .inl (upd (upd (upd (fun _ => 0) 0 (-1)) 1 (-1)) 2 (-1))))]) hP hD [5] [0, 1, 2, 3, 4, 6, 7, 8, 9, 10, 11] rfl rfl (by decide) (by decide) hk1 hF hP1 hD1
  have hP : va_P D vwCl [(h0, .inr (1, [.ref st, .int 0, .int 0, .ref q_1, .ref q_2, .ref q_3, .ref q_4, .ref q_5, .ref q_6, .ref q_7, .ref q_8, .ref q_9, .int 0, .ref q_10, .ref q_11, .int 0, .int 0, .int 0])), (q_1, .inl (cT 0, 12, .inl (fun _ => 0))), (q_3, .inl (cT 0, 30, .inl (fun _ => 0))), (q_4, .inl (cT 0, 3, .inl (fun _ => 0))), (q_5, .inl (cT 0, 12, .inl (fun _ => 0))), (q_7, .inl (cT 0, 3, .inl (fun _ => 0))), (q_8, .inl (cT 0, 8, .inl (fun _ => 0))), (q_9, .inl (cT 0, 3, .inl (fun _ => 0))), (q_10, .inl (cT 0, 6, .inl (fun _ => 0))), (q_11, .inl (cT 0, 6, .inl (fun _ => 0))), (q_2, .inl (cT 0, 3, .inl (upd (upd (upd (fun _ => 0) 0 (-1)) 1 (-1)) 2 (-1)))), (q_6, .inl (cT 0, 3, .inl (upd (upd (upd (fun _ => 0) 0 (-1)) 1 (-1)) 2 (-1))))] _ := hP
  have hD : va_D A [(h0, .inr (1, [.ref st, .int 0, .int 0, .ref q_1, .ref q_2, .ref q_3, .ref q_4, .ref q_5, .ref q_6, .ref q_7, .ref q_8, .ref q_9, .int 0, .ref q_10, .ref q_11, .int 0, .int 0, .int 0])), (q_1, .inl (cT 0, 12, .inl (fun _ => 0))), (q_3, .inl (cT 0, 30, .inl (fun _ => 0))), (q_4, .inl (cT 0, 3, .inl (fun _ => 0))), (q_5, .inl (cT 0, 12, .inl (fun _ => 0))), (q_7, .inl (cT 0, 3, .inl (fun _ => 0))), (q_8, .inl (cT 0, 8, .inl (fun _ => 0))), (q_9, .inl (cT 0, 3, .inl (fun _ => 0))), (q_10, .inl (cT 0, 6, .inl (fun _ => 0))), (q_11, .inl (cT 0, 6, .inl (fun _ => 0))), (q_2, .inl (cT 0, 3, .inl (upd (upd (upd (fun _ => 0) 0 (-1)) 1 (-1)) 2 (-1)))), (q_6, .inl (cT 0, 3, .inl (upd (upd (upd (fun _ => 0) 0 (-1)) 1 (-1)) 2 (-1))))] := hD
  refine lv_aload_n hx hb dX1_init_113 rfl (lv_at hl 0 rfl) ?_
  refine va_get (D := D) (ci := 1) (v := .ref q_8) (C := RX1) (T := TX1) (N := 18) hx hb hts (fun _ h => List.mem_cons_of_mem _ (List.mem_append_right _ h)) hown hK hP 0 rfl rfl 10 (by decide) (hts (.fieldLink RX1 33 "PuppetFilm$Floor" "standing" "[I") (List.mem_of_getElem? (i := 12) (by decide +kernel))) (fun _ h9 => h9) rfl dX1_init_114 ?_
  refine lv_iconst (v := (-1)) hx hb dX1_init_117 (by decide) ?_
  have hF := va_free (wc := [(q_8, .inl (cT 0, 8, .inl (fun _ => 0)))]) hD hS hA [6] rfl
  refine va_callv (va_runS (As := [.ref q_8, .int (-1)]) (rest := []) ⟨hx, hb, hml, hown, hts⟩ (c_fill_8 l D cT q_8 (fun _ => 0) (-1) _ ) (va_cwS 2 hts gX1_init_J7_fill_53178 rfl rfl rfl (by decide +kernel) ⟨Nat.le_of_ble_eq_true rfl, Nat.le_of_ble_eq_true rfl⟩) (ps_w hP hD hK hG [6] rfl rfl rfl) rfl rfl hl.1 rfl (lv_room (Nat.le_of_ble_eq_true rfl)) dX1_init_118 ⟨Nat.le_of_ble_eq_true rfl, Nat.le_of_ble_eq_true rfl⟩) hS (fun q _ h => hF q h) hF (fun uu9 tt9 H locs ht hvm wr_14 hB hz1 hk1 hS => ?_)
  obtain ⟨hP1, hD1⟩ := hB
  rw [ht] at hP1
  obtain ⟨hP, hD⟩ := va_join (wr := [(h0, .inr (1, [.ref st, .int 0, .int 0, .ref q_1, .ref q_2, .ref q_3, .ref q_4, .ref q_5, .ref q_6, .ref q_7, .ref q_8, .ref q_9, .int 0, .ref q_10, .ref q_11, .int 0, .int 0, .int 0])), (q_1, .inl (cT 0, 12, .inl (fun _ => 0))), (q_3, .inl (cT 0, 30, .inl (fun _ => 0))), (q_4, .inl (cT 0, 3, .inl (fun _ => 0))), (q_5, .inl (cT 0, 12, .inl (fun _ => 0))), (q_7, .inl (cT 0, 3, .inl (fun _ => 0))), (q_9, .inl (cT 0, 3, .inl (fun _ => 0))), (q_10, .inl (cT 0, 6, .inl (fun _ => 0))), (q_11, .inl (cT 0, 6, .inl (fun _ => 0))), (q_2, .inl (cT 0, 3, .inl (upd (upd (upd (fun _ => 0) 0 (-1)) 1 (-1)) 2 (-1)))), (q_6, .inl (cT 0, 3, .inl (upd (upd (upd (fun _ => 0) 0 (-1)) 1 (-1)) 2 (-1))))]) (w1 := [(q_8, .inl (cT 0, 8, .inl (upd (upd (upd (upd (upd (upd (upd (upd (fun _ => 0) 0 (-1)) 1 (-1)) 2 (-1)) 3 (-1)) 4 (-1)) 5 (-1)) 6 (-1)) 7 (-1))))]) hP hD [6] [0, 1, 2, 3, 4, 5, 7, 8, 9, 10, 11] rfl rfl (by decide) (by decide) hk1 hF hP1 hD1
  have hP : va_P D vwCl [(h0, .inr (1, [.ref st, .int 0, .int 0, .ref q_1, .ref q_2, .ref q_3, .ref q_4, .ref q_5, .ref q_6, .ref q_7, .ref q_8, .ref q_9, .int 0, .ref q_10, .ref q_11, .int 0, .int 0, .int 0])), (q_1, .inl (cT 0, 12, .inl (fun _ => 0))), (q_3, .inl (cT 0, 30, .inl (fun _ => 0))), (q_4, .inl (cT 0, 3, .inl (fun _ => 0))), (q_5, .inl (cT 0, 12, .inl (fun _ => 0))), (q_7, .inl (cT 0, 3, .inl (fun _ => 0))), (q_9, .inl (cT 0, 3, .inl (fun _ => 0))), (q_10, .inl (cT 0, 6, .inl (fun _ => 0))), (q_11, .inl (cT 0, 6, .inl (fun _ => 0))), (q_2, .inl (cT 0, 3, .inl (upd (upd (upd (fun _ => 0) 0 (-1)) 1 (-1)) 2 (-1)))), (q_6, .inl (cT 0, 3, .inl (upd (upd (upd (fun _ => 0) 0 (-1)) 1 (-1)) 2 (-1)))), (q_8, .inl (cT 0, 8, .inl (upd (upd (upd (upd (upd (upd (upd (upd (fun _ => 0) 0 (-1)) 1 (-1)) 2 (-1)) 3 (-1)) 4 (-1)) 5 (-1)) 6 (-1)) 7 (-1))))] _ := hP
  have hD : va_D A [(h0, .inr (1, [.ref st, .int 0, .int 0, .ref q_1, .ref q_2, .ref q_3, .ref q_4, .ref q_5, .ref q_6, .ref q_7, .ref q_8, .ref q_9, .int 0, .ref q_10, .ref q_11, .int 0, .int 0, .int 0])), (q_1, .inl (cT 0, 12, .inl (fun _ => 0))), (q_3, .inl (cT 0, 30, .inl (fun _ => 0))), (q_4, .inl (cT 0, 3, .inl (fun _ => 0))), (q_5, .inl (cT 0, 12, .inl (fun _ => 0))), (q_7, .inl (cT 0, 3, .inl (fun _ => 0))), (q_9, .inl (cT 0, 3, .inl (fun _ => 0))), (q_10, .inl (cT 0, 6, .inl (fun _ => 0))), (q_11, .inl (cT 0, 6, .inl (fun _ => 0))), (q_2, .inl (cT 0, 3, .inl (upd (upd (upd (fun _ => 0) 0 (-1)) 1 (-1)) 2 (-1)))), (q_6, .inl (cT 0, 3, .inl (upd (upd (upd (fun _ => 0) 0 (-1)) 1 (-1)) 2 (-1)))), (q_8, .inl (cT 0, 8, .inl (upd (upd (upd (upd (upd (upd (upd (upd (fun _ => 0) 0 (-1)) 1 (-1)) 2 (-1)) 3 (-1)) 4 (-1)) 5 (-1)) 6 (-1)) 7 (-1))))] := hD
  refine lv_aload_n hx hb dX1_init_121 rfl (lv_at hl 0 rfl) ?_
  refine va_get (D := D) (ci := 1) (v := .ref q_9) (C := RX1) (T := TX1) (N := 18) hx hb hts (fun _ h => List.mem_cons_of_mem _ (List.mem_append_right _ h)) hown hK hP 0 rfl rfl 11 (by decide) (hts (.fieldLink RX1 36 "PuppetFilm$Floor" "stations" "[I") (List.mem_of_getElem? (i := 13) (by decide +kernel))) (fun _ h9 => h9) rfl dX1_init_122 ?_
  refine lv_iconst (v := (-1)) hx hb dX1_init_125 (by decide) ?_
  have hF := va_free (wc := [(q_9, .inl (cT 0, 3, .inl (fun _ => 0)))]) hD hS hA [6] rfl
  refine va_callv (va_runS (As := [.ref q_9, .int (-1)]) (rest := []) ⟨hx, hb, hml, hown, hts⟩ (c_fill_3 l D cT q_9 (fun _ => 0) (-1) _ ) (va_cwS 2 hts gX1_init_J7_fill_53178 rfl rfl rfl (by decide +kernel) ⟨Nat.le_of_ble_eq_true rfl, Nat.le_of_ble_eq_true rfl⟩) (ps_w hP hD hK hG [6] rfl rfl rfl) rfl rfl hl.1 rfl (lv_room (Nat.le_of_ble_eq_true rfl)) dX1_init_126 ⟨Nat.le_of_ble_eq_true rfl, Nat.le_of_ble_eq_true rfl⟩) hS (fun q _ h => hF q h) hF (fun uu9 tt9 H locs ht hvm wr_15 hB hz1 hk1 hS => ?_)
  obtain ⟨hP1, hD1⟩ := hB
  rw [ht] at hP1
  obtain ⟨hP, hD⟩ := va_join (wr := [(h0, .inr (1, [.ref st, .int 0, .int 0, .ref q_1, .ref q_2, .ref q_3, .ref q_4, .ref q_5, .ref q_6, .ref q_7, .ref q_8, .ref q_9, .int 0, .ref q_10, .ref q_11, .int 0, .int 0, .int 0])), (q_1, .inl (cT 0, 12, .inl (fun _ => 0))), (q_3, .inl (cT 0, 30, .inl (fun _ => 0))), (q_4, .inl (cT 0, 3, .inl (fun _ => 0))), (q_5, .inl (cT 0, 12, .inl (fun _ => 0))), (q_7, .inl (cT 0, 3, .inl (fun _ => 0))), (q_10, .inl (cT 0, 6, .inl (fun _ => 0))), (q_11, .inl (cT 0, 6, .inl (fun _ => 0))), (q_2, .inl (cT 0, 3, .inl (upd (upd (upd (fun _ => 0) 0 (-1)) 1 (-1)) 2 (-1)))), (q_6, .inl (cT 0, 3, .inl (upd (upd (upd (fun _ => 0) 0 (-1)) 1 (-1)) 2 (-1)))), (q_8, .inl (cT 0, 8, .inl (upd (upd (upd (upd (upd (upd (upd (upd (fun _ => 0) 0 (-1)) 1 (-1)) 2 (-1)) 3 (-1)) 4 (-1)) 5 (-1)) 6 (-1)) 7 (-1))))]) (w1 := [(q_9, .inl (cT 0, 3, .inl (upd (upd (upd (fun _ => 0) 0 (-1)) 1 (-1)) 2 (-1))))]) hP hD [6] [0, 1, 2, 3, 4, 5, 7, 8, 9, 10, 11] rfl rfl (by decide) (by decide) hk1 hF hP1 hD1
  have hP : va_P D vwCl [(h0, .inr (1, [.ref st, .int 0, .int 0, .ref q_1, .ref q_2, .ref q_3, .ref q_4, .ref q_5, .ref q_6, .ref q_7, .ref q_8, .ref q_9, .int 0, .ref q_10, .ref q_11, .int 0, .int 0, .int 0])), (q_1, .inl (cT 0, 12, .inl (fun _ => 0))), (q_3, .inl (cT 0, 30, .inl (fun _ => 0))), (q_4, .inl (cT 0, 3, .inl (fun _ => 0))), (q_5, .inl (cT 0, 12, .inl (fun _ => 0))), (q_7, .inl (cT 0, 3, .inl (fun _ => 0))), (q_10, .inl (cT 0, 6, .inl (fun _ => 0))), (q_11, .inl (cT 0, 6, .inl (fun _ => 0))), (q_2, .inl (cT 0, 3, .inl (upd (upd (upd (fun _ => 0) 0 (-1)) 1 (-1)) 2 (-1)))), (q_6, .inl (cT 0, 3, .inl (upd (upd (upd (fun _ => 0) 0 (-1)) 1 (-1)) 2 (-1)))), (q_8, .inl (cT 0, 8, .inl (upd (upd (upd (upd (upd (upd (upd (upd (fun _ => 0) 0 (-1)) 1 (-1)) 2 (-1)) 3 (-1)) 4 (-1)) 5 (-1)) 6 (-1)) 7 (-1)))), (q_9, .inl (cT 0, 3, .inl (upd (upd (upd (fun _ => 0) 0 (-1)) 1 (-1)) 2 (-1))))] _ := hP
  have hD : va_D A [(h0, .inr (1, [.ref st, .int 0, .int 0, .ref q_1, .ref q_2, .ref q_3, .ref q_4, .ref q_5, .ref q_6, .ref q_7, .ref q_8, .ref q_9, .int 0, .ref q_10, .ref q_11, .int 0, .int 0, .int 0])), (q_1, .inl (cT 0, 12, .inl (fun _ => 0))), (q_3, .inl (cT 0, 30, .inl (fun _ => 0))), (q_4, .inl (cT 0, 3, .inl (fun _ => 0))), (q_5, .inl (cT 0, 12, .inl (fun _ => 0))), (q_7, .inl (cT 0, 3, .inl (fun _ => 0))), (q_10, .inl (cT 0, 6, .inl (fun _ => 0))), (q_11, .inl (cT 0, 6, .inl (fun _ => 0))), (q_2, .inl (cT 0, 3, .inl (upd (upd (upd (fun _ => 0) 0 (-1)) 1 (-1)) 2 (-1)))), (q_6, .inl (cT 0, 3, .inl (upd (upd (upd (fun _ => 0) 0 (-1)) 1 (-1)) 2 (-1)))), (q_8, .inl (cT 0, 8, .inl (upd (upd (upd (upd (upd (upd (upd (upd (fun _ => 0) 0 (-1)) 1 (-1)) 2 (-1)) 3 (-1)) 4 (-1)) 5 (-1)) 6 (-1)) 7 (-1)))), (q_9, .inl (cT 0, 3, .inl (upd (upd (upd (fun _ => 0) 0 (-1)) 1 (-1)) 2 (-1))))] := hD
  have hP9 := hP.sub (ws' := [(h0, .inr (1, [.ref st, .int 0, .int 0, .ref q_1, .ref q_2, .ref q_3, .ref q_4, .ref q_5, .ref q_6, .ref q_7, .ref q_8, .ref q_9, .int 0, .ref q_10, .ref q_11, .int 0, .int 0, .int 0])), (q_1, .inl (cT 0, 12, .inl (fun _ => 0))), (q_2, .inl (cT 0, 3, .inl (upd (upd (upd (fun _ => 0) 0 (-1)) 1 (-1)) 2 (-1)))), (q_3, .inl (cT 0, 30, .inl (fun _ => 0))), (q_4, .inl (cT 0, 3, .inl (fun _ => 0))), (q_5, .inl (cT 0, 12, .inl (fun _ => 0))), (q_6, .inl (cT 0, 3, .inl (upd (upd (upd (fun _ => 0) 0 (-1)) 1 (-1)) 2 (-1)))), (q_7, .inl (cT 0, 3, .inl (fun _ => 0))), (q_8, .inl (cT 0, 8, .inl (upd (upd (upd (upd (upd (upd (upd (upd (fun _ => 0) 0 (-1)) 1 (-1)) 2 (-1)) 3 (-1)) 4 (-1)) 5 (-1)) 6 (-1)) 7 (-1)))), (q_9, .inl (cT 0, 3, .inl (upd (upd (upd (fun _ => 0) 0 (-1)) 1 (-1)) 2 (-1)))), (q_10, .inl (cT 0, 6, .inl (fun _ => 0))), (q_11, .inl (cT 0, 6, .inl (fun _ => 0)))]) [0, 1, 8, 2, 3, 4, 9, 5, 10, 11, 6, 7] rfl
  have hD9 := hD.sub (ws' := [(h0, .inr (1, [.ref st, .int 0, .int 0, .ref q_1, .ref q_2, .ref q_3, .ref q_4, .ref q_5, .ref q_6, .ref q_7, .ref q_8, .ref q_9, .int 0, .ref q_10, .ref q_11, .int 0, .int 0, .int 0])), (q_1, .inl (cT 0, 12, .inl (fun _ => 0))), (q_2, .inl (cT 0, 3, .inl (upd (upd (upd (fun _ => 0) 0 (-1)) 1 (-1)) 2 (-1)))), (q_3, .inl (cT 0, 30, .inl (fun _ => 0))), (q_4, .inl (cT 0, 3, .inl (fun _ => 0))), (q_5, .inl (cT 0, 12, .inl (fun _ => 0))), (q_6, .inl (cT 0, 3, .inl (upd (upd (upd (fun _ => 0) 0 (-1)) 1 (-1)) 2 (-1)))), (q_7, .inl (cT 0, 3, .inl (fun _ => 0))), (q_8, .inl (cT 0, 8, .inl (upd (upd (upd (upd (upd (upd (upd (upd (fun _ => 0) 0 (-1)) 1 (-1)) 2 (-1)) 3 (-1)) 4 (-1)) 5 (-1)) 6 (-1)) 7 (-1)))), (q_9, .inl (cT 0, 3, .inl (upd (upd (upd (fun _ => 0) 0 (-1)) 1 (-1)) 2 (-1)))), (q_10, .inl (cT 0, 6, .inl (fun _ => 0))), (q_11, .inl (cT 0, 6, .inl (fun _ => 0)))]) [0, 1, 8, 2, 3, 4, 9, 5, 10, 11, 6, 7] (by decide) rfl
  exact W.vret hx hb hr (fun t ht hW => ⟨⟨(), rfl, trivial, ⟨q_1, q_2, q_3, q_4, q_5, q_6, q_7, q_8, q_9, q_10, q_11, (upd (upd (upd (fun _ => 0) 0 (-1)) 1 (-1)) 2 (-1)), (upd (upd (upd (fun _ => 0) 0 (-1)) 1 (-1)) 2 (-1)), (upd (upd (upd (upd (upd (upd (upd (upd (fun _ => 0) 0 (-1)) 1 (-1)) 2 (-1)) 3 (-1)) 4 (-1)) 5 (-1)) 6 (-1)) 7 (-1)), (upd (upd (upd (fun _ => 0) 0 (-1)) 1 (-1)) 2 (-1)), by decide +kernel, by decide +kernel, by decide +kernel, by decide +kernel, by rw [ht]; exact hP9, hD9⟩⟩, hS.F ht⟩) hS.2.2 dX1_init_129
