theorem dX10_load_0 : decode cX10_load 0 = .ok (.aload_n 0, 1) := by decide +kernel
theorem dX10_load_1 : decode cX10_load 1 = .ok (.iconst 0, 1) := by decide +kernel
theorem dX10_load_10 : decode cX10_load 10 = .ok (.invokestatic 15, 3) := by decide +kernel
theorem dX10_load_13 : decode cX10_load 13 = .ok (.invokestatic 15, 3) := by decide +kernel
theorem dX10_load_16 : decode cX10_load 16 = .ok (.invokestatic 21, 3) := by decide +kernel
theorem dX10_load_19 : decode cX10_load 19 = .ok (.putfield 24, 3) := by decide +kernel
theorem dX10_load_2 : decode cX10_load 2 = .ok (.iload_n 2, 1) := by decide +kernel
theorem dX10_load_22 : decode cX10_load 22 = .ok (.aload_n 1, 1) := by decide +kernel
theorem dX10_load_23 : decode cX10_load 23 = .ok (.iconst 0, 1) := by decide +kernel
theorem dX10_load_24 : decode cX10_load 24 = .ok (.aload_n 0, 1) := by decide +kernel
theorem dX10_load_25 : decode cX10_load 25 = .ok (.getfield 9, 3) := by decide +kernel
theorem dX10_load_28 : decode cX10_load 28 = .ok (.iconst 0, 1) := by decide +kernel
theorem dX10_load_29 : decode cX10_load 29 = .ok (.aload_n 0, 1) := by decide +kernel
theorem dX10_load_3 : decode cX10_load 3 = .ok (.aload_n 1, 1) := by decide +kernel
theorem dX10_load_30 : decode cX10_load 30 = .ok (.getfield 24, 3) := by decide +kernel
theorem dX10_load_33 : decode cX10_load 33 = .ok (.invokestatic 28, 3) := by decide +kernel
theorem dX10_load_36 : decode cX10_load 36 = .ok (.aload_n 0, 1) := by decide +kernel
theorem dX10_load_37 : decode cX10_load 37 = .ok (.iconst 0, 1) := by decide +kernel
theorem dX10_load_38 : decode cX10_load 38 = .ok (.putfield 34, 3) := by decide +kernel
theorem dX10_load_4 : decode cX10_load 4 = .ok (.arraylength, 1) := by decide +kernel
theorem dX10_load_41 : decode cX10_load 41 = .ok (.aload_n 0, 1) := by decide +kernel
theorem dX10_load_42 : decode cX10_load 42 = .ok (.iconst 0, 1) := by decide +kernel
theorem dX10_load_43 : decode cX10_load 43 = .ok (.putfield 37, 3) := by decide +kernel
theorem dX10_load_46 : decode cX10_load 46 = .ok (.aload_n 0, 1) := by decide +kernel
theorem dX10_load_47 : decode cX10_load 47 = .ok (.iconst (-1), 1) := by decide +kernel
theorem dX10_load_48 : decode cX10_load 48 = .ok (.putfield 40, 3) := by decide +kernel
theorem dX10_load_5 : decode cX10_load 5 = .ok (.aload_n 0, 1) := by decide +kernel
theorem dX10_load_51 : decode cX10_load 51 = .ok (.return_, 1) := by decide +kernel
theorem dX10_load_6 : decode cX10_load 6 = .ok (.getfield 9, 3) := by decide +kernel
theorem dX10_load_9 : decode cX10_load 9 = .ok (.arraylength, 1) := by decide +kernel
set_option maxHeartbeats 4000000 in
set_option maxRecDepth 100000 in
theorem c_X10_load (l : Launch) (D : va_G) (cT : Nat → ClassId) (h0 : Nat) (x_tape : Nat) (w_text : Nat) (sz : Nat)  : Met l yX10_load wsX10_load ({ frames := 8, cells := 0, slots := 0, locals := 160 }) (va_Pc [.ref h0, .ref x_tape, .int 0] (PW D cT [(h0, .inr (10, [.ref w_text, .int 0, .int 0, .int 0, .int 0, .int 0, .int 0])), (w_text, .inl (cT 1, 400, .inl (fun _ => 0))), (x_tape, .inl (cT 1, 400, .inl (fun _ => 0)))] sz)) (va_Qv (fun _ : Unit => True) (fun (_ : Unit) (t : State) => ∃ (fx2 : Nat → Int32), va_P D vwCl [(h0, .inr (10, [.ref w_text, .int 0, .int 0, .int 0, .int (-1), .int 0, .int 0])), (w_text, .inl (cT 1, 400, .inl fx2))] t.heap ∧ va_D (va_A [(h0, .inr (10, [.ref w_text, .int 0, .int 0, .int 0, .int 0, .int 0, .int 0])), (w_text, .inl (cT 1, 400, .inl (fun _ => 0))), (x_tape, .inl (cT 1, 400, .inl (fun _ => 0)))] sz) [(h0, .inr (10, [.ref w_text, .int 0, .int 0, .int 0, .int (-1), .int 0, .int 0])), (w_text, .inl (cT 1, 400, .inl fx2))]) (va_A [(h0, .inr (10, [.ref w_text, .int 0, .int 0, .int 0, .int 0, .int 0, .int 0])), (w_text, .inl (cT 1, 400, .inl (fun _ => 0))), (x_tape, .inl (cT 1, 400, .inl (fun _ => 0)))] sz)) 0 0 (va_A [(h0, .inr (10, [.ref w_text, .int 0, .int 0, .int 0, .int 0, .int 0, .int 0])), (w_text, .inl (cT 1, 400, .inl (fun _ => 0))), (x_tape, .inl (cT 1, 400, .inl (fun _ => 0)))] sz) := by
  refine Met.ofW (cc := cX10_load) (maxL := 3) (ret := none) (by decide) rfl ?_
  intro p e s m args below meth c s₁ B hml hv
  obtain ⟨rfl, hsz, hP, hK, hD0, hG⟩ := hv
  have hx := B.exec
  have hb := B.bytes
  have hr := B.returns
  have hts := atoms_spec (ws := wsX10_load) B.pre
  have hown : s.vm.findClass RX10 = some m.cls := findClass_of_methodNamed B.named
  have hlocks := B.notSynchronized
  subst hsz
  have hD := hD0.self (sz := s.heap.size)
  generalize hAe : va_A [(h0, .inr (10, [.ref w_text, .int 0, .int 0, .int 0, .int 0, .int 0, .int 0])), (w_text, .inl (cT 1, 400, .inl (fun _ => 0))), (x_tape, .inl (cT 1, 400, .inl (fun _ => 0)))] s.heap.size = A at hD ⊢
  have hA : ∀ q : Nat, s.heap.size ≤ q → A q := fun q h => by rw [← hAe]; exact Or.inr h
  have hS : va_S A s.heap s.heap [] := va_S.rf
  have hP : va_P D vwCl [(h0, .inr (10, [.ref w_text, .int 0, .int 0, .int 0, .int 0, .int 0, .int 0])), (w_text, .inl (cT 1, 400, .inl (fun _ => 0))), (x_tape, .inl (cT 1, 400, .inl (fun _ => 0)))] s.heap := hP
  have hl := lv_entry ([.ref h0, .ref x_tape, .int 0]) (n := 3) (Nat.le_of_ble_eq_true rfl)
  rw [lg_entry_eq]
  generalize (lg_sl ([.ref h0, .ref x_tape, .int 0]) ++ List.replicate (3 - (lg_sl ([.ref h0, .ref x_tape, .int 0])).length) Slot.unset).toArray = ls at hl ⊢
  have hl : lv_has ls 3 [(0, .ref h0), (1, .ref x_tape), (2, .int 0)] := hl
  refine lv_aload_n hx hb dX10_load_0 rfl (lv_at hl 0 rfl) ?_
  refine lv_iconst (v := 0) hx hb dX10_load_1 (by decide) ?_
  refine lv_iload_n hx hb dX10_load_2 rfl (lv_at hl 2 rfl) ?_
  refine lv_aload_n hx hb dX10_load_3 rfl (lv_at hl 1 rfl) ?_
  refine va_alen (v := 400) hx hb hK hP 2 1 rfl rfl rfl dX10_load_4 ?_
  refine lv_aload_n hx hb dX10_load_5 rfl (lv_at hl 0 rfl) ?_
  refine va_get (D := D) (ci := 10) (v := .ref w_text) (C := RX10) (T := TX10) (N := 7) hx hb hts (fun _ h => List.mem_cons_of_mem _ (List.mem_append_right _ h)) hown hK hP 0 rfl rfl 0 (by decide) (hts (.fieldLink RX10 9 "PuppetFilm$Words" "text" "[B") (List.mem_of_getElem? (i := 1) (by decide +kernel))) (fun _ h9 => h9) rfl dX10_load_6 ?_
  refine va_alen (v := 400) hx hb hK hP 1 1 rfl rfl rfl dX10_load_9 ?_
  refine va_mmin hx hb (hml.trans hl.1.symm) hown (hts (.methodLink RX10 15 Lib.Math.min.name) (List.mem_of_getElem? (i := 2) (by decide +kernel))) (hts (.static Lib.Math.min.name) (List.mem_of_getElem? (i := 3) (by decide +kernel))) (hts (.initialized "java/lang/Math") (List.mem_of_getElem? (i := 4) (by decide +kernel))) (hts (.code Lib.Math.min.name Lib.Math.min.code 2 (some .int)) (List.mem_of_getElem? (i := 5) (by decide +kernel))) (Nat.le_of_ble_eq_true rfl) (Nat.le_of_ble_eq_true rfl) (Nat.le_of_ble_eq_true rfl) (Nat.le_of_ble_eq_true rfl) dX10_load_10 ?_
  refine lv_topi (fun z_1 ez_1 => ?_)
  obtain rfl : z_1 = 400 := ez_1.trans (by decide)
  refine va_mmin hx hb (hml.trans hl.1.symm) hown (hts (.methodLink RX10 15 Lib.Math.min.name) (List.mem_of_getElem? (i := 2) (by decide +kernel))) (hts (.static Lib.Math.min.name) (List.mem_of_getElem? (i := 3) (by decide +kernel))) (hts (.initialized "java/lang/Math") (List.mem_of_getElem? (i := 4) (by decide +kernel))) (hts (.code Lib.Math.min.name Lib.Math.min.code 2 (some .int)) (List.mem_of_getElem? (i := 5) (by decide +kernel))) (Nat.le_of_ble_eq_true rfl) (Nat.le_of_ble_eq_true rfl) (Nat.le_of_ble_eq_true rfl) (Nat.le_of_ble_eq_true rfl) dX10_load_13 ?_
  refine lv_topi (fun z_2 ez_2 => ?_)
  obtain rfl : z_2 = 0 := ez_2.trans (by decide)
  refine va_mmax hx hb (hml.trans hl.1.symm) hown (hts (.methodLink RX10 21 Lib.Math.max.name) (List.mem_of_getElem? (i := 6) (by decide +kernel))) (hts (.static Lib.Math.max.name) (List.mem_of_getElem? (i := 7) (by decide +kernel))) (hts (.initialized "java/lang/Math") (List.mem_of_getElem? (i := 4) (by decide +kernel))) (hts (.code Lib.Math.max.name Lib.Math.max.code 2 (some .int)) (List.mem_of_getElem? (i := 8) (by decide +kernel))) (Nat.le_of_ble_eq_true rfl) (Nat.le_of_ble_eq_true rfl) (Nat.le_of_ble_eq_true rfl) (Nat.le_of_ble_eq_true rfl) dX10_load_16 ?_
  refine lv_topi (fun z_3 ez_3 => ?_)
  obtain rfl : z_3 = 0 := ez_3.trans (by decide)
  refine va_put (D := D) (ci := 10) (v := .int 0) (ty := .int) (C := RX10) (T := TX10) (N := 7) hx hb hts (fun _ h => List.mem_cons_of_mem _ (List.mem_append_right _ h)) tyX10 tyX10_ok nmX10 hown hK hP hD hS 0 rfl rfl 1 (by decide) (hts (.fieldLink RX10 24 "PuppetFilm$Words" "length" "I") (List.mem_of_getElem? (i := 9) (by decide +kernel))) (fun _ h9 => h9) rfl (by decide +kernel) rfl rfl (Nat.le_of_ble_eq_true rfl) dX10_load_19 (fun H locs hP hD hS => ?_)
  have hP : va_P D vwCl [(h0, .inr (10, [.ref w_text, .int 0, .int 0, .int 0, .int 0, .int 0, .int 0])), (w_text, .inl (cT 1, 400, .inl (fun _ => 0))), (x_tape, .inl (cT 1, 400, .inl (fun _ => 0)))] _ := hP
  have hD : va_D A [(h0, .inr (10, [.ref w_text, .int 0, .int 0, .int 0, .int 0, .int 0, .int 0])), (w_text, .inl (cT 1, 400, .inl (fun _ => 0))), (x_tape, .inl (cT 1, 400, .inl (fun _ => 0)))] := hD
  refine lv_aload_n hx hb dX10_load_22 rfl (lv_at hl 1 rfl) ?_
  refine lv_iconst (v := 0) hx hb dX10_load_23 (by decide) ?_
  refine lv_aload_n hx hb dX10_load_24 rfl (lv_at hl 0 rfl) ?_
  refine va_get (D := D) (ci := 10) (v := .ref w_text) (C := RX10) (T := TX10) (N := 7) hx hb hts (fun _ h => List.mem_cons_of_mem _ (List.mem_append_right _ h)) hown hK hP 0 rfl rfl 0 (by decide) (hts (.fieldLink RX10 9 "PuppetFilm$Words" "text" "[B") (List.mem_of_getElem? (i := 1) (by decide +kernel))) (fun _ h9 => h9) rfl dX10_load_25 ?_
  refine lv_iconst (v := 0) hx hb dX10_load_28 (by decide) ?_
  refine lv_aload_n hx hb dX10_load_29 rfl (lv_at hl 0 rfl) ?_
  refine va_get (D := D) (ci := 10) (v := .int 0) (C := RX10) (T := TX10) (N := 7) hx hb hts (fun _ h => List.mem_cons_of_mem _ (List.mem_append_right _ h)) hown hK hP 0 rfl rfl 1 (by decide) (hts (.fieldLink RX10 24 "PuppetFilm$Words" "length" "I") (List.mem_of_getElem? (i := 9) (by decide +kernel))) (fun _ h9 => h9) rfl dX10_load_30 ?_
  refine va_copyi hx hb (hml.trans hl.1.symm) hown (hts (.methodLink RX10 28 arraycopyName) (List.mem_of_getElem? (i := 10) (by decide +kernel))) (hts (.native arraycopyName) (List.mem_of_getElem? (i := 11) (by decide +kernel))) (hts (.static arraycopyName) (List.mem_of_getElem? (i := 12) (by decide +kernel))) (hts (.initialized "java/lang/System") (List.mem_of_getElem? (i := 13) (by decide +kernel))) hK hP hD hS 2 1 1 1 rfl rfl rfl rfl rfl (by decide) (by decide) (by decide) (by decide) (by decide) (fun _ h => absurd h (Nat.not_lt_zero _)) (Nat.le_of_ble_eq_true rfl) (Nat.le_of_ble_eq_true rfl) dX10_load_33 (fun H locs hP hD hS => ?_)
  generalize hef_4 : va_cpy (α := Int32) (fun _ => 0) (fun _ => 0) (Int32.toNatClampNeg 0) (Int32.toNatClampNeg 0) (Int32.toNatClampNeg 0) = f_4 at hP hD
  have hP : va_P D vwCl [(h0, .inr (10, [.ref w_text, .int 0, .int 0, .int 0, .int 0, .int 0, .int 0])), (w_text, .inl (cT 1, 400, .inl f_4)), (x_tape, .inl (cT 1, 400, .inl (fun _ => 0)))] _ := hP
  have hD : va_D A [(h0, .inr (10, [.ref w_text, .int 0, .int 0, .int 0, .int 0, .int 0, .int 0])), (w_text, .inl (cT 1, 400, .inl f_4)), (x_tape, .inl (cT 1, 400, .inl (fun _ => 0)))] := hD
  refine lv_aload_n hx hb dX10_load_36 rfl (lv_at hl 0 rfl) ?_
  refine lv_iconst (v := 0) hx hb dX10_load_37 (by decide) ?_
  refine va_put (D := D) (ci := 10) (v := .int 0) (ty := .int) (C := RX10) (T := TX10) (N := 7) hx hb hts (fun _ h => List.mem_cons_of_mem _ (List.mem_append_right _ h)) tyX10 tyX10_ok nmX10 hown hK hP hD hS 0 rfl rfl 2 (by decide) (hts (.fieldLink RX10 34 "PuppetFilm$Words" "at" "I") (List.mem_of_getElem? (i := 14) (by decide +kernel))) (fun _ h9 => h9) rfl (by decide +kernel) rfl rfl (Nat.le_of_ble_eq_true rfl) dX10_load_38 (fun H locs hP hD hS => ?_)
  have hP : va_P D vwCl [(h0, .inr (10, [.ref w_text, .int 0, .int 0, .int 0, .int 0, .int 0, .int 0])), (w_text, .inl (cT 1, 400, .inl f_4)), (x_tape, .inl (cT 1, 400, .inl (fun _ => 0)))] _ := hP
  have hD : va_D A [(h0, .inr (10, [.ref w_text, .int 0, .int 0, .int 0, .int 0, .int 0, .int 0])), (w_text, .inl (cT 1, 400, .inl f_4)), (x_tape, .inl (cT 1, 400, .inl (fun _ => 0)))] := hD
  refine lv_aload_n hx hb dX10_load_41 rfl (lv_at hl 0 rfl) ?_
  refine lv_iconst (v := 0) hx hb dX10_load_42 (by decide) ?_
  refine va_put (D := D) (ci := 10) (v := .int 0) (ty := .int) (C := RX10) (T := TX10) (N := 7) hx hb hts (fun _ h => List.mem_cons_of_mem _ (List.mem_append_right _ h)) tyX10 tyX10_ok nmX10 hown hK hP hD hS 0 rfl rfl 3 (by decide) (hts (.fieldLink RX10 37 "PuppetFilm$Words" "fault" "I") (List.mem_of_getElem? (i := 15) (by decide +kernel))) (fun _ h9 => h9) rfl (by decide +kernel) rfl rfl (Nat.le_of_ble_eq_true rfl) dX10_load_43 (fun H locs hP hD hS => ?_)
  have hP : va_P D vwCl [(h0, .inr (10, [.ref w_text, .int 0, .int 0, .int 0, .int 0, .int 0, .int 0])), (w_text, .inl (cT 1, 400, .inl f_4)), (x_tape, .inl (cT 1, 400, .inl (fun _ => 0)))] _ := hP
  have hD : va_D A [(h0, .inr (10, [.ref w_text, .int 0, .int 0, .int 0, .int 0, .int 0, .int 0])), (w_text, .inl (cT 1, 400, .inl f_4)), (x_tape, .inl (cT 1, 400, .inl (fun _ => 0)))] := hD
  refine lv_aload_n hx hb dX10_load_46 rfl (lv_at hl 0 rfl) ?_
  refine lv_iconst (v := (-1)) hx hb dX10_load_47 (by decide) ?_
  refine va_put (D := D) (ci := 10) (v := .int (-1)) (ty := .int) (C := RX10) (T := TX10) (N := 7) hx hb hts (fun _ h => List.mem_cons_of_mem _ (List.mem_append_right _ h)) tyX10 tyX10_ok nmX10 hown hK hP hD hS 0 rfl rfl 4 (by decide) (hts (.fieldLink RX10 40 "PuppetFilm$Words" "place" "I") (List.mem_of_getElem? (i := 16) (by decide +kernel))) (fun _ h9 => h9) rfl (by decide +kernel) rfl rfl (Nat.le_of_ble_eq_true rfl) dX10_load_48 (fun H locs hP hD hS => ?_)
  have hP : va_P D vwCl [(h0, .inr (10, [.ref w_text, .int 0, .int 0, .int 0, .int (-1), .int 0, .int 0])), (w_text, .inl (cT 1, 400, .inl f_4)), (x_tape, .inl (cT 1, 400, .inl (fun _ => 0)))] _ := hP
  have hD : va_D A [(h0, .inr (10, [.ref w_text, .int 0, .int 0, .int 0, .int (-1), .int 0, .int 0])), (w_text, .inl (cT 1, 400, .inl f_4)), (x_tape, .inl (cT 1, 400, .inl (fun _ => 0)))] := hD
  have hP9 := hP.sub (ws' := [(h0, .inr (10, [.ref w_text, .int 0, .int 0, .int 0, .int (-1), .int 0, .int 0])), (w_text, .inl (cT 1, 400, .inl f_4))]) [0, 1] rfl
  have hD9 := hD.sub (ws' := [(h0, .inr (10, [.ref w_text, .int 0, .int 0, .int 0, .int (-1), .int 0, .int 0])), (w_text, .inl (cT 1, 400, .inl f_4))]) [0, 1] (by decide) rfl
  exact W.vret hx hb hr (fun t ht hW => ⟨⟨(), rfl, trivial, ⟨f_4, by rw [ht]; exact hP9, hD9⟩⟩, hS.F ht⟩) hS.2.2 dX10_load_51
theorem dX10_peek_0 : decode cX10_peek 0 = .ok (.aload_n 0, 1) := by decide +kernel
theorem dX10_peek_1 : decode cX10_peek 1 = .ok (.getfield 34, 3) := by decide +kernel
theorem dX10_peek_38 : decode cX10_peek 38 = .ok (.aload_n 0, 1) := by decide +kernel
theorem dX10_peek_39 : decode cX10_peek 39 = .ok (.getfield 34, 3) := by decide +kernel
theorem dX10_peek_4 : decode cX10_peek 4 = .ok (.aload_n 0, 1) := by decide +kernel
theorem dX10_peek_42 : decode cX10_peek 42 = .ok (.aload_n 0, 1) := by decide +kernel
theorem dX10_peek_43 : decode cX10_peek 43 = .ok (.getfield 24, 3) := by decide +kernel
theorem dX10_peek_46 : decode cX10_peek 46 = .ok (.if_icmp .ge 19, 3) := by decide +kernel
theorem dX10_peek_5 : decode cX10_peek 5 = .ok (.getfield 24, 3) := by decide +kernel
theorem dX10_peek_65 : decode cX10_peek 65 = .ok (.iconst (-1), 1) := by decide +kernel
theorem dX10_peek_66 : decode cX10_peek 66 = .ok (.ireturn, 1) := by decide +kernel
theorem dX10_peek_8 : decode cX10_peek 8 = .ok (.if_icmp .ge 30, 3) := by decide +kernel
set_option maxHeartbeats 4000000 in
set_option maxRecDepth 100000 in
theorem c_X10_peek (l : Launch) (D : va_G) (cT : Nat → ClassId) (h0 : Nat) (w_text : Nat) (w_place : Int32) (sz : Nat)  : Met l yX10_peek wsX10_peek ({ frames := 8, cells := 0, slots := 0, locals := 160 }) (va_Pc [.ref h0] (PW D cT [(h0, .inr (10, [.ref w_text, .int 0, .int 0, .int 0, .int w_place, .int 0, .int 0]))] sz)) (va_Qi (fun (r : Int32) (_ : Unit) => r = (-1)) (fun (_ : Unit) (t : State) => va_P D vwCl [(h0, .inr (10, [.ref w_text, .int 0, .int 0, .int 0, .int w_place, .int 0, .int 0]))] t.heap ∧ va_D (va_A [(h0, .inr (10, [.ref w_text, .int 0, .int 0, .int 0, .int w_place, .int 0, .int 0]))] sz) [(h0, .inr (10, [.ref w_text, .int 0, .int 0, .int 0, .int w_place, .int 0, .int 0]))]) (va_A [(h0, .inr (10, [.ref w_text, .int 0, .int 0, .int 0, .int w_place, .int 0, .int 0]))] sz)) 0 0 (va_A [(h0, .inr (10, [.ref w_text, .int 0, .int 0, .int 0, .int w_place, .int 0, .int 0]))] sz) := by
  refine Met.ofW (cc := cX10_peek) (maxL := 1) (ret := (some .int)) (by decide) rfl ?_
  intro p e s m args below meth c s₁ B hml hv
  obtain ⟨rfl, hsz, hP, hK, hD0, hG⟩ := hv
  have hx := B.exec
  have hb := B.bytes
  have hr := B.returns
  have hts := atoms_spec (ws := wsX10_peek) B.pre
  have hown : s.vm.findClass RX10 = some m.cls := findClass_of_methodNamed B.named
  have hlocks := B.notSynchronized
  subst hsz
  have hD := hD0.self (sz := s.heap.size)
  generalize hAe : va_A [(h0, .inr (10, [.ref w_text, .int 0, .int 0, .int 0, .int w_place, .int 0, .int 0]))] s.heap.size = A at hD ⊢
  have hA : ∀ q : Nat, s.heap.size ≤ q → A q := fun q h => by rw [← hAe]; exact Or.inr h
  have hS : va_S A s.heap s.heap [] := va_S.rf
  have hP : va_P D vwCl [(h0, .inr (10, [.ref w_text, .int 0, .int 0, .int 0, .int w_place, .int 0, .int 0]))] s.heap := hP
  have hl := lv_entry ([.ref h0]) (n := 1) (Nat.le_of_ble_eq_true rfl)
  rw [lg_entry_eq]
  generalize (lg_sl ([.ref h0]) ++ List.replicate (1 - (lg_sl ([.ref h0])).length) Slot.unset).toArray = ls at hl ⊢
  have hl : lv_has ls 1 [(0, .ref h0)] := hl
  refine lv_aload_n hx hb dX10_peek_0 rfl (lv_at hl 0 rfl) ?_
  refine va_get (D := D) (ci := 10) (v := .int 0) (C := RX10) (T := TX10) (N := 7) hx hb hts (fun _ h => List.mem_cons_of_mem _ (List.mem_append_right _ h)) hown hK hP 0 rfl rfl 2 (by decide) (hts (.fieldLink RX10 34 "PuppetFilm$Words" "at" "I") (List.mem_of_getElem? (i := 1) (by decide +kernel))) (fun _ h9 => h9) rfl dX10_peek_1 ?_
  refine lv_aload_n hx hb dX10_peek_4 rfl (lv_at hl 0 rfl) ?_
  refine va_get (D := D) (ci := 10) (v := .int 0) (C := RX10) (T := TX10) (N := 7) hx hb hts (fun _ h => List.mem_cons_of_mem _ (List.mem_append_right _ h)) hown hK hP 0 rfl rfl 1 (by decide) (hts (.fieldLink RX10 24 "PuppetFilm$Words" "length" "I") (List.mem_of_getElem? (i := 2) (by decide +kernel))) (fun _ h9 => h9) rfl dX10_peek_5 ?_
  refine lv_icmp_ge (tgt := 38) hx hb dX10_peek_8 (by decide) (fun _ => ?_) (fun c9 => absurd c9 (by decide))
  refine lv_aload_n hx hb dX10_peek_38 rfl (lv_at hl 0 rfl) ?_
  refine va_get (D := D) (ci := 10) (v := .int 0) (C := RX10) (T := TX10) (N := 7) hx hb hts (fun _ h => List.mem_cons_of_mem _ (List.mem_append_right _ h)) hown hK hP 0 rfl rfl 2 (by decide) (hts (.fieldLink RX10 34 "PuppetFilm$Words" "at" "I") (List.mem_of_getElem? (i := 1) (by decide +kernel))) (fun _ h9 => h9) rfl dX10_peek_39 ?_
  refine lv_aload_n hx hb dX10_peek_42 rfl (lv_at hl 0 rfl) ?_
  refine va_get (D := D) (ci := 10) (v := .int 0) (C := RX10) (T := TX10) (N := 7) hx hb hts (fun _ h => List.mem_cons_of_mem _ (List.mem_append_right _ h)) hown hK hP 0 rfl rfl 1 (by decide) (hts (.fieldLink RX10 24 "PuppetFilm$Words" "length" "I") (List.mem_of_getElem? (i := 2) (by decide +kernel))) (fun _ h9 => h9) rfl dX10_peek_43 ?_
  refine lv_icmp_ge (tgt := 65) hx hb dX10_peek_46 (by decide) (fun _ => ?_) (fun c9 => absurd c9 (by decide))
  refine lv_iconst (v := (-1)) hx hb dX10_peek_65 (by decide) ?_
  have hP9 := hP.sub (ws' := [(h0, .inr (10, [.ref w_text, .int 0, .int 0, .int 0, .int w_place, .int 0, .int 0]))]) [0] rfl
  have hD9 := hD.sub (ws' := [(h0, .inr (10, [.ref w_text, .int 0, .int 0, .int 0, .int w_place, .int 0, .int 0]))]) [0] (by decide) rfl
  exact W.iret (v := (-1)) hx hb hr (fun t ht hW => ⟨⟨(-1), (), rfl, rfl, ⟨by rw [ht]; exact hP9, hD9⟩⟩, hS.F ht⟩) hS.2.2 dX10_peek_66
theorem dX10_fail_0 : decode cX10_fail 0 = .ok (.aload_n 0, 1) := by decide +kernel
theorem dX10_fail_1 : decode cX10_fail 1 = .ok (.getfield 37, 3) := by decide +kernel
theorem dX10_fail_12 : decode cX10_fail 12 = .ok (.aload_n 0, 1) := by decide +kernel
theorem dX10_fail_13 : decode cX10_fail 13 = .ok (.iload_n 2, 1) := by decide +kernel
theorem dX10_fail_14 : decode cX10_fail 14 = .ok (.putfield 40, 3) := by decide +kernel
theorem dX10_fail_17 : decode cX10_fail 17 = .ok (.return_, 1) := by decide +kernel
theorem dX10_fail_4 : decode cX10_fail 4 = .ok (.ifCond .ne 13, 3) := by decide +kernel
theorem dX10_fail_7 : decode cX10_fail 7 = .ok (.aload_n 0, 1) := by decide +kernel
theorem dX10_fail_8 : decode cX10_fail 8 = .ok (.iload_n 1, 1) := by decide +kernel
theorem dX10_fail_9 : decode cX10_fail 9 = .ok (.putfield 37, 3) := by decide +kernel
set_option maxHeartbeats 4000000 in
set_option maxRecDepth 100000 in
theorem c_X10_fail (l : Launch) (D : va_G) (cT : Nat → ClassId) (h0 : Nat) (p0 : Int32) (p1 : Int32) (w_text : Nat) (w_place : Int32) (sz : Nat)  : Met l yX10_fail wsX10_fail ({ frames := 8, cells := 0, slots := 0, locals := 160 }) (va_Pc [.ref h0, .int p0, .int p1] (PW D cT [(h0, .inr (10, [.ref w_text, .int 0, .int 0, .int 0, .int w_place, .int 0, .int 0]))] sz)) (va_Qv (fun _ : Unit => True) (fun (_ : Unit) (t : State) => va_P D vwCl [(h0, .inr (10, [.ref w_text, .int 0, .int 0, .int p0, .int p1, .int 0, .int 0]))] t.heap ∧ va_D (va_A [(h0, .inr (10, [.ref w_text, .int 0, .int 0, .int 0, .int w_place, .int 0, .int 0]))] sz) [(h0, .inr (10, [.ref w_text, .int 0, .int 0, .int p0, .int p1, .int 0, .int 0]))]) (va_A [(h0, .inr (10, [.ref w_text, .int 0, .int 0, .int 0, .int w_place, .int 0, .int 0]))] sz)) 0 0 (va_A [(h0, .inr (10, [.ref w_text, .int 0, .int 0, .int 0, .int w_place, .int 0, .int 0]))] sz) := by
  refine Met.ofW (cc := cX10_fail) (maxL := 3) (ret := none) (by decide) rfl ?_
  intro p e s m args below meth c s₁ B hml hv
  obtain ⟨rfl, hsz, hP, hK, hD0, hG⟩ := hv
  have hx := B.exec
  have hb := B.bytes
  have hr := B.returns
  have hts := atoms_spec (ws := wsX10_fail) B.pre
  have hown : s.vm.findClass RX10 = some m.cls := findClass_of_methodNamed B.named
  have hlocks := B.notSynchronized
  subst hsz
  have hD := hD0.self (sz := s.heap.size)
  generalize hAe : va_A [(h0, .inr (10, [.ref w_text, .int 0, .int 0, .int 0, .int w_place, .int 0, .int 0]))] s.heap.size = A at hD ⊢
  have hA : ∀ q : Nat, s.heap.size ≤ q → A q := fun q h => by rw [← hAe]; exact Or.inr h
  have hS : va_S A s.heap s.heap [] := va_S.rf
  have hP : va_P D vwCl [(h0, .inr (10, [.ref w_text, .int 0, .int 0, .int 0, .int w_place, .int 0, .int 0]))] s.heap := hP
  have hl := lv_entry ([.ref h0, .int p0, .int p1]) (n := 3) (Nat.le_of_ble_eq_true rfl)
  rw [lg_entry_eq]
  generalize (lg_sl ([.ref h0, .int p0, .int p1]) ++ List.replicate (3 - (lg_sl ([.ref h0, .int p0, .int p1])).length) Slot.unset).toArray = ls at hl ⊢
  have hl : lv_has ls 3 [(0, .ref h0), (1, .int p0), (2, .int p1)] := hl
  refine lv_aload_n hx hb dX10_fail_0 rfl (lv_at hl 0 rfl) ?_
  refine va_get (D := D) (ci := 10) (v := .int 0) (C := RX10) (T := TX10) (N := 7) hx hb hts (fun _ h => List.mem_cons_of_mem _ (List.mem_append_right _ h)) hown hK hP 0 rfl rfl 3 (by decide) (hts (.fieldLink RX10 37 "PuppetFilm$Words" "fault" "I") (List.mem_of_getElem? (i := 1) (by decide +kernel))) (fun _ h9 => h9) rfl dX10_fail_1 ?_
  refine lv_if_ne (tgt := 17) hx hb dX10_fail_4 (by decide) (fun c9 => absurd c9 (by decide)) (fun _ => ?_)
  refine lv_aload_n hx hb dX10_fail_7 rfl (lv_at hl 0 rfl) ?_
  refine lv_iload_n hx hb dX10_fail_8 rfl (lv_at hl 1 rfl) ?_
  refine va_put (D := D) (ci := 10) (v := .int p0) (ty := .int) (C := RX10) (T := TX10) (N := 7) hx hb hts (fun _ h => List.mem_cons_of_mem _ (List.mem_append_right _ h)) tyX10 tyX10_ok nmX10 hown hK hP hD hS 0 rfl rfl 3 (by decide) (hts (.fieldLink RX10 37 "PuppetFilm$Words" "fault" "I") (List.mem_of_getElem? (i := 1) (by decide +kernel))) (fun _ h9 => h9) rfl (by decide +kernel) rfl rfl (Nat.le_of_ble_eq_true rfl) dX10_fail_9 (fun H locs hP hD hS => ?_)
  have hP : va_P D vwCl [(h0, .inr (10, [.ref w_text, .int 0, .int 0, .int p0, .int w_place, .int 0, .int 0]))] _ := hP
  have hD : va_D A [(h0, .inr (10, [.ref w_text, .int 0, .int 0, .int p0, .int w_place, .int 0, .int 0]))] := hD
  refine lv_aload_n hx hb dX10_fail_12 rfl (lv_at hl 0 rfl) ?_
  refine lv_iload_n hx hb dX10_fail_13 rfl (lv_at hl 2 rfl) ?_
  refine va_put (D := D) (ci := 10) (v := .int p1) (ty := .int) (C := RX10) (T := TX10) (N := 7) hx hb hts (fun _ h => List.mem_cons_of_mem _ (List.mem_append_right _ h)) tyX10 tyX10_ok nmX10 hown hK hP hD hS 0 rfl rfl 4 (by decide) (hts (.fieldLink RX10 40 "PuppetFilm$Words" "place" "I") (List.mem_of_getElem? (i := 2) (by decide +kernel))) (fun _ h9 => h9) rfl (by decide +kernel) rfl rfl (Nat.le_of_ble_eq_true rfl) dX10_fail_14 (fun H locs hP hD hS => ?_)
  have hP : va_P D vwCl [(h0, .inr (10, [.ref w_text, .int 0, .int 0, .int p0, .int p1, .int 0, .int 0]))] _ := hP
  have hD : va_D A [(h0, .inr (10, [.ref w_text, .int 0, .int 0, .int p0, .int p1, .int 0, .int 0]))] := hD
  have hP9 := hP.sub (ws' := [(h0, .inr (10, [.ref w_text, .int 0, .int 0, .int p0, .int p1, .int 0, .int 0]))]) [0] rfl
  have hD9 := hD.sub (ws' := [(h0, .inr (10, [.ref w_text, .int 0, .int 0, .int p0, .int p1, .int 0, .int 0]))]) [0] (by decide) rfl
  exact W.vret hx hb hr (fun t ht hW => ⟨⟨(), rfl, trivial, ⟨by rw [ht]; exact hP9, hD9⟩⟩, hS.F ht⟩) hS.2.2 dX10_fail_17
theorem dX6_read_0 : decode cX6_read 0 = .ok (.aload_n 0, 1) := by decide +kernel
theorem dX6_read_1 : decode cX6_read 1 = .ok (.getfield 12, 3) := by decide +kernel
theorem dX6_read_10 : decode cX6_read 10 = .ok (.iconst 0, 1) := by decide +kernel
theorem dX6_read_11 : decode cX6_read 11 = .ok (.putfield 53, 3) := by decide +kernel
theorem dX6_read_120 : decode cX6_read 120 = .ok (.aload_n 0, 1) := by decide +kernel
theorem dX6_read_121 : decode cX6_read 121 = .ok (.getfield 66, 3) := by decide +kernel
theorem dX6_read_124 : decode cX6_read 124 = .ok (.ifCond .le 18, 3) := by decide +kernel
theorem dX6_read_14 : decode cX6_read 14 = .ok (.aload_n 0, 1) := by decide +kernel
theorem dX6_read_142 : decode cX6_read 142 = .ok (.aload_n 0, 1) := by decide +kernel
theorem dX6_read_143 : decode cX6_read 143 = .ok (.getfield 37, 3) := by decide +kernel
theorem dX6_read_146 : decode cX6_read 146 = .ok (.iconst 0, 1) := by decide +kernel
theorem dX6_read_147 : decode cX6_read 147 = .ok (.laload, 1) := by decide +kernel
theorem dX6_read_148 : decode cX6_read 148 = .ok (.lconst 1, 1) := by decide +kernel
theorem dX6_read_149 : decode cX6_read 149 = .ok (.lcmp, 1) := by decide +kernel
theorem dX6_read_15 : decode cX6_read 15 = .ok (.iconst 0, 1) := by decide +kernel
theorem dX6_read_150 : decode cX6_read 150 = .ok (.ifCond .lt 29, 3) := by decide +kernel
theorem dX6_read_16 : decode cX6_read 16 = .ok (.putfield 57, 3) := by decide +kernel
theorem dX6_read_179 : decode cX6_read 179 = .ok (.aload_n 0, 1) := by decide +kernel
theorem dX6_read_180 : decode cX6_read 180 = .ok (.getfield 12, 3) := by decide +kernel
theorem dX6_read_183 : decode cX6_read 183 = .ok (.iconst 4, 1) := by decide +kernel
theorem dX6_read_184 : decode cX6_read 184 = .ok (.aload_n 0, 1) := by decide +kernel
theorem dX6_read_185 : decode cX6_read 185 = .ok (.getfield 12, 3) := by decide +kernel
theorem dX6_read_188 : decode cX6_read 188 = .ok (.getfield 97, 3) := by decide +kernel
theorem dX6_read_19 : decode cX6_read 19 = .ok (.aload_n 0, 1) := by decide +kernel
theorem dX6_read_191 : decode cX6_read 191 = .ok (.invokevirtual 100, 3) := by decide +kernel
theorem dX6_read_194 : decode cX6_read 194 = .ok (.return_, 1) := by decide +kernel
theorem dX6_read_20 : decode cX6_read 20 = .ok (.iconst 0, 1) := by decide +kernel
theorem dX6_read_21 : decode cX6_read 21 = .ok (.putfield 60, 3) := by decide +kernel
theorem dX6_read_24 : decode cX6_read 24 = .ok (.aload_n 0, 1) := by decide +kernel
theorem dX6_read_25 : decode cX6_read 25 = .ok (.iconst 0, 1) := by decide +kernel
theorem dX6_read_26 : decode cX6_read 26 = .ok (.putfield 63, 3) := by decide +kernel
theorem dX6_read_29 : decode cX6_read 29 = .ok (.aload_n 0, 1) := by decide +kernel
theorem dX6_read_30 : decode cX6_read 30 = .ok (.iconst 0, 1) := by decide +kernel
theorem dX6_read_31 : decode cX6_read 31 = .ok (.putfield 66, 3) := by decide +kernel
theorem dX6_read_34 : decode cX6_read 34 = .ok (.aload_n 0, 1) := by decide +kernel
theorem dX6_read_35 : decode cX6_read 35 = .ok (.getfield 37, 3) := by decide +kernel
theorem dX6_read_38 : decode cX6_read 38 = .ok (.lconst 0, 1) := by decide +kernel
theorem dX6_read_39 : decode cX6_read 39 = .ok (.invokestatic 69, 3) := by decide +kernel
theorem dX6_read_4 : decode cX6_read 4 = .ok (.aload_n 1, 1) := by decide +kernel
theorem dX6_read_42 : decode cX6_read 42 = .ok (.aload_n 0, 1) := by decide +kernel
theorem dX6_read_43 : decode cX6_read 43 = .ok (.getfield 41, 3) := by decide +kernel
theorem dX6_read_46 : decode cX6_read 46 = .ok (.lconst 0, 1) := by decide +kernel
theorem dX6_read_47 : decode cX6_read 47 = .ok (.invokestatic 69, 3) := by decide +kernel
theorem dX6_read_5 : decode cX6_read 5 = .ok (.iload_n 2, 1) := by decide +kernel
theorem dX6_read_50 : decode cX6_read 50 = .ok (.iconst 0, 1) := by decide +kernel
theorem dX6_read_51 : decode cX6_read 51 = .ok (.istore_n 3, 1) := by decide +kernel
theorem dX6_read_52 : decode cX6_read 52 = .ok (.iload_n 3, 1) := by decide +kernel
theorem dX6_read_53 : decode cX6_read 53 = .ok (.sipush 400, 3) := by decide +kernel
theorem dX6_read_56 : decode cX6_read 56 = .ok (.if_icmp .gt 64, 3) := by decide +kernel
theorem dX6_read_59 : decode cX6_read 59 = .ok (.aload_n 0, 1) := by decide +kernel
theorem dX6_read_6 : decode cX6_read 6 = .ok (.invokevirtual 49, 3) := by decide +kernel
theorem dX6_read_60 : decode cX6_read 60 = .ok (.getfield 12, 3) := by decide +kernel
theorem dX6_read_63 : decode cX6_read 63 = .ok (.getfield 75, 3) := by decide +kernel
theorem dX6_read_66 : decode cX6_read 66 = .ok (.ifCond .ne 54, 3) := by decide +kernel
theorem dX6_read_69 : decode cX6_read 69 = .ok (.aload_n 0, 1) := by decide +kernel
theorem dX6_read_70 : decode cX6_read 70 = .ok (.getfield 12, 3) := by decide +kernel
theorem dX6_read_73 : decode cX6_read 73 = .ok (.invokevirtual 78, 3) := by decide +kernel
theorem dX6_read_76 : decode cX6_read 76 = .ok (.iconst (-1), 1) := by decide +kernel
theorem dX6_read_77 : decode cX6_read 77 = .ok (.if_icmp .eq 43, 3) := by decide +kernel
theorem dX6_read_9 : decode cX6_read 9 = .ok (.aload_n 0, 1) := by decide +kernel
set_option maxRecDepth 20000 in
theorem ggX6_read_J7_fill_d0a16 : GoodIn wsX6_read wsJ7_fill_d0a16 := goodIn_r _ [37] (by decide +kernel) (by decide +kernel)
set_option maxRecDepth 20000 in
theorem gX6_read_J7_fill_d0a16 : GoodIn wsX6_read (va_wsS RX6 69 yJ7_fill_d0a16 wsJ7_fill_d0a16) := goodIn_app (goodIn_of _ (by decide +kernel)) ggX6_read_J7_fill_d0a16
set_option maxRecDepth 20000 in
theorem ggX6_read_X10_fail : GoodIn wsX6_read wsX10_fail := goodIn_r _ [65, 32, 33, 226, 227, 228, 229, 230, 231, 232] (by decide +kernel) (by decide +kernel)
set_option maxRecDepth 20000 in
theorem gX6_read_X10_fail : GoodIn wsX6_read (wsV RX6 100 RX10 yX10_fail wsX10_fail) := goodIn_app (goodIn_of _ (by decide +kernel)) ggX6_read_X10_fail
set_option maxRecDepth 20000 in
theorem ggX6_read_X10_load : GoodIn wsX6_read wsX10_load := goodIn_r _ [17, 18, 19, 20, 21, 22, 23, 24, 25, 26, 27, 28, 29, 30, 31, 32, 33, 226, 227, 228, 229, 230, 231, 232] (by decide +kernel) (by decide +kernel)
set_option maxRecDepth 20000 in
theorem gX6_read_X10_load : GoodIn wsX6_read (wsV RX6 49 RX10 yX10_load wsX10_load) := goodIn_app (goodIn_of _ (by decide +kernel)) ggX6_read_X10_load
set_option maxRecDepth 20000 in
theorem ggX6_read_X10_peek : GoodIn wsX6_read wsX10_peek := goodIn_r _ [41, 31, 26, 18, 226, 227, 228, 229, 230, 231, 232] (by decide +kernel) (by decide +kernel)
set_option maxRecDepth 20000 in
theorem gX6_read_X10_peek : GoodIn wsX6_read (wsV RX6 78 RX10 yX10_peek wsX10_peek) := goodIn_app (goodIn_of _ (by decide +kernel)) ggX6_read_X10_peek
set_option maxHeartbeats 4000000 in
set_option maxRecDepth 100000 in
theorem c_X6_read (l : Launch) (D : va_G) (cT : Nat → ClassId) (h0 : Nat) (x_tape : Nat) (c_studio : Nat) (c_words : Nat) (c_lines : Nat) (c_aimWho : Nat) (c_aimJoint : Nat) (c_aimStep : Nat) (c_open : Nat) (c_frames : Nat) (c_done : Nat) (w_text : Nat) (sz : Nat)  : Met l yX6_read wsX6_read ({ frames := 9, cells := 0, slots := 0, locals := 220 }) (va_Pc [.ref h0, .ref x_tape, .int 0] (PW D cT [(h0, .inr (6, [.ref c_studio, .ref c_words, .ref c_lines, .int 0, .ref c_aimWho, .ref c_aimJoint, .ref c_aimStep, .int 0, .int 0, .int 0, .int 0, .ref c_open, .ref c_frames, .ref c_done])), (c_words, .inr (10, [.ref w_text, .int 0, .int 0, .int 0, .int 0, .int 0, .int 0])), (w_text, .inl (cT 1, 400, .inl (fun _ => 0))), (c_frames, .inl (cT 2, 5, .inr (.inl (fun _ => 0)))), (c_done, .inl (cT 2, 5, .inr (.inl (fun _ => 0)))), (x_tape, .inl (cT 1, 400, .inl (fun _ => 0)))] sz)) (va_Qv (fun _ : Unit => True) (fun (_ : Unit) (t : State) => va_P D vwCl [(h0, .inr (6, [.ref c_studio, .ref c_words, .ref c_lines, .int 0, .ref c_aimWho, .ref c_aimJoint, .ref c_aimStep, .int 0, .int 0, .int 0, .int 0, .ref c_open, .ref c_frames, .ref c_done])), (c_words, .inr (10, [.ref w_text, .int 0, .int 0, .int 4, .int 0, .int 0, .int 0]))] t.heap ∧ va_D (va_A [(h0, .inr (6, [.ref c_studio, .ref c_words, .ref c_lines, .int 0, .ref c_aimWho, .ref c_aimJoint, .ref c_aimStep, .int 0, .int 0, .int 0, .int 0, .ref c_open, .ref c_frames, .ref c_done])), (c_words, .inr (10, [.ref w_text, .int 0, .int 0, .int 0, .int 0, .int 0, .int 0])), (w_text, .inl (cT 1, 400, .inl (fun _ => 0))), (c_frames, .inl (cT 2, 5, .inr (.inl (fun _ => 0)))), (c_done, .inl (cT 2, 5, .inr (.inl (fun _ => 0)))), (x_tape, .inl (cT 1, 400, .inl (fun _ => 0)))] sz) [(h0, .inr (6, [.ref c_studio, .ref c_words, .ref c_lines, .int 0, .ref c_aimWho, .ref c_aimJoint, .ref c_aimStep, .int 0, .int 0, .int 0, .int 0, .ref c_open, .ref c_frames, .ref c_done])), (c_words, .inr (10, [.ref w_text, .int 0, .int 0, .int 4, .int 0, .int 0, .int 0]))]) (va_A [(h0, .inr (6, [.ref c_studio, .ref c_words, .ref c_lines, .int 0, .ref c_aimWho, .ref c_aimJoint, .ref c_aimStep, .int 0, .int 0, .int 0, .int 0, .ref c_open, .ref c_frames, .ref c_done])), (c_words, .inr (10, [.ref w_text, .int 0, .int 0, .int 0, .int 0, .int 0, .int 0])), (w_text, .inl (cT 1, 400, .inl (fun _ => 0))), (c_frames, .inl (cT 2, 5, .inr (.inl (fun _ => 0)))), (c_done, .inl (cT 2, 5, .inr (.inl (fun _ => 0)))), (x_tape, .inl (cT 1, 400, .inl (fun _ => 0)))] sz)) 0 0 (va_A [(h0, .inr (6, [.ref c_studio, .ref c_words, .ref c_lines, .int 0, .ref c_aimWho, .ref c_aimJoint, .ref c_aimStep, .int 0, .int 0, .int 0, .int 0, .ref c_open, .ref c_frames, .ref c_done])), (c_words, .inr (10, [.ref w_text, .int 0, .int 0, .int 0, .int 0, .int 0, .int 0])), (w_text, .inl (cT 1, 400, .inl (fun _ => 0))), (c_frames, .inl (cT 2, 5, .inr (.inl (fun _ => 0)))), (c_done, .inl (cT 2, 5, .inr (.inl (fun _ => 0)))), (x_tape, .inl (cT 1, 400, .inl (fun _ => 0)))] sz) := by
  refine Met.ofW (cc := cX6_read) (maxL := 4) (ret := none) (by decide) rfl ?_
  intro p e s m args below meth c s₁ B hml hv
  obtain ⟨rfl, hsz, hP, hK, hD0, hG⟩ := hv
  have hx := B.exec
  have hb := B.bytes
  have hr := B.returns
  have hts := atoms_spec (ws := wsX6_read) B.pre
  have hown : s.vm.findClass RX6 = some m.cls := findClass_of_methodNamed B.named
  have hlocks := B.notSynchronized
  subst hsz
  have hD := hD0.self (sz := s.heap.size)
  generalize hAe : va_A [(h0, .inr (6, [.ref c_studio, .ref c_words, .ref c_lines, .int 0, .ref c_aimWho, .ref c_aimJoint, .ref c_aimStep, .int 0, .int 0, .int 0, .int 0, .ref c_open, .ref c_frames, .ref c_done])), (c_words, .inr (10, [.ref w_text, .int 0, .int 0, .int 0, .int 0, .int 0, .int 0])), (w_text, .inl (cT 1, 400, .inl (fun _ => 0))), (c_frames, .inl (cT 2, 5, .inr (.inl (fun _ => 0)))), (c_done, .inl (cT 2, 5, .inr (.inl (fun _ => 0)))), (x_tape, .inl (cT 1, 400, .inl (fun _ => 0)))] s.heap.size = A at hD ⊢
  have hA : ∀ q : Nat, s.heap.size ≤ q → A q := fun q h => by rw [← hAe]; exact Or.inr h
  have hS : va_S A s.heap s.heap [] := va_S.rf
  have hP : va_P D vwCl [(h0, .inr (6, [.ref c_studio, .ref c_words, .ref c_lines, .int 0, .ref c_aimWho, .ref c_aimJoint, .ref c_aimStep, .int 0, .int 0, .int 0, .int 0, .ref c_open, .ref c_frames, .ref c_done])), (c_words, .inr (10, [.ref w_text, .int 0, .int 0, .int 0, .int 0, .int 0, .int 0])), (w_text, .inl (cT 1, 400, .inl (fun _ => 0))), (c_frames, .inl (cT 2, 5, .inr (.inl (fun _ => 0)))), (c_done, .inl (cT 2, 5, .inr (.inl (fun _ => 0)))), (x_tape, .inl (cT 1, 400, .inl (fun _ => 0)))] s.heap := hP
  have hl := lv_entry ([.ref h0, .ref x_tape, .int 0]) (n := 4) (Nat.le_of_ble_eq_true rfl)
  rw [lg_entry_eq]
  generalize (lg_sl ([.ref h0, .ref x_tape, .int 0]) ++ List.replicate (4 - (lg_sl ([.ref h0, .ref x_tape, .int 0])).length) Slot.unset).toArray = ls at hl ⊢
  have hl : lv_has ls 4 [(0, .ref h0), (1, .ref x_tape), (2, .int 0)] := hl
  refine lv_aload_n hx hb dX6_read_0 rfl (lv_at hl 0 rfl) ?_
  refine va_get (D := D) (ci := 6) (v := .ref c_words) (C := RX6) (T := TX6) (N := 14) hx hb hts (fun _ h => List.mem_cons_of_mem _ (List.mem_append_left _ (List.mem_append_left _ (List.mem_append_left _ (List.mem_append_left _ (List.mem_append_right _ h)))))) hown hK hP 0 rfl rfl 1 (by decide) (hts (.fieldLink RX6 12 "PuppetFilm$Script" "words" "LPuppetFilm$Words;") (List.mem_of_getElem? (i := 1) (by decide +kernel))) (fun _ h9 => h9) rfl dX6_read_1 ?_
  refine lv_aload_n hx hb dX6_read_4 rfl (lv_at hl 1 rfl) ?_
  refine lv_iload_n hx hb dX6_read_5 rfl (lv_at hl 2 rfl) ?_
  have hF := va_free (wc := [(c_words, .inr (10, [.ref w_text, .int 0, .int 0, .int 0, .int 0, .int 0, .int 0])), (w_text, .inl (cT 1, 400, .inl (fun _ => 0))), (x_tape, .inl (cT 1, 400, .inl (fun _ => 0)))]) hD hS hA [1, 2, 5] rfl
  refine va_callv (va_runV (As := [.ref x_tape, .int 0]) (rest := []) ⟨hx, hb, hml, hown, hts⟩ (c_X10_load l D cT c_words x_tape w_text _ ) (cwV 2 hts gX6_read_X10_load rfl rfl rfl (by decide +kernel) ⟨Nat.le_of_ble_eq_true rfl, Nat.le_of_ble_eq_true rfl⟩) (pv_w hP hD hK hG [1, 2, 5] rfl rfl rfl 1 rfl rfl) rfl rfl hl.1 rfl (lv_room (Nat.le_of_ble_eq_true rfl)) dX6_read_6 ⟨Nat.le_of_ble_eq_true rfl, Nat.le_of_ble_eq_true rfl⟩) hS (fun q _ h => hF q h) hF (fun uu9 tt9 H locs ht hvm wr_1 hB hz1 hk1 hS => ?_)
  obtain ⟨fx2_2, hP1, hD1⟩ := hB
  rw [ht] at hP1
  obtain ⟨hP, hD⟩ := va_join (wr := [(h0, .inr (6, [.ref c_studio, .ref c_words, .ref c_lines, .int 0, .ref c_aimWho, .ref c_aimJoint, .ref c_aimStep, .int 0, .int 0, .int 0, .int 0, .ref c_open, .ref c_frames, .ref c_done])), (c_frames, .inl (cT 2, 5, .inr (.inl (fun _ => 0)))), (c_done, .inl (cT 2, 5, .inr (.inl (fun _ => 0))))]) (w1 := [(c_words, .inr (10, [.ref w_text, .int 0, .int 0, .int 0, .int (-1), .int 0, .int 0])), (w_text, .inl (cT 1, 400, .inl fx2_2))]) hP hD [1, 2, 5] [0, 3, 4] rfl rfl (by decide) (by decide) hk1 hF hP1 hD1
  have hP : va_P D vwCl [(h0, .inr (6, [.ref c_studio, .ref c_words, .ref c_lines, .int 0, .ref c_aimWho, .ref c_aimJoint, .ref c_aimStep, .int 0, .int 0, .int 0, .int 0, .ref c_open, .ref c_frames, .ref c_done])), (c_frames, .inl (cT 2, 5, .inr (.inl (fun _ => 0)))), (c_done, .inl (cT 2, 5, .inr (.inl (fun _ => 0)))), (c_words, .inr (10, [.ref w_text, .int 0, .int 0, .int 0, .int (-1), .int 0, .int 0])), (w_text, .inl (cT 1, 400, .inl fx2_2))] _ := hP
  have hD : va_D A [(h0, .inr (6, [.ref c_studio, .ref c_words, .ref c_lines, .int 0, .ref c_aimWho, .ref c_aimJoint, .ref c_aimStep, .int 0, .int 0, .int 0, .int 0, .ref c_open, .ref c_frames, .ref c_done])), (c_frames, .inl (cT 2, 5, .inr (.inl (fun _ => 0)))), (c_done, .inl (cT 2, 5, .inr (.inl (fun _ => 0)))), (c_words, .inr (10, [.ref w_text, .int 0, .int 0, .int 0, .int (-1), .int 0, .int 0])), (w_text, .inl (cT 1, 400, .inl fx2_2))] := hD
  refine lv_aload_n hx hb dX6_read_9 rfl (lv_at hl 0 rfl) ?_
  refine lv_iconst (v := 0) hx hb dX6_read_10 (by decide) ?_
  refine va_put (D := D) (ci := 6) (v := .int 0) (ty := .int) (C := RX6) (T := TX6) (N := 14) hx hb hts (fun _ h => List.mem_cons_of_mem _ (List.mem_append_left _ (List.mem_append_left _ (List.mem_append_left _ (List.mem_append_left _ (List.mem_append_right _ h)))))) tyX6 tyX6_ok nmX6 hown hK hP hD hS 0 rfl rfl 3 (by decide) (hts (.fieldLink RX6 53 "PuppetFilm$Script" "size" "I") (List.mem_of_getElem? (i := 2) (by decide +kernel))) (fun _ h9 => h9) rfl (by decide +kernel) rfl rfl (Nat.le_of_ble_eq_true rfl) dX6_read_11 (fun H locs hP hD hS => ?_)
  have hP : va_P D vwCl [(h0, .inr (6, [.ref c_studio, .ref c_words, .ref c_lines, .int 0, .ref c_aimWho, .ref c_aimJoint, .ref c_aimStep, .int 0, .int 0, .int 0, .int 0, .ref c_open, .ref c_frames, .ref c_done])), (c_frames, .inl (cT 2, 5, .inr (.inl (fun _ => 0)))), (c_done, .inl (cT 2, 5, .inr (.inl (fun _ => 0)))), (c_words, .inr (10, [.ref w_text, .int 0, .int 0, .int 0, .int (-1), .int 0, .int 0])), (w_text, .inl (cT 1, 400, .inl fx2_2))] _ := hP
  have hD : va_D A [(h0, .inr (6, [.ref c_studio, .ref c_words, .ref c_lines, .int 0, .ref c_aimWho, .ref c_aimJoint, .ref c_aimStep, .int 0, .int 0, .int 0, .int 0, .ref c_open, .ref c_frames, .ref c_done])), (c_frames, .inl (cT 2, 5, .inr (.inl (fun _ => 0)))), (c_done, .inl (cT 2, 5, .inr (.inl (fun _ => 0)))), (c_words, .inr (10, [.ref w_text, .int 0, .int 0, .int 0, .int (-1), .int 0, .int 0])), (w_text, .inl (cT 1, 400, .inl fx2_2))] := hD
  refine lv_aload_n hx hb dX6_read_14 rfl (lv_at hl 0 rfl) ?_
  refine lv_iconst (v := 0) hx hb dX6_read_15 (by decide) ?_
  refine va_put (D := D) (ci := 6) (v := .int 0) (ty := .int) (C := RX6) (T := TX6) (N := 14) hx hb hts (fun _ h => List.mem_cons_of_mem _ (List.mem_append_left _ (List.mem_append_left _ (List.mem_append_left _ (List.mem_append_left _ (List.mem_append_right _ h)))))) tyX6 tyX6_ok nmX6 hown hK hP hD hS 0 rfl rfl 7 (by decide) (hts (.fieldLink RX6 57 "PuppetFilm$Script" "aims" "I") (List.mem_of_getElem? (i := 3) (by decide +kernel))) (fun _ h9 => h9) rfl (by decide +kernel) rfl rfl (Nat.le_of_ble_eq_true rfl) dX6_read_16 (fun H locs hP hD hS => ?_)
  have hP : va_P D vwCl [(h0, .inr (6, [.ref c_studio, .ref c_words, .ref c_lines, .int 0, .ref c_aimWho, .ref c_aimJoint, .ref c_aimStep, .int 0, .int 0, .int 0, .int 0, .ref c_open, .ref c_frames, .ref c_done])), (c_frames, .inl (cT 2, 5, .inr (.inl (fun _ => 0)))), (c_done, .inl (cT 2, 5, .inr (.inl (fun _ => 0)))), (c_words, .inr (10, [.ref w_text, .int 0, .int 0, .int 0, .int (-1), .int 0, .int 0])), (w_text, .inl (cT 1, 400, .inl fx2_2))] _ := hP
  have hD : va_D A [(h0, .inr (6, [.ref c_studio, .ref c_words, .ref c_lines, .int 0, .ref c_aimWho, .ref c_aimJoint, .ref c_aimStep, .int 0, .int 0, .int 0, .int 0, .ref c_open, .ref c_frames, .ref c_done])), (c_frames, .inl (cT 2, 5, .inr (.inl (fun _ => 0)))), (c_done, .inl (cT 2, 5, .inr (.inl (fun _ => 0)))), (c_words, .inr (10, [.ref w_text, .int 0, .int 0, .int 0, .int (-1), .int 0, .int 0])), (w_text, .inl (cT 1, 400, .inl fx2_2))] := hD
  refine lv_aload_n hx hb dX6_read_19 rfl (lv_at hl 0 rfl) ?_
  refine lv_iconst (v := 0) hx hb dX6_read_20 (by decide) ?_
  refine va_put (D := D) (ci := 6) (v := .int 0) (ty := .int) (C := RX6) (T := TX6) (N := 14) hx hb hts (fun _ h => List.mem_cons_of_mem _ (List.mem_append_left _ (List.mem_append_left _ (List.mem_append_left _ (List.mem_append_left _ (List.mem_append_right _ h)))))) tyX6 tyX6_ok nmX6 hown hK hP hD hS 0 rfl rfl 8 (by decide) (hts (.fieldLink RX6 60 "PuppetFilm$Script" "cast" "I") (List.mem_of_getElem? (i := 4) (by decide +kernel))) (fun _ h9 => h9) rfl (by decide +kernel) rfl rfl (Nat.le_of_ble_eq_true rfl) dX6_read_21 (fun H locs hP hD hS => ?_)
  have hP : va_P D vwCl [(h0, .inr (6, [.ref c_studio, .ref c_words, .ref c_lines, .int 0, .ref c_aimWho, .ref c_aimJoint, .ref c_aimStep, .int 0, .int 0, .int 0, .int 0, .ref c_open, .ref c_frames, .ref c_done])), (c_frames, .inl (cT 2, 5, .inr (.inl (fun _ => 0)))), (c_done, .inl (cT 2, 5, .inr (.inl (fun _ => 0)))), (c_words, .inr (10, [.ref w_text, .int 0, .int 0, .int 0, .int (-1), .int 0, .int 0])), (w_text, .inl (cT 1, 400, .inl fx2_2))] _ := hP
  have hD : va_D A [(h0, .inr (6, [.ref c_studio, .ref c_words, .ref c_lines, .int 0, .ref c_aimWho, .ref c_aimJoint, .ref c_aimStep, .int 0, .int 0, .int 0, .int 0, .ref c_open, .ref c_frames, .ref c_done])), (c_frames, .inl (cT 2, 5, .inr (.inl (fun _ => 0)))), (c_done, .inl (cT 2, 5, .inr (.inl (fun _ => 0)))), (c_words, .inr (10, [.ref w_text, .int 0, .int 0, .int 0, .int (-1), .int 0, .int 0])), (w_text, .inl (cT 1, 400, .inl fx2_2))] := hD
  refine lv_aload_n hx hb dX6_read_24 rfl (lv_at hl 0 rfl) ?_
  refine lv_iconst (v := 0) hx hb dX6_read_25 (by decide) ?_
  refine va_put (D := D) (ci := 6) (v := .int 0) (ty := .int) (C := RX6) (T := TX6) (N := 14) hx hb hts (fun _ h => List.mem_cons_of_mem _ (List.mem_append_left _ (List.mem_append_left _ (List.mem_append_left _ (List.mem_append_left _ (List.mem_append_right _ h)))))) tyX6 tyX6_ok nmX6 hown hK hP hD hS 0 rfl rfl 9 (by decide) (hts (.fieldLink RX6 63 "PuppetFilm$Script" "says" "I") (List.mem_of_getElem? (i := 5) (by decide +kernel))) (fun _ h9 => h9) rfl (by decide +kernel) rfl rfl (Nat.le_of_ble_eq_true rfl) dX6_read_26 (fun H locs hP hD hS => ?_)
  have hP : va_P D vwCl [(h0, .inr (6, [.ref c_studio, .ref c_words, .ref c_lines, .int 0, .ref c_aimWho, .ref c_aimJoint, .ref c_aimStep, .int 0, .int 0, .int 0, .int 0, .ref c_open, .ref c_frames, .ref c_done])), (c_frames, .inl (cT 2, 5, .inr (.inl (fun _ => 0)))), (c_done, .inl (cT 2, 5, .inr (.inl (fun _ => 0)))), (c_words, .inr (10, [.ref w_text, .int 0, .int 0, .int 0, .int (-1), .int 0, .int 0])), (w_text, .inl (cT 1, 400, .inl fx2_2))] _ := hP
  have hD : va_D A [(h0, .inr (6, [.ref c_studio, .ref c_words, .ref c_lines, .int 0, .ref c_aimWho, .ref c_aimJoint, .ref c_aimStep, .int 0, .int 0, .int 0, .int 0, .ref c_open, .ref c_frames, .ref c_done])), (c_frames, .inl (cT 2, 5, .inr (.inl (fun _ => 0)))), (c_done, .inl (cT 2, 5, .inr (.inl (fun _ => 0)))), (c_words, .inr (10, [.ref w_text, .int 0, .int 0, .int 0, .int (-1), .int 0, .int 0])), (w_text, .inl (cT 1, 400, .inl fx2_2))] := hD
  refine lv_aload_n hx hb dX6_read_29 rfl (lv_at hl 0 rfl) ?_
  refine lv_iconst (v := 0) hx hb dX6_read_30 (by decide) ?_
  refine va_put (D := D) (ci := 6) (v := .int 0) (ty := .int) (C := RX6) (T := TX6) (N := 14) hx hb hts (fun _ h => List.mem_cons_of_mem _ (List.mem_append_left _ (List.mem_append_left _ (List.mem_append_left _ (List.mem_append_left _ (List.mem_append_right _ h)))))) tyX6 tyX6_ok nmX6 hown hK hP hD hS 0 rfl rfl 10 (by decide) (hts (.fieldLink RX6 66 "PuppetFilm$Script" "depth" "I") (List.mem_of_getElem? (i := 6) (by decide +kernel))) (fun _ h9 => h9) rfl (by decide +kernel) rfl rfl (Nat.le_of_ble_eq_true rfl) dX6_read_31 (fun H locs hP hD hS => ?_)
  have hP : va_P D vwCl [(h0, .inr (6, [.ref c_studio, .ref c_words, .ref c_lines, .int 0, .ref c_aimWho, .ref c_aimJoint, .ref c_aimStep, .int 0, .int 0, .int 0, .int 0, .ref c_open, .ref c_frames, .ref c_done])), (c_frames, .inl (cT 2, 5, .inr (.inl (fun _ => 0)))), (c_done, .inl (cT 2, 5, .inr (.inl (fun _ => 0)))), (c_words, .inr (10, [.ref w_text, .int 0, .int 0, .int 0, .int (-1), .int 0, .int 0])), (w_text, .inl (cT 1, 400, .inl fx2_2))] _ := hP
  have hD : va_D A [(h0, .inr (6, [.ref c_studio, .ref c_words, .ref c_lines, .int 0, .ref c_aimWho, .ref c_aimJoint, .ref c_aimStep, .int 0, .int 0, .int 0, .int 0, .ref c_open, .ref c_frames, .ref c_done])), (c_frames, .inl (cT 2, 5, .inr (.inl (fun _ => 0)))), (c_done, .inl (cT 2, 5, .inr (.inl (fun _ => 0)))), (c_words, .inr (10, [.ref w_text, .int 0, .int 0, .int 0, .int (-1), .int 0, .int 0])), (w_text, .inl (cT 1, 400, .inl fx2_2))] := hD
  refine lv_aload_n hx hb dX6_read_34 rfl (lv_at hl 0 rfl) ?_
  refine va_get (D := D) (ci := 6) (v := .ref c_frames) (C := RX6) (T := TX6) (N := 14) hx hb hts (fun _ h => List.mem_cons_of_mem _ (List.mem_append_left _ (List.mem_append_left _ (List.mem_append_left _ (List.mem_append_left _ (List.mem_append_right _ h)))))) hown hK hP 0 rfl rfl 12 (by decide) (hts (.fieldLink RX6 37 "PuppetFilm$Script" "frames" "[J") (List.mem_of_getElem? (i := 7) (by decide +kernel))) (fun _ h9 => h9) rfl dX6_read_35 ?_
  refine lv_lconst (v := 0) hx hb dX6_read_38 rfl ?_
  have hF := va_free (wc := [(c_frames, .inl (cT 2, 5, .inr (.inl (fun _ => 0))))]) hD hS hA [1] rfl
  refine va_callv (va_runS (As := [.ref c_frames, .long 0]) (rest := []) ⟨hx, hb, hml, hown, hts⟩ (c_fillL_5 l D cT c_frames (fun _ => 0) 0 _ ) (va_cwS 2 hts gX6_read_J7_fill_d0a16 rfl rfl rfl (by decide +kernel) ⟨Nat.le_of_ble_eq_true rfl, Nat.le_of_ble_eq_true rfl⟩) (ps_w hP hD hK hG [1] rfl rfl rfl) rfl rfl hl.1 rfl (lv_room (Nat.le_of_ble_eq_true rfl)) dX6_read_39 ⟨Nat.le_of_ble_eq_true rfl, Nat.le_of_ble_eq_true rfl⟩) hS (fun q _ h => hF q h) hF (fun uu9 tt9 H locs ht hvm wr_3 hB hz1 hk1 hS => ?_)
  obtain ⟨hP1, hD1⟩ := hB
  rw [ht] at hP1
  obtain ⟨hP, hD⟩ := va_join (wr := [(h0, .inr (6, [.ref c_studio, .ref c_words, .ref c_lines, .int 0, .ref c_aimWho, .ref c_aimJoint, .ref c_aimStep, .int 0, .int 0, .int 0, .int 0, .ref c_open, .ref c_frames, .ref c_done])), (c_done, .inl (cT 2, 5, .inr (.inl (fun _ => 0)))), (c_words, .inr (10, [.ref w_text, .int 0, .int 0, .int 0, .int (-1), .int 0, .int 0])), (w_text, .inl (cT 1, 400, .inl fx2_2))]) (w1 := [(c_frames, .inl (cT 2, 5, .inr (.inl (vp_updL (vp_updL (vp_updL (vp_updL (vp_updL (fun _ => 0) 0 0) 1 0) 2 0) 3 0) 4 0))))]) hP hD [1] [0, 2, 3, 4] rfl rfl (by decide) (by decide) hk1 hF hP1 hD1
  have hP : va_P D vwCl [(h0, .inr (6, [.ref c_studio, .ref c_words, .ref c_lines, .int 0, .ref c_aimWho, .ref c_aimJoint, .ref c_aimStep, .int 0, .int 0, .int 0, .int 0, .ref c_open, .ref c_frames, .ref c_done])), (c_done, .inl (cT 2, 5, .inr (.inl (fun _ => 0)))), (c_words, .inr (10, [.ref w_text, .int 0, .int 0, .int 0, .int (-1), .int 0, .int 0])), (w_text, .inl (cT 1, 400, .inl fx2_2)), (c_frames, .inl (cT 2, 5, .inr (.inl (vp_updL (vp_updL (vp_updL (vp_updL (vp_updL (fun _ => 0) 0 0) 1 0) 2 0) 3 0) 4 0))))] _ := hP
  have hD : va_D A [(h0, .inr (6, [.ref c_studio, .ref c_words, .ref c_lines, .int 0, .ref c_aimWho, .ref c_aimJoint, .ref c_aimStep, .int 0, .int 0, .int 0, .int 0, .ref c_open, .ref c_frames, .ref c_done])), (c_done, .inl (cT 2, 5, .inr (.inl (fun _ => 0)))), (c_words, .inr (10, [.ref w_text, .int 0, .int 0, .int 0, .int (-1), .int 0, .int 0])), (w_text, .inl (cT 1, 400, .inl fx2_2)), (c_frames, .inl (cT 2, 5, .inr (.inl (vp_updL (vp_updL (vp_updL (vp_updL (vp_updL (fun _ => 0) 0 0) 1 0) 2 0) 3 0) 4 0))))] := hD
  refine lv_aload_n hx hb dX6_read_42 rfl (lv_at hl 0 rfl) ?_
  refine va_get (D := D) (ci := 6) (v := .ref c_done) (C := RX6) (T := TX6) (N := 14) hx hb hts (fun _ h => List.mem_cons_of_mem _ (List.mem_append_left _ (List.mem_append_left _ (List.mem_append_left _ (List.mem_append_left _ (List.mem_append_right _ h)))))) hown hK hP 0 rfl rfl 13 (by decide) (hts (.fieldLink RX6 41 "PuppetFilm$Script" "done" "[J") (List.mem_of_getElem? (i := 8) (by decide +kernel))) (fun _ h9 => h9) rfl dX6_read_43 ?_
  refine lv_lconst (v := 0) hx hb dX6_read_46 rfl ?_
  have hF := va_free (wc := [(c_done, .inl (cT 2, 5, .inr (.inl (fun _ => 0))))]) hD hS hA [1] rfl
  refine va_callv (va_runS (As := [.ref c_done, .long 0]) (rest := []) ⟨hx, hb, hml, hown, hts⟩ (c_fillL_5 l D cT c_done (fun _ => 0) 0 _ ) (va_cwS 2 hts gX6_read_J7_fill_d0a16 rfl rfl rfl (by decide +kernel) ⟨Nat.le_of_ble_eq_true rfl, Nat.le_of_ble_eq_true rfl⟩) (ps_w hP hD hK hG [1] rfl rfl rfl) rfl rfl hl.1 rfl (lv_room (Nat.le_of_ble_eq_true rfl)) dX6_read_47 ⟨Nat.le_of_ble_eq_true rfl, Nat.le_of_ble_eq_true rfl⟩) hS (fun q _ h => hF q h) hF (fun uu9 tt9 H locs ht hvm wr_4 hB hz1 hk1 hS => ?_)
  obtain ⟨hP1, hD1⟩ := hB
  rw [ht] at hP1
  obtain ⟨hP, hD⟩ := va_join (wr := [(h0, .inr (6, [.ref c_studio, .ref c_words, .ref c_lines, .int 0, .ref c_aimWho, .ref c_aimJoint, .ref c_aimStep, .int 0, .int 0, .int 0, .int 0, .ref c_open, .ref c_frames, .ref c_done])), (c_words, .inr (10, [.ref w_text, .int 0, .int 0, .int 0, .int (-1), .int 0, .int 0])), (w_text, .inl (cT 1, 400, .inl fx2_2)), (c_frames, .inl (cT 2, 5, .inr (.inl (vp_updL (vp_updL (vp_updL (vp_updL (vp_updL (fun _ => 0) 0 0) 1 0) 2 0) 3 0) 4 0))))]) (w1 := [(c_done, .inl (cT 2, 5, .inr (.inl (vp_updL (vp_updL (vp_updL (vp_updL (vp_updL (fun _ => 0) 0 0) 1 0) 2 0) 3 0) 4 0))))]) hP hD [1] [0, 2, 3, 4] rfl rfl (by decide) (by decide) hk1 hF hP1 hD1
  have hP : va_P D vwCl [(h0, .inr (6, [.ref c_studio, .ref c_words, .ref c_lines, .int 0, .ref c_aimWho, .ref c_aimJoint, .ref c_aimStep, .int 0, .int 0, .int 0, .int 0, .ref c_open, .ref c_frames, .ref c_done])), (c_words, .inr (10, [.ref w_text, .int 0, .int 0, .int 0, .int (-1), .int 0, .int 0])), (w_text, .inl (cT 1, 400, .inl fx2_2)), (c_frames, .inl (cT 2, 5, .inr (.inl (vp_updL (vp_updL (vp_updL (vp_updL (vp_updL (fun _ => 0) 0 0) 1 0) 2 0) 3 0) 4 0)))), (c_done, .inl (cT 2, 5, .inr (.inl (vp_updL (vp_updL (vp_updL (vp_updL (vp_updL (fun _ => 0) 0 0) 1 0) 2 0) 3 0) 4 0))))] _ := hP
  have hD : va_D A [(h0, .inr (6, [.ref c_studio, .ref c_words, .ref c_lines, .int 0, .ref c_aimWho, .ref c_aimJoint, .ref c_aimStep, .int 0, .int 0, .int 0, .int 0, .ref c_open, .ref c_frames, .ref c_done])), (c_words, .inr (10, [.ref w_text, .int 0, .int 0, .int 0, .int (-1), .int 0, .int 0])), (w_text, .inl (cT 1, 400, .inl fx2_2)), (c_frames, .inl (cT 2, 5, .inr (.inl (vp_updL (vp_updL (vp_updL (vp_updL (vp_updL (fun _ => 0) 0 0) 1 0) 2 0) 3 0) 4 0)))), (c_done, .inl (cT 2, 5, .inr (.inl (vp_updL (vp_updL (vp_updL (vp_updL (vp_updL (fun _ => 0) 0 0) 1 0) 2 0) 3 0) 4 0))))] := hD
  refine lv_iconst (v := 0) hx hb dX6_read_50 (by decide) ?_
  refine lv_istore_n (lv' := [(3, .int 0), (0, .ref h0), (1, .ref x_tape), (2, .int 0)]) hx hb dX6_read_51 rfl hl (by decide) rfl (fun ls hl => ?_)
  refine lv_iload_n hx hb dX6_read_52 rfl (lv_at hl 0 rfl) ?_
  refine lv_sipush (v := 400) hx hb dX6_read_53 (by decide) ?_
  refine lv_icmp_gt (tgt := 120) hx hb dX6_read_56 (by decide) (fun c9 => absurd c9 (by decide)) (fun _ => ?_)
  refine lv_aload_n hx hb dX6_read_59 rfl (lv_at hl 1 rfl) ?_
  refine va_get (D := D) (ci := 6) (v := .ref c_words) (C := RX6) (T := TX6) (N := 14) hx hb hts (fun _ h => List.mem_cons_of_mem _ (List.mem_append_left _ (List.mem_append_left _ (List.mem_append_left _ (List.mem_append_left _ (List.mem_append_right _ h)))))) hown hK hP 0 rfl rfl 1 (by decide) (hts (.fieldLink RX6 12 "PuppetFilm$Script" "words" "LPuppetFilm$Words;") (List.mem_of_getElem? (i := 1) (by decide +kernel))) (fun _ h9 => h9) rfl dX6_read_60 ?_
  refine va_get (D := D) (ci := 10) (v := .int 0) (C := RX10) (T := TX10) (N := 7) hx hb hts (fun _ h => List.mem_cons_of_mem _ (List.mem_append_left _ (List.mem_append_left _ (List.mem_append_left _ (List.mem_append_right _ h))))) hown hK hP 1 rfl rfl 3 (by decide) (hts (.fieldLink RX6 75 "PuppetFilm$Words" "fault" "I") (List.mem_of_getElem? (i := 9) (by decide +kernel))) (fun _ h9 => h9) rfl dX6_read_63 ?_
  refine lv_if_ne (tgt := 120) hx hb dX6_read_66 (by decide) (fun c9 => absurd c9 (by decide)) (fun _ => ?_)
  refine lv_aload_n hx hb dX6_read_69 rfl (lv_at hl 1 rfl) ?_
  refine va_get (D := D) (ci := 6) (v := .ref c_words) (C := RX6) (T := TX6) (N := 14) hx hb hts (fun _ h => List.mem_cons_of_mem _ (List.mem_append_left _ (List.mem_append_left _ (List.mem_append_left _ (List.mem_append_left _ (List.mem_append_right _ h)))))) hown hK hP 0 rfl rfl 1 (by decide) (hts (.fieldLink RX6 12 "PuppetFilm$Script" "words" "LPuppetFilm$Words;") (List.mem_of_getElem? (i := 1) (by decide +kernel))) (fun _ h9 => h9) rfl dX6_read_70 ?_
  have hF := va_free (wc := [(c_words, .inr (10, [.ref w_text, .int 0, .int 0, .int 0, .int (-1), .int 0, .int 0]))]) hD hS hA [1] rfl
  refine va_calli (va_runV (As := []) (rest := []) ⟨hx, hb, hml, hown, hts⟩ (c_X10_peek l D cT c_words w_text (-1) _ ) (cwV 0 hts gX6_read_X10_peek rfl rfl rfl (by decide +kernel) ⟨Nat.le_of_ble_eq_true rfl, Nat.le_of_ble_eq_true rfl⟩) (pv_w hP hD hK hG [1] rfl rfl rfl 1 rfl rfl) rfl rfl hl.1 rfl (lv_room (Nat.le_of_ble_eq_true rfl)) dX6_read_73 ⟨Nat.le_of_ble_eq_true rfl, Nat.le_of_ble_eq_true rfl⟩) hS (fun q _ h => hF q h) hF (fun r_5 uu9 tt9 H locs ht hvm wr_5 hB hz1 hk1 hS => ?_)
  obtain ⟨hP1, hD1⟩ := hB
  rw [ht] at hP1
  obtain ⟨hP, hD⟩ := va_join (wr := [(h0, .inr (6, [.ref c_studio, .ref c_words, .ref c_lines, .int 0, .ref c_aimWho, .ref c_aimJoint, .ref c_aimStep, .int 0, .int 0, .int 0, .int 0, .ref c_open, .ref c_frames, .ref c_done])), (w_text, .inl (cT 1, 400, .inl fx2_2)), (c_frames, .inl (cT 2, 5, .inr (.inl (vp_updL (vp_updL (vp_updL (vp_updL (vp_updL (fun _ => 0) 0 0) 1 0) 2 0) 3 0) 4 0)))), (c_done, .inl (cT 2, 5, .inr (.inl (vp_updL (vp_updL (vp_updL (vp_updL (vp_updL (fun _ => 0) 0 0) 1 0) 2 0) 3 0) 4 0))))]) (w1 := [(c_words, .inr (10, [.ref w_text, .int 0, .int 0, .int 0, .int (-1), .int 0, .int 0]))]) hP hD [1] [0, 2, 3, 4] rfl rfl (by decide) (by decide) hk1 hF hP1 hD1
  have hP : va_P D vwCl [(h0, .inr (6, [.ref c_studio, .ref c_words, .ref c_lines, .int 0, .ref c_aimWho, .ref c_aimJoint, .ref c_aimStep, .int 0, .int 0, .int 0, .int 0, .ref c_open, .ref c_frames, .ref c_done])), (w_text, .inl (cT 1, 400, .inl fx2_2)), (c_frames, .inl (cT 2, 5, .inr (.inl (vp_updL (vp_updL (vp_updL (vp_updL (vp_updL (fun _ => 0) 0 0) 1 0) 2 0) 3 0) 4 0)))), (c_done, .inl (cT 2, 5, .inr (.inl (vp_updL (vp_updL (vp_updL (vp_updL (vp_updL (fun _ => 0) 0 0) 1 0) 2 0) 3 0) 4 0)))), (c_words, .inr (10, [.ref w_text, .int 0, .int 0, .int 0, .int (-1), .int 0, .int 0]))] _ := hP
  have hD : va_D A [(h0, .inr (6, [.ref c_studio, .ref c_words, .ref c_lines, .int 0, .ref c_aimWho, .ref c_aimJoint, .ref c_aimStep, .int 0, .int 0, .int 0, .int 0, .ref c_open, .ref c_frames, .ref c_done])), (w_text, .inl (cT 1, 400, .inl fx2_2)), (c_frames, .inl (cT 2, 5, .inr (.inl (vp_updL (vp_updL (vp_updL (vp_updL (vp_updL (fun _ => 0) 0 0) 1 0) 2 0) 3 0) 4 0)))), (c_done, .inl (cT 2, 5, .inr (.inl (vp_updL (vp_updL (vp_updL (vp_updL (vp_updL (fun _ => 0) 0 0) 1 0) 2 0) 3 0) 4 0)))), (c_words, .inr (10, [.ref w_text, .int 0, .int 0, .int 0, .int (-1), .int 0, .int 0]))] := hD
  obtain rfl : r_5 = (-1) := wr_5.trans (rfl)
  refine lv_iconst (v := (-1)) hx hb dX6_read_76 (by decide) ?_
  refine lv_icmp_eq (tgt := 120) hx hb dX6_read_77 (by decide) (fun _ => ?_) (fun c9 => absurd c9 (by decide))
  refine lv_aload_n hx hb dX6_read_120 rfl (lv_at hl 1 rfl) ?_
  refine va_get (D := D) (ci := 6) (v := .int 0) (C := RX6) (T := TX6) (N := 14) hx hb hts (fun _ h => List.mem_cons_of_mem _ (List.mem_append_left _ (List.mem_append_left _ (List.mem_append_left _ (List.mem_append_left _ (List.mem_append_right _ h)))))) hown hK hP 0 rfl rfl 10 (by decide) (hts (.fieldLink RX6 66 "PuppetFilm$Script" "depth" "I") (List.mem_of_getElem? (i := 6) (by decide +kernel))) (fun _ h9 => h9) rfl dX6_read_121 ?_
  refine lv_if_le (tgt := 142) hx hb dX6_read_124 (by decide) (fun _ => ?_) (fun c9 => absurd c9 (by decide))
  refine lv_aload_n hx hb dX6_read_142 rfl (lv_at hl 1 rfl) ?_
  refine va_get (D := D) (ci := 6) (v := .ref c_frames) (C := RX6) (T := TX6) (N := 14) hx hb hts (fun _ h => List.mem_cons_of_mem _ (List.mem_append_left _ (List.mem_append_left _ (List.mem_append_left _ (List.mem_append_left _ (List.mem_append_right _ h)))))) hown hK hP 0 rfl rfl 12 (by decide) (hts (.fieldLink RX6 37 "PuppetFilm$Script" "frames" "[J") (List.mem_of_getElem? (i := 7) (by decide +kernel))) (fun _ h9 => h9) rfl dX6_read_143 ?_
  refine lv_iconst (v := 0) hx hb dX6_read_146 (by decide) ?_
  refine va_lald hx hb hK hP 2 2 rfl rfl (by unfold vp_in; decide) dX6_read_147 ?_
  refine lv_topl (fun j_6 ej_6 => ?_)
  obtain rfl : j_6 = 0 := ej_6.trans (by decide)
  refine lv_lconst (v := 1) hx hb dX6_read_148 rfl ?_
  refine W.lcmp hx hb dX6_read_149 ?_
  refine lv_topi (fun z_7 ez_7 => ?_)
  obtain rfl : z_7 = (-1) := ez_7.trans (by decide)
  refine lv_if_lt (tgt := 179) hx hb dX6_read_150 (by decide) (fun _ => ?_) (fun c9 => absurd c9 (by decide))
  refine lv_aload_n hx hb dX6_read_179 rfl (lv_at hl 1 rfl) ?_
  refine va_get (D := D) (ci := 6) (v := .ref c_words) (C := RX6) (T := TX6) (N := 14) hx hb hts (fun _ h => List.mem_cons_of_mem _ (List.mem_append_left _ (List.mem_append_left _ (List.mem_append_left _ (List.mem_append_left _ (List.mem_append_right _ h)))))) hown hK hP 0 rfl rfl 1 (by decide) (hts (.fieldLink RX6 12 "PuppetFilm$Script" "words" "LPuppetFilm$Words;") (List.mem_of_getElem? (i := 1) (by decide +kernel))) (fun _ h9 => h9) rfl dX6_read_180 ?_
  refine lv_iconst (v := 4) hx hb dX6_read_183 (by decide) ?_
  refine lv_aload_n hx hb dX6_read_184 rfl (lv_at hl 1 rfl) ?_
  refine va_get (D := D) (ci := 6) (v := .ref c_words) (C := RX6) (T := TX6) (N := 14) hx hb hts (fun _ h => List.mem_cons_of_mem _ (List.mem_append_left _ (List.mem_append_left _ (List.mem_append_left _ (List.mem_append_left _ (List.mem_append_right _ h)))))) hown hK hP 0 rfl rfl 1 (by decide) (hts (.fieldLink RX6 12 "PuppetFilm$Script" "words" "LPuppetFilm$Words;") (List.mem_of_getElem? (i := 1) (by decide +kernel))) (fun _ h9 => h9) rfl dX6_read_185 ?_
  refine va_get (D := D) (ci := 10) (v := .int 0) (C := RX10) (T := TX10) (N := 7) hx hb hts (fun _ h => List.mem_cons_of_mem _ (List.mem_append_left _ (List.mem_append_left _ (List.mem_append_left _ (List.mem_append_right _ h))))) hown hK hP 4 rfl rfl 1 (by decide) (hts (.fieldLink RX6 97 "PuppetFilm$Words" "length" "I") (List.mem_of_getElem? (i := 10) (by decide +kernel))) (fun _ h9 => h9) rfl dX6_read_188 ?_
  have hF := va_free (wc := [(c_words, .inr (10, [.ref w_text, .int 0, .int 0, .int 0, .int (-1), .int 0, .int 0]))]) hD hS hA [4] rfl
  refine va_callv (va_runV (As := [.int 4, .int 0]) (rest := []) ⟨hx, hb, hml, hown, hts⟩ (c_X10_fail l D cT c_words 4 0 w_text (-1) _ ) (cwV 2 hts gX6_read_X10_fail rfl rfl rfl (by decide +kernel) ⟨Nat.le_of_ble_eq_true rfl, Nat.le_of_ble_eq_true rfl⟩) (pv_w hP hD hK hG [4] rfl rfl rfl 4 rfl rfl) rfl rfl hl.1 rfl (lv_room (Nat.le_of_ble_eq_true rfl)) dX6_read_191 ⟨Nat.le_of_ble_eq_true rfl, Nat.le_of_ble_eq_true rfl⟩) hS (fun q _ h => hF q h) hF (fun uu9 tt9 H locs ht hvm wr_8 hB hz1 hk1 hS => ?_)
  obtain ⟨hP1, hD1⟩ := hB
  rw [ht] at hP1
  obtain ⟨hP, hD⟩ := va_join (wr := [(h0, .inr (6, [.ref c_studio, .ref c_words, .ref c_lines, .int 0, .ref c_aimWho, .ref c_aimJoint, .ref c_aimStep, .int 0, .int 0, .int 0, .int 0, .ref c_open, .ref c_frames, .ref c_done])), (w_text, .inl (cT 1, 400, .inl fx2_2)), (c_frames, .inl (cT 2, 5, .inr (.inl (vp_updL (vp_updL (vp_updL (vp_updL (vp_updL (fun _ => 0) 0 0) 1 0) 2 0) 3 0) 4 0)))), (c_done, .inl (cT 2, 5, .inr (.inl (vp_updL (vp_updL (vp_updL (vp_updL (vp_updL (fun _ => 0) 0 0) 1 0) 2 0) 3 0) 4 0))))]) (w1 := [(c_words, .inr (10, [.ref w_text, .int 0, .int 0, .int 4, .int 0, .int 0, .int 0]))]) hP hD [4] [0, 1, 2, 3] rfl rfl (by decide) (by decide) hk1 hF hP1 hD1
  have hP : va_P D vwCl [(h0, .inr (6, [.ref c_studio, .ref c_words, .ref c_lines, .int 0, .ref c_aimWho, .ref c_aimJoint, .ref c_aimStep, .int 0, .int 0, .int 0, .int 0, .ref c_open, .ref c_frames, .ref c_done])), (w_text, .inl (cT 1, 400, .inl fx2_2)), (c_frames, .inl (cT 2, 5, .inr (.inl (vp_updL (vp_updL (vp_updL (vp_updL (vp_updL (fun _ => 0) 0 0) 1 0) 2 0) 3 0) 4 0)))), (c_done, .inl (cT 2, 5, .inr (.inl (vp_updL (vp_updL (vp_updL (vp_updL (vp_updL (fun _ => 0) 0 0) 1 0) 2 0) 3 0) 4 0)))), (c_words, .inr (10, [.ref w_text, .int 0, .int 0, .int 4, .int 0, .int 0, .int 0]))] _ := hP
  have hD : va_D A [(h0, .inr (6, [.ref c_studio, .ref c_words, .ref c_lines, .int 0, .ref c_aimWho, .ref c_aimJoint, .ref c_aimStep, .int 0, .int 0, .int 0, .int 0, .ref c_open, .ref c_frames, .ref c_done])), (w_text, .inl (cT 1, 400, .inl fx2_2)), (c_frames, .inl (cT 2, 5, .inr (.inl (vp_updL (vp_updL (vp_updL (vp_updL (vp_updL (fun _ => 0) 0 0) 1 0) 2 0) 3 0) 4 0)))), (c_done, .inl (cT 2, 5, .inr (.inl (vp_updL (vp_updL (vp_updL (vp_updL (vp_updL (fun _ => 0) 0 0) 1 0) 2 0) 3 0) 4 0)))), (c_words, .inr (10, [.ref w_text, .int 0, .int 0, .int 4, .int 0, .int 0, .int 0]))] := hD
  have hP9 := hP.sub (ws' := [(h0, .inr (6, [.ref c_studio, .ref c_words, .ref c_lines, .int 0, .ref c_aimWho, .ref c_aimJoint, .ref c_aimStep, .int 0, .int 0, .int 0, .int 0, .ref c_open, .ref c_frames, .ref c_done])), (c_words, .inr (10, [.ref w_text, .int 0, .int 0, .int 4, .int 0, .int 0, .int 0]))]) [0, 4] rfl
  have hD9 := hD.sub (ws' := [(h0, .inr (6, [.ref c_studio, .ref c_words, .ref c_lines, .int 0, .ref c_aimWho, .ref c_aimJoint, .ref c_aimStep, .int 0, .int 0, .int 0, .int 0, .ref c_open, .ref c_frames, .ref c_done])), (c_words, .inr (10, [.ref w_text, .int 0, .int 0, .int 4, .int 0, .int 0, .int 0]))]) [0, 4] (by decide) rfl
  exact W.vret hx hb hr (fun t ht hW => ⟨⟨(), rfl, trivial, ⟨by rw [ht]; exact hP9, hD9⟩⟩, hS.F ht⟩) hS.2.2 dX6_read_194
theorem dX11_shot_0 : decode cX11_shot 0 = .ok (.iload_n 1, 1) := by decide +kernel
theorem dX11_shot_1 : decode cX11_shot 1 = .ok (.iconst 0, 1) := by decide +kernel
theorem dX11_shot_12 : decode cX11_shot 12 = .ok (.aload_n 0, 1) := by decide +kernel
theorem dX11_shot_13 : decode cX11_shot 13 = .ok (.getfield 10, 3) := by decide +kernel
theorem dX11_shot_16 : decode cX11_shot 16 = .ok (.getfield 132, 3) := by decide +kernel
theorem dX11_shot_19 : decode cX11_shot 19 = .ok (.bipush 12, 2) := by decide +kernel
theorem dX11_shot_2 : decode cX11_shot 2 = .ok (.aload_n 0, 1) := by decide +kernel
theorem dX11_shot_21 : decode cX11_shot 21 = .ok (.if_icmp .lt 13, 3) := by decide +kernel
theorem dX11_shot_3 : decode cX11_shot 3 = .ok (.getfield 125, 3) := by decide +kernel
theorem dX11_shot_34 : decode cX11_shot 34 = .ok (.aload_n 0, 1) := by decide +kernel
theorem dX11_shot_35 : decode cX11_shot 35 = .ok (.getfield 21, 3) := by decide +kernel
theorem dX11_shot_38 : decode cX11_shot 38 = .ok (.aload_n 0, 1) := by decide +kernel
theorem dX11_shot_39 : decode cX11_shot 39 = .ok (.getfield 67, 3) := by decide +kernel
theorem dX11_shot_42 : decode cX11_shot 42 = .ok (.iload_n 1, 1) := by decide +kernel
theorem dX11_shot_43 : decode cX11_shot 43 = .ok (.invokevirtual 142, 3) := by decide +kernel
theorem dX11_shot_46 : decode cX11_shot 46 = .ok (.aload_n 0, 1) := by decide +kernel
theorem dX11_shot_47 : decode cX11_shot 47 = .ok (.iconst 0, 1) := by decide +kernel
theorem dX11_shot_48 : decode cX11_shot 48 = .ok (.putfield 125, 3) := by decide +kernel
theorem dX11_shot_51 : decode cX11_shot 51 = .ok (.aload_n 0, 1) := by decide +kernel
theorem dX11_shot_52 : decode cX11_shot 52 = .ok (.getfield 21, 3) := by decide +kernel
theorem dX11_shot_55 : decode cX11_shot 55 = .ok (.getfield 146, 3) := by decide +kernel
theorem dX11_shot_58 : decode cX11_shot 58 = .ok (.getfield 150, 3) := by decide +kernel
theorem dX11_shot_6 : decode cX11_shot 6 = .ok (.invokestatic 97, 3) := by decide +kernel
theorem dX11_shot_61 : decode cX11_shot 61 = .ok (.ifCond .eq 31, 3) := by decide +kernel
theorem dX11_shot_64 : decode cX11_shot 64 = .ok (.aload_n 0, 1) := by decide +kernel
theorem dX11_shot_65 : decode cX11_shot 65 = .ok (.aload_n 0, 1) := by decide +kernel
theorem dX11_shot_66 : decode cX11_shot 66 = .ok (.getfield 21, 3) := by decide +kernel
theorem dX11_shot_69 : decode cX11_shot 69 = .ok (.getfield 146, 3) := by decide +kernel
theorem dX11_shot_72 : decode cX11_shot 72 = .ok (.getfield 155, 3) := by decide +kernel
theorem dX11_shot_75 : decode cX11_shot 75 = .ok (.putfield 71, 3) := by decide +kernel
theorem dX11_shot_78 : decode cX11_shot 78 = .ok (.aload_n 0, 1) := by decide +kernel
theorem dX11_shot_79 : decode cX11_shot 79 = .ok (.getfield 21, 3) := by decide +kernel
theorem dX11_shot_82 : decode cX11_shot 82 = .ok (.getfield 146, 3) := by decide +kernel
theorem dX11_shot_85 : decode cX11_shot 85 = .ok (.getfield 150, 3) := by decide +kernel
theorem dX11_shot_88 : decode cX11_shot 88 = .ok (.bipush 10, 2) := by decide +kernel
theorem dX11_shot_9 : decode cX11_shot 9 = .ok (.invokestatic 93, 3) := by decide +kernel
theorem dX11_shot_90 : decode cX11_shot 90 = .ok (.isub, 1) := by decide +kernel
theorem dX11_shot_91 : decode cX11_shot 91 = .ok (.ireturn, 1) := by decide +kernel
set_option maxRecDepth 20000 in
theorem ggX11_shot_X11_need : GoodIn wsX11_shot wsX11_need := goodIn_ca (goodIn_r _ [19, 20, 21] (by decide +kernel) (by decide +kernel)) (goodIn_sub (fun _ h => List.mem_cons_of_mem _ (List.mem_append_right _ h)) (by decide +kernel))
set_option maxRecDepth 20000 in
theorem gX11_shot_X11_need : GoodIn wsX11_shot (va_wsS RX11 93 yX11_need wsX11_need) := goodIn_app (goodIn_of _ (by decide +kernel)) ggX11_shot_X11_need
set_option maxRecDepth 20000 in
theorem ggX11_shot_X11_within : GoodIn wsX11_shot wsX11_within := goodIn_r _ [16] (by decide +kernel) (by decide +kernel)
set_option maxRecDepth 20000 in
theorem gX11_shot_X11_within : GoodIn wsX11_shot (va_wsS RX11 97 yX11_within wsX11_within) := goodIn_app (goodIn_of _ (by decide +kernel)) ggX11_shot_X11_within
set_option maxRecDepth 20000 in
theorem ggX11_shot_X6_read : GoodIn wsX11_shot wsX6_read := goodIn_r _ [26, 27, 28, 29, 30, 31, 32, 33, 34, 35, 36, 37, 38, 39, 40, 41, 42, 43, 44, 45, 46, 47, 48, 49, 50, 51, 52, 53, 54, 55, 56, 57, 58, 59, 60, 61, 62, 63, 64, 65, 66, 67, 68, 69, 70, 71, 72, 73, 74, 75, 25, 76, 77, 78, 79, 80, 81, 82, 83, 84, 85, 86, 87, 88, 89, 90, 91, 92, 93, 94, 95, 96, 97, 98, 99, 100, 101, 102, 103, 104, 105, 106, 14, 15, 16, 107, 108, 109, 110, 111, 112, 113, 114, 115, 116, 117, 118, 119, 120, 121, 122, 123, 124, 125, 126, 127, 128, 129, 130, 131, 132, 133, 134, 135, 136, 137, 138, 139, 140, 141, 142, 143, 144, 145, 146, 147, 148, 149, 150, 151, 152, 153, 154, 155, 156, 157, 158, 159, 160, 161, 162, 163, 164, 165, 166, 167, 168, 169, 170, 171, 172, 173, 174, 175, 176, 177, 178, 179, 180, 181, 182, 183, 184, 185, 186, 187, 188, 189, 190, 191, 192, 193, 194, 195, 196, 197, 198, 199, 200, 201, 202, 203, 204, 205, 206, 207, 208, 209, 210, 211, 212, 213, 214, 215, 216, 217, 218, 219, 220, 221, 222, 223, 224, 225, 226, 227, 228, 229, 230, 231, 232, 233, 415, 416, 417, 418, 419, 420, 421, 422, 423, 424, 425, 426, 427, 428, 429, 430, 431, 432, 433, 434, 435, 436, 437, 438, 439, 440, 441, 442, 443, 408, 409, 410, 411, 412, 413, 414, 444, 445, 446, 447, 448, 449, 450, 451, 452, 453, 454] (by decide +kernel) (by decide +kernel)
set_option maxRecDepth 20000 in
theorem gX11_shot_X6_read : GoodIn wsX11_shot (wsV RX11 142 RX6 yX6_read wsX6_read) := goodIn_app (goodIn_of _ (by decide +kernel)) ggX11_shot_X6_read
set_option maxHeartbeats 4000000 in
set_option maxRecDepth 100000 in
theorem c_X11_shot (l : Launch) (hst : l.stackTraces = false) (D : va_G) (cT : Nat → ClassId) (h0 : Nat) (p0 : Int32) (x_studio : Nat) (x_script : Nat) (x_teller : Nat) (x_planner : Nat) (x_plan : Nat) (x_drifts : Nat) (x_floor : Nat) (x_trial : Nat) (x_tape : Nat) (s_puppets : Nat) (s_shots : Nat) (s_sounds : Nat) (s_rates : Nat) (s_dresses : Nat) (c_studio : Nat) (c_words : Nat) (c_lines : Nat) (c_aimWho : Nat) (c_aimJoint : Nat) (c_aimStep : Nat) (c_open : Nat) (c_frames : Nat) (c_done : Nat) (w_text : Nat) (sz : Nat)  : vx_Met l yX11_shot wsX11_shot ({ frames := 10, cells := 1, slots := 6, locals := 280 }) (va_Pc [.ref h0, .int p0] (PZ D cT [(h0, .inr (11, [.ref x_studio, .ref x_script, .ref x_teller, .ref x_planner, .ref x_plan, .ref x_drifts, .ref x_floor, .ref x_trial, .ref x_tape, .int 0, .int (-1)])), (x_studio, .inr (8, [.ref s_puppets, .int 0, .ref s_shots, .int 0, .ref s_sounds, .ref s_rates, .ref s_dresses])), (x_script, .inr (6, [.ref c_studio, .ref c_words, .ref c_lines, .int 0, .ref c_aimWho, .ref c_aimJoint, .ref c_aimStep, .int 0, .int 0, .int 0, .int 0, .ref c_open, .ref c_frames, .ref c_done])), (c_words, .inr (10, [.ref w_text, .int 0, .int 0, .int 0, .int 0, .int 0, .int 0])), (w_text, .inl (cT 1, 400, .inl (fun _ => 0))), (c_frames, .inl (cT 2, 5, .inr (.inl (fun _ => 0)))), (c_done, .inl (cT 2, 5, .inr (.inl (fun _ => 0)))), (x_tape, .inl (cT 1, 400, .inl (fun _ => 0)))] sz)) (va_Qi (fun (r : Int32) (_ : Unit) => th_shot p0 = 0 ∧ r = -6) (fun (_ : Unit) (_ : State) => True) (va_A [(h0, .inr (11, [.ref x_studio, .ref x_script, .ref x_teller, .ref x_planner, .ref x_plan, .ref x_drifts, .ref x_floor, .ref x_trial, .ref x_tape, .int 0, .int (-1)])), (x_studio, .inr (8, [.ref s_puppets, .int 0, .ref s_shots, .int 0, .ref s_sounds, .ref s_rates, .ref s_dresses])), (x_script, .inr (6, [.ref c_studio, .ref c_words, .ref c_lines, .int 0, .ref c_aimWho, .ref c_aimJoint, .ref c_aimStep, .int 0, .int 0, .int 0, .int 0, .ref c_open, .ref c_frames, .ref c_done])), (c_words, .inr (10, [.ref w_text, .int 0, .int 0, .int 0, .int 0, .int 0, .int 0])), (w_text, .inl (cT 1, 400, .inl (fun _ => 0))), (c_frames, .inl (cT 2, 5, .inr (.inl (fun _ => 0)))), (c_done, .inl (cT 2, 5, .inr (.inl (fun _ => 0)))), (x_tape, .inl (cT 1, 400, .inl (fun _ => 0)))] sz)) (vx_X (fun _ : Unit => True) (fun (E : String) (_ : Unit) (_ : State) => (E = "java/lang/IllegalArgumentException" ∧ th_shot p0 = 1)) (va_A [(h0, .inr (11, [.ref x_studio, .ref x_script, .ref x_teller, .ref x_planner, .ref x_plan, .ref x_drifts, .ref x_floor, .ref x_trial, .ref x_tape, .int 0, .int (-1)])), (x_studio, .inr (8, [.ref s_puppets, .int 0, .ref s_shots, .int 0, .ref s_sounds, .ref s_rates, .ref s_dresses])), (x_script, .inr (6, [.ref c_studio, .ref c_words, .ref c_lines, .int 0, .ref c_aimWho, .ref c_aimJoint, .ref c_aimStep, .int 0, .int 0, .int 0, .int 0, .ref c_open, .ref c_frames, .ref c_done])), (c_words, .inr (10, [.ref w_text, .int 0, .int 0, .int 0, .int 0, .int 0, .int 0])), (w_text, .inl (cT 1, 400, .inl (fun _ => 0))), (c_frames, .inl (cT 2, 5, .inr (.inl (fun _ => 0)))), (c_done, .inl (cT 2, 5, .inr (.inl (fun _ => 0)))), (x_tape, .inl (cT 1, 400, .inl (fun _ => 0)))] sz)) 1 6 (va_A [(h0, .inr (11, [.ref x_studio, .ref x_script, .ref x_teller, .ref x_planner, .ref x_plan, .ref x_drifts, .ref x_floor, .ref x_trial, .ref x_tape, .int 0, .int (-1)])), (x_studio, .inr (8, [.ref s_puppets, .int 0, .ref s_shots, .int 0, .ref s_sounds, .ref s_rates, .ref s_dresses])), (x_script, .inr (6, [.ref c_studio, .ref c_words, .ref c_lines, .int 0, .ref c_aimWho, .ref c_aimJoint, .ref c_aimStep, .int 0, .int 0, .int 0, .int 0, .ref c_open, .ref c_frames, .ref c_done])), (c_words, .inr (10, [.ref w_text, .int 0, .int 0, .int 0, .int 0, .int 0, .int 0])), (w_text, .inl (cT 1, 400, .inl (fun _ => 0))), (c_frames, .inl (cT 2, 5, .inr (.inl (fun _ => 0)))), (c_done, .inl (cT 2, 5, .inr (.inl (fun _ => 0)))), (x_tape, .inl (cT 1, 400, .inl (fun _ => 0)))] sz) := by
  refine vx_ofW (cc := cX11_shot) (maxL := 2) (ret := (some .int)) (by decide) rfl ?_
  intro p e s m args below meth c s₁ B hml hex hv
  obtain ⟨rfl, ⟨hsz, hP, hK, hD0, hG⟩, hZ⟩ := hv
  have hx := B.exec
  have hb := B.bytes
  have hr := B.returns
  have hts := atoms_spec (ws := wsX11_shot) B.pre
  have hown : s.vm.findClass RX11 = some m.cls := findClass_of_methodNamed B.named
  have hlocks := B.notSynchronized
  subst hsz
  have hD := hD0.self (sz := s.heap.size)
  generalize hAe : va_A [(h0, .inr (11, [.ref x_studio, .ref x_script, .ref x_teller, .ref x_planner, .ref x_plan, .ref x_drifts, .ref x_floor, .ref x_trial, .ref x_tape, .int 0, .int (-1)])), (x_studio, .inr (8, [.ref s_puppets, .int 0, .ref s_shots, .int 0, .ref s_sounds, .ref s_rates, .ref s_dresses])), (x_script, .inr (6, [.ref c_studio, .ref c_words, .ref c_lines, .int 0, .ref c_aimWho, .ref c_aimJoint, .ref c_aimStep, .int 0, .int 0, .int 0, .int 0, .ref c_open, .ref c_frames, .ref c_done])), (c_words, .inr (10, [.ref w_text, .int 0, .int 0, .int 0, .int 0, .int 0, .int 0])), (w_text, .inl (cT 1, 400, .inl (fun _ => 0))), (c_frames, .inl (cT 2, 5, .inr (.inl (fun _ => 0)))), (c_done, .inl (cT 2, 5, .inr (.inl (fun _ => 0)))), (x_tape, .inl (cT 1, 400, .inl (fun _ => 0)))] s.heap.size = A at hD hZ ⊢
  have hA : ∀ q : Nat, s.heap.size ≤ q → A q := fun q h => by rw [← hAe]; exact Or.inr h
  have hS : va_S A s.heap s.heap [] := va_S.rf
  have hP : va_P D vwCl [(h0, .inr (11, [.ref x_studio, .ref x_script, .ref x_teller, .ref x_planner, .ref x_plan, .ref x_drifts, .ref x_floor, .ref x_trial, .ref x_tape, .int 0, .int (-1)])), (x_studio, .inr (8, [.ref s_puppets, .int 0, .ref s_shots, .int 0, .ref s_sounds, .ref s_rates, .ref s_dresses])), (x_script, .inr (6, [.ref c_studio, .ref c_words, .ref c_lines, .int 0, .ref c_aimWho, .ref c_aimJoint, .ref c_aimStep, .int 0, .int 0, .int 0, .int 0, .ref c_open, .ref c_frames, .ref c_done])), (c_words, .inr (10, [.ref w_text, .int 0, .int 0, .int 0, .int 0, .int 0, .int 0])), (w_text, .inl (cT 1, 400, .inl (fun _ => 0))), (c_frames, .inl (cT 2, 5, .inr (.inl (fun _ => 0)))), (c_done, .inl (cT 2, 5, .inr (.inl (fun _ => 0)))), (x_tape, .inl (cT 1, 400, .inl (fun _ => 0)))] s.heap := hP
  have hl := lv_entry ([.ref h0, .int p0]) (n := 2) (Nat.le_of_ble_eq_true rfl)
  rw [lg_entry_eq]
  generalize (lg_sl ([.ref h0, .int p0]) ++ List.replicate (2 - (lg_sl ([.ref h0, .int p0])).length) Slot.unset).toArray = ls at hl ⊢
  have hl : lv_has ls 2 [(0, .ref h0), (1, .int p0)] := hl
  refine lv_iload_n hx hb dX11_shot_0 rfl (lv_at hl 1 rfl) ?_
  refine lv_iconst (v := 0) hx hb dX11_shot_1 (by decide) ?_
  refine lv_aload_n hx hb dX11_shot_2 rfl (lv_at hl 0 rfl) ?_
  refine va_get (D := D) (ci := 11) (v := .int 0) (C := RX11) (T := TX11) (N := 11) hx hb hts (fun _ h => List.mem_cons_of_mem _ (List.mem_append_left _ (List.mem_append_left _ (List.mem_append_left _ (List.mem_append_left _ (List.mem_append_left _ (List.mem_append_left _ (List.mem_append_left _ (List.mem_append_left _ (List.mem_append_left _ (List.mem_append_right _ h))))))))))) hown hK hP 0 rfl rfl 9 (by decide) (hts (.fieldLink RX11 125 "PuppetFilm" "taped" "I") (List.mem_of_getElem? (i := 3) (by decide +kernel))) (fun _ h9 => h9) rfl dX11_shot_3 ?_
  have hF := va_free (wc := []) hD hS hA [] rfl
  refine va_calli (va_runS (As := [.int p0, .int 0, .int 0]) (rest := []) ⟨hx, hb, hml, hown, hts⟩ (c_X11_within l D cT p0 0 0 _ ) (va_cwS 3 hts gX11_shot_X11_within rfl rfl rfl (by decide +kernel) ⟨Nat.le_of_ble_eq_true rfl, Nat.le_of_ble_eq_true rfl⟩) (ps_w hP hD hK hG [] rfl rfl rfl) rfl rfl hl.1 rfl (lv_room (Nat.le_of_ble_eq_true rfl)) dX11_shot_6 ⟨Nat.le_of_ble_eq_true rfl, Nat.le_of_ble_eq_true rfl⟩) hS (fun q _ h => hF q h) hF (fun r_1 uu9 tt9 H locs ht hvm wr_1 hB hz1 hk1 hS => ?_)
  obtain ⟨hP, hD⟩ := va_join (wr := [(h0, .inr (11, [.ref x_studio, .ref x_script, .ref x_teller, .ref x_planner, .ref x_plan, .ref x_drifts, .ref x_floor, .ref x_trial, .ref x_tape, .int 0, .int (-1)])), (x_studio, .inr (8, [.ref s_puppets, .int 0, .ref s_shots, .int 0, .ref s_sounds, .ref s_rates, .ref s_dresses])), (x_script, .inr (6, [.ref c_studio, .ref c_words, .ref c_lines, .int 0, .ref c_aimWho, .ref c_aimJoint, .ref c_aimStep, .int 0, .int 0, .int 0, .int 0, .ref c_open, .ref c_frames, .ref c_done])), (c_words, .inr (10, [.ref w_text, .int 0, .int 0, .int 0, .int 0, .int 0, .int 0])), (w_text, .inl (cT 1, 400, .inl (fun _ => 0))), (c_frames, .inl (cT 2, 5, .inr (.inl (fun _ => 0)))), (c_done, .inl (cT 2, 5, .inr (.inl (fun _ => 0)))), (x_tape, .inl (cT 1, 400, .inl (fun _ => 0)))]) (w1 := []) hP hD [] [0, 1, 2, 3, 4, 5, 6, 7] rfl rfl (by decide) (by decide) hk1 hF vp_nil vd_nil
  have hP : va_P D vwCl [(h0, .inr (11, [.ref x_studio, .ref x_script, .ref x_teller, .ref x_planner, .ref x_plan, .ref x_drifts, .ref x_floor, .ref x_trial, .ref x_tape, .int 0, .int (-1)])), (x_studio, .inr (8, [.ref s_puppets, .int 0, .ref s_shots, .int 0, .ref s_sounds, .ref s_rates, .ref s_dresses])), (x_script, .inr (6, [.ref c_studio, .ref c_words, .ref c_lines, .int 0, .ref c_aimWho, .ref c_aimJoint, .ref c_aimStep, .int 0, .int 0, .int 0, .int 0, .ref c_open, .ref c_frames, .ref c_done])), (c_words, .inr (10, [.ref w_text, .int 0, .int 0, .int 0, .int 0, .int 0, .int 0])), (w_text, .inl (cT 1, 400, .inl (fun _ => 0))), (c_frames, .inl (cT 2, 5, .inr (.inl (fun _ => 0)))), (c_done, .inl (cT 2, 5, .inr (.inl (fun _ => 0)))), (x_tape, .inl (cT 1, 400, .inl (fun _ => 0)))] _ := hP
  have hD : va_D A [(h0, .inr (11, [.ref x_studio, .ref x_script, .ref x_teller, .ref x_planner, .ref x_plan, .ref x_drifts, .ref x_floor, .ref x_trial, .ref x_tape, .int 0, .int (-1)])), (x_studio, .inr (8, [.ref s_puppets, .int 0, .ref s_shots, .int 0, .ref s_sounds, .ref s_rates, .ref s_dresses])), (x_script, .inr (6, [.ref c_studio, .ref c_words, .ref c_lines, .int 0, .ref c_aimWho, .ref c_aimJoint, .ref c_aimStep, .int 0, .int 0, .int 0, .int 0, .ref c_open, .ref c_frames, .ref c_done])), (c_words, .inr (10, [.ref w_text, .int 0, .int 0, .int 0, .int 0, .int 0, .int 0])), (w_text, .inl (cT 1, 400, .inl (fun _ => 0))), (c_frames, .inl (cT 2, 5, .inr (.inl (fun _ => 0)))), (c_done, .inl (cT 2, 5, .inr (.inl (fun _ => 0)))), (x_tape, .inl (cT 1, 400, .inl (fun _ => 0)))] := hD
  have g9 := wi_01 p0 0 0
  rw [← wr_1] at g9
  rcases g9 with rfl | rfl
  · have hF := va_free (wc := []) hD hS hA [] rfl
    refine vx_callv (vx_runS (As := [.int 0]) (rest := []) ⟨hx, hb, hml, hown, hts⟩ (c_X11_need l hst D cT 0 _ ) (va_cwS 1 hts gX11_shot_X11_need rfl rfl rfl (by decide +kernel) ⟨Nat.le_of_ble_eq_true rfl, Nat.le_of_ble_eq_true rfl⟩) (ps_z hP hD hK hG hZ hS hF [] rfl rfl rfl) rfl rfl hl.1 rfl (lv_room (Nat.le_of_ble_eq_true rfl)) dX11_shot_9 ⟨Nat.le_of_ble_eq_true rfl, Nat.le_of_ble_eq_true rfl⟩) hS (fun q _ h => hF q h) hF (fun q _ h => hF q h) (fun E ce q9 uu9 tt9 H locs ht hvm hw hB hz1 hk1 hS hq9 hv9 hc9 => ?_) (fun uu9 tt9 H locs ht hvm wr_2 hB hz1 hk1 hS => ((wr_2 rfl : False)).elim)
    obtain ⟨rfl, hpx⟩ := hB
    exact vx_out (fun x hx9 => (hex x hx9).elim) hlocks hq9 hv9 hc9 (fun t ht9 hA9 => ⟨(), trivial, ⟨rfl, (by simp [th_shot, ← wr_1])⟩, hS.F ht9⟩) hS.2.2 (Nat.le_of_ble_eq_true rfl) (Nat.le_of_ble_eq_true rfl)
  · have hF := va_free (wc := []) hD hS hA [] rfl
    refine vx_callv (vx_runS (As := [.int 1]) (rest := []) ⟨hx, hb, hml, hown, hts⟩ (c_X11_need l hst D cT 1 _ ) (va_cwS 1 hts gX11_shot_X11_need rfl rfl rfl (by decide +kernel) ⟨Nat.le_of_ble_eq_true rfl, Nat.le_of_ble_eq_true rfl⟩) (ps_z hP hD hK hG hZ hS hF [] rfl rfl rfl) rfl rfl hl.1 rfl (lv_room (Nat.le_of_ble_eq_true rfl)) dX11_shot_9 ⟨Nat.le_of_ble_eq_true rfl, Nat.le_of_ble_eq_true rfl⟩) hS (fun q _ h => hF q h) hF (fun q _ h => hF q h) (fun E ce q9 uu9 tt9 H locs ht hvm hw hB hz1 hk1 hS hq9 hv9 hc9 => ((absurd hB.2 (by decide) : False)).elim) (fun uu9 tt9 H locs ht hvm wr_3 hB hz1 hk1 hS => ?_)
    obtain ⟨hP, hD⟩ := va_join (wr := [(h0, .inr (11, [.ref x_studio, .ref x_script, .ref x_teller, .ref x_planner, .ref x_plan, .ref x_drifts, .ref x_floor, .ref x_trial, .ref x_tape, .int 0, .int (-1)])), (x_studio, .inr (8, [.ref s_puppets, .int 0, .ref s_shots, .int 0, .ref s_sounds, .ref s_rates, .ref s_dresses])), (x_script, .inr (6, [.ref c_studio, .ref c_words, .ref c_lines, .int 0, .ref c_aimWho, .ref c_aimJoint, .ref c_aimStep, .int 0, .int 0, .int 0, .int 0, .ref c_open, .ref c_frames, .ref c_done])), (c_words, .inr (10, [.ref w_text, .int 0, .int 0, .int 0, .int 0, .int 0, .int 0])), (w_text, .inl (cT 1, 400, .inl (fun _ => 0))), (c_frames, .inl (cT 2, 5, .inr (.inl (fun _ => 0)))), (c_done, .inl (cT 2, 5, .inr (.inl (fun _ => 0)))), (x_tape, .inl (cT 1, 400, .inl (fun _ => 0)))]) (w1 := []) hP hD [] [0, 1, 2, 3, 4, 5, 6, 7] rfl rfl (by decide) (by decide) hk1 hF vp_nil vd_nil
    have hP : va_P D vwCl [(h0, .inr (11, [.ref x_studio, .ref x_script, .ref x_teller, .ref x_planner, .ref x_plan, .ref x_drifts, .ref x_floor, .ref x_trial, .ref x_tape, .int 0, .int (-1)])), (x_studio, .inr (8, [.ref s_puppets, .int 0, .ref s_shots, .int 0, .ref s_sounds, .ref s_rates, .ref s_dresses])), (x_script, .inr (6, [.ref c_studio, .ref c_words, .ref c_lines, .int 0, .ref c_aimWho, .ref c_aimJoint, .ref c_aimStep, .int 0, .int 0, .int 0, .int 0, .ref c_open, .ref c_frames, .ref c_done])), (c_words, .inr (10, [.ref w_text, .int 0, .int 0, .int 0, .int 0, .int 0, .int 0])), (w_text, .inl (cT 1, 400, .inl (fun _ => 0))), (c_frames, .inl (cT 2, 5, .inr (.inl (fun _ => 0)))), (c_done, .inl (cT 2, 5, .inr (.inl (fun _ => 0)))), (x_tape, .inl (cT 1, 400, .inl (fun _ => 0)))] _ := hP
    have hD : va_D A [(h0, .inr (11, [.ref x_studio, .ref x_script, .ref x_teller, .ref x_planner, .ref x_plan, .ref x_drifts, .ref x_floor, .ref x_trial, .ref x_tape, .int 0, .int (-1)])), (x_studio, .inr (8, [.ref s_puppets, .int 0, .ref s_shots, .int 0, .ref s_sounds, .ref s_rates, .ref s_dresses])), (x_script, .inr (6, [.ref c_studio, .ref c_words, .ref c_lines, .int 0, .ref c_aimWho, .ref c_aimJoint, .ref c_aimStep, .int 0, .int 0, .int 0, .int 0, .ref c_open, .ref c_frames, .ref c_done])), (c_words, .inr (10, [.ref w_text, .int 0, .int 0, .int 0, .int 0, .int 0, .int 0])), (w_text, .inl (cT 1, 400, .inl (fun _ => 0))), (c_frames, .inl (cT 2, 5, .inr (.inl (fun _ => 0)))), (c_done, .inl (cT 2, 5, .inr (.inl (fun _ => 0)))), (x_tape, .inl (cT 1, 400, .inl (fun _ => 0)))] := hD
    refine W.widen (k := 1) (n := 6) (Nat.le_of_ble_eq_true rfl) (Nat.le_of_ble_eq_true rfl) ?_
    obtain rfl : p0 = 0 := wi_00 wr_1
    refine lv_aload_n hx hb dX11_shot_12 rfl (lv_at hl 0 rfl) ?_
    refine va_get (D := D) (ci := 11) (v := .ref x_studio) (C := RX11) (T := TX11) (N := 11) hx hb hts (fun _ h => List.mem_cons_of_mem _ (List.mem_append_left _ (List.mem_append_left _ (List.mem_append_left _ (List.mem_append_left _ (List.mem_append_left _ (List.mem_append_left _ (List.mem_append_left _ (List.mem_append_left _ (List.mem_append_left _ (List.mem_append_right _ h))))))))))) hown hK hP 0 rfl rfl 0 (by decide) (hts (.fieldLink RX11 10 "PuppetFilm" "studio" "LPuppetFilm$Studio;") (List.mem_of_getElem? (i := 4) (by decide +kernel))) (fun _ h9 => h9) rfl dX11_shot_13 ?_
    refine va_get (D := D) (ci := 8) (v := .int 0) (C := RX8) (T := TX8) (N := 7) hx hb hts (fun _ h => List.mem_cons_of_mem _ (List.mem_append_left _ (List.mem_append_left _ (List.mem_append_left _ (List.mem_append_left _ (List.mem_append_left _ (List.mem_append_left _ (List.mem_append_left _ (List.mem_append_left _ (List.mem_append_right _ h)))))))))) hown hK hP 1 rfl rfl 3 (by decide) (hts (.fieldLink RX11 132 "PuppetFilm$Studio" "shotCount" "I") (List.mem_of_getElem? (i := 5) (by decide +kernel))) (fun _ h9 => h9) rfl dX11_shot_16 ?_
    refine lv_bipush (v := 12) hx hb dX11_shot_19 (by decide) ?_
    refine lv_icmp_lt (tgt := 34) hx hb dX11_shot_21 (by decide) (fun _ => ?_) (fun c9 => absurd c9 (by decide))
    refine lv_aload_n hx hb dX11_shot_34 rfl (lv_at hl 0 rfl) ?_
    refine va_get (D := D) (ci := 11) (v := .ref x_script) (C := RX11) (T := TX11) (N := 11) hx hb hts (fun _ h => List.mem_cons_of_mem _ (List.mem_append_left _ (List.mem_append_left _ (List.mem_append_left _ (List.mem_append_left _ (List.mem_append_left _ (List.mem_append_left _ (List.mem_append_left _ (List.mem_append_left _ (List.mem_append_left _ (List.mem_append_right _ h))))))))))) hown hK hP 0 rfl rfl 1 (by decide) (hts (.fieldLink RX11 21 "PuppetFilm" "script" "LPuppetFilm$Script;") (List.mem_of_getElem? (i := 6) (by decide +kernel))) (fun _ h9 => h9) rfl dX11_shot_35 ?_
    refine lv_aload_n hx hb dX11_shot_38 rfl (lv_at hl 0 rfl) ?_
    refine va_get (D := D) (ci := 11) (v := .ref x_tape) (C := RX11) (T := TX11) (N := 11) hx hb hts (fun _ h => List.mem_cons_of_mem _ (List.mem_append_left _ (List.mem_append_left _ (List.mem_append_left _ (List.mem_append_left _ (List.mem_append_left _ (List.mem_append_left _ (List.mem_append_left _ (List.mem_append_left _ (List.mem_append_left _ (List.mem_append_right _ h))))))))))) hown hK hP 0 rfl rfl 8 (by decide) (hts (.fieldLink RX11 67 "PuppetFilm" "tape" "[B") (List.mem_of_getElem? (i := 7) (by decide +kernel))) (fun _ h9 => h9) rfl dX11_shot_39 ?_
    refine lv_iload_n hx hb dX11_shot_42 rfl (lv_at hl 1 rfl) ?_
    have hF := va_free (wc := [(x_script, .inr (6, [.ref c_studio, .ref c_words, .ref c_lines, .int 0, .ref c_aimWho, .ref c_aimJoint, .ref c_aimStep, .int 0, .int 0, .int 0, .int 0, .ref c_open, .ref c_frames, .ref c_done])), (c_words, .inr (10, [.ref w_text, .int 0, .int 0, .int 0, .int 0, .int 0, .int 0])), (w_text, .inl (cT 1, 400, .inl (fun _ => 0))), (c_frames, .inl (cT 2, 5, .inr (.inl (fun _ => 0)))), (c_done, .inl (cT 2, 5, .inr (.inl (fun _ => 0)))), (x_tape, .inl (cT 1, 400, .inl (fun _ => 0)))]) hD hS hA [2, 3, 4, 5, 6, 7] rfl
    refine va_callv (va_runV (As := [.ref x_tape, .int 0]) (rest := []) ⟨hx, hb, hml, hown, hts⟩ (c_X6_read l D cT x_script x_tape c_studio c_words c_lines c_aimWho c_aimJoint c_aimStep c_open c_frames c_done w_text _ ) (cwV 2 hts gX11_shot_X6_read rfl rfl rfl (by decide +kernel) ⟨Nat.le_of_ble_eq_true rfl, Nat.le_of_ble_eq_true rfl⟩) (pv_w hP hD hK hG [2, 3, 4, 5, 6, 7] rfl rfl rfl 2 rfl rfl) rfl rfl hl.1 rfl (lv_room (Nat.le_of_ble_eq_true rfl)) dX11_shot_43 ⟨Nat.le_of_ble_eq_true rfl, Nat.le_of_ble_eq_true rfl⟩) hS (fun q _ h => hF q h) hF (fun uu9 tt9 H locs ht hvm wr_4 hB hz1 hk1 hS => ?_)
    obtain ⟨hP1, hD1⟩ := hB
    rw [ht] at hP1
    obtain ⟨hP, hD⟩ := va_join (wr := [(h0, .inr (11, [.ref x_studio, .ref x_script, .ref x_teller, .ref x_planner, .ref x_plan, .ref x_drifts, .ref x_floor, .ref x_trial, .ref x_tape, .int 0, .int (-1)])), (x_studio, .inr (8, [.ref s_puppets, .int 0, .ref s_shots, .int 0, .ref s_sounds, .ref s_rates, .ref s_dresses]))]) (w1 := [(x_script, .inr (6, [.ref c_studio, .ref c_words, .ref c_lines, .int 0, .ref c_aimWho, .ref c_aimJoint, .ref c_aimStep, .int 0, .int 0, .int 0, .int 0, .ref c_open, .ref c_frames, .ref c_done])), (c_words, .inr (10, [.ref w_text, .int 0, .int 0, .int 4, .int 0, .int 0, .int 0]))]) hP hD [2, 3, 4, 5, 6, 7] [0, 1] rfl rfl (by decide) (by decide) hk1 hF hP1 hD1
    have hP : va_P D vwCl [(h0, .inr (11, [.ref x_studio, .ref x_script, .ref x_teller, .ref x_planner, .ref x_plan, .ref x_drifts, .ref x_floor, .ref x_trial, .ref x_tape, .int 0, .int (-1)])), (x_studio, .inr (8, [.ref s_puppets, .int 0, .ref s_shots, .int 0, .ref s_sounds, .ref s_rates, .ref s_dresses])), (x_script, .inr (6, [.ref c_studio, .ref c_words, .ref c_lines, .int 0, .ref c_aimWho, .ref c_aimJoint, .ref c_aimStep, .int 0, .int 0, .int 0, .int 0, .ref c_open, .ref c_frames, .ref c_done])), (c_words, .inr (10, [.ref w_text, .int 0, .int 0, .int 4, .int 0, .int 0, .int 0]))] _ := hP
    have hD : va_D A [(h0, .inr (11, [.ref x_studio, .ref x_script, .ref x_teller, .ref x_planner, .ref x_plan, .ref x_drifts, .ref x_floor, .ref x_trial, .ref x_tape, .int 0, .int (-1)])), (x_studio, .inr (8, [.ref s_puppets, .int 0, .ref s_shots, .int 0, .ref s_sounds, .ref s_rates, .ref s_dresses])), (x_script, .inr (6, [.ref c_studio, .ref c_words, .ref c_lines, .int 0, .ref c_aimWho, .ref c_aimJoint, .ref c_aimStep, .int 0, .int 0, .int 0, .int 0, .ref c_open, .ref c_frames, .ref c_done])), (c_words, .inr (10, [.ref w_text, .int 0, .int 0, .int 4, .int 0, .int 0, .int 0]))] := hD
    refine lv_aload_n hx hb dX11_shot_46 rfl (lv_at hl 0 rfl) ?_
    refine lv_iconst (v := 0) hx hb dX11_shot_47 (by decide) ?_
    refine va_put (D := D) (ci := 11) (v := .int 0) (ty := .int) (C := RX11) (T := TX11) (N := 11) hx hb hts (fun _ h => List.mem_cons_of_mem _ (List.mem_append_left _ (List.mem_append_left _ (List.mem_append_left _ (List.mem_append_left _ (List.mem_append_left _ (List.mem_append_left _ (List.mem_append_left _ (List.mem_append_left _ (List.mem_append_left _ (List.mem_append_right _ h))))))))))) tyX11 tyX11_ok nmX11 hown hK hP hD hS 0 rfl rfl 9 (by decide) (hts (.fieldLink RX11 125 "PuppetFilm" "taped" "I") (List.mem_of_getElem? (i := 3) (by decide +kernel))) (fun _ h9 => h9) rfl (by decide +kernel) rfl rfl (Nat.le_of_ble_eq_true rfl) dX11_shot_48 (fun H locs hP hD hS => ?_)
    have hP : va_P D vwCl [(h0, .inr (11, [.ref x_studio, .ref x_script, .ref x_teller, .ref x_planner, .ref x_plan, .ref x_drifts, .ref x_floor, .ref x_trial, .ref x_tape, .int 0, .int (-1)])), (x_studio, .inr (8, [.ref s_puppets, .int 0, .ref s_shots, .int 0, .ref s_sounds, .ref s_rates, .ref s_dresses])), (x_script, .inr (6, [.ref c_studio, .ref c_words, .ref c_lines, .int 0, .ref c_aimWho, .ref c_aimJoint, .ref c_aimStep, .int 0, .int 0, .int 0, .int 0, .ref c_open, .ref c_frames, .ref c_done])), (c_words, .inr (10, [.ref w_text, .int 0, .int 0, .int 4, .int 0, .int 0, .int 0]))] _ := hP
    have hD : va_D A [(h0, .inr (11, [.ref x_studio, .ref x_script, .ref x_teller, .ref x_planner, .ref x_plan, .ref x_drifts, .ref x_floor, .ref x_trial, .ref x_tape, .int 0, .int (-1)])), (x_studio, .inr (8, [.ref s_puppets, .int 0, .ref s_shots, .int 0, .ref s_sounds, .ref s_rates, .ref s_dresses])), (x_script, .inr (6, [.ref c_studio, .ref c_words, .ref c_lines, .int 0, .ref c_aimWho, .ref c_aimJoint, .ref c_aimStep, .int 0, .int 0, .int 0, .int 0, .ref c_open, .ref c_frames, .ref c_done])), (c_words, .inr (10, [.ref w_text, .int 0, .int 0, .int 4, .int 0, .int 0, .int 0]))] := hD
    refine lv_aload_n hx hb dX11_shot_51 rfl (lv_at hl 0 rfl) ?_
    refine va_get (D := D) (ci := 11) (v := .ref x_script) (C := RX11) (T := TX11) (N := 11) hx hb hts (fun _ h => List.mem_cons_of_mem _ (List.mem_append_left _ (List.mem_append_left _ (List.mem_append_left _ (List.mem_append_left _ (List.mem_append_left _ (List.mem_append_left _ (List.mem_append_left _ (List.mem_append_left _ (List.mem_append_left _ (List.mem_append_right _ h))))))))))) hown hK hP 0 rfl rfl 1 (by decide) (hts (.fieldLink RX11 21 "PuppetFilm" "script" "LPuppetFilm$Script;") (List.mem_of_getElem? (i := 6) (by decide +kernel))) (fun _ h9 => h9) rfl dX11_shot_52 ?_
    refine va_get (D := D) (ci := 6) (v := .ref c_words) (C := RX6) (T := TX6) (N := 14) hx hb hts (fun _ h => List.mem_cons_of_mem _ (List.mem_append_left _ (List.mem_append_left _ (List.mem_append_left _ (List.mem_append_left _ (List.mem_append_left _ (List.mem_append_left _ (List.mem_append_left _ (List.mem_append_right _ h))))))))) hown hK hP 2 rfl rfl 1 (by decide) (hts (.fieldLink RX11 146 "PuppetFilm$Script" "words" "LPuppetFilm$Words;") (List.mem_of_getElem? (i := 8) (by decide +kernel))) (fun _ h9 => h9) rfl dX11_shot_55 ?_
    refine va_get (D := D) (ci := 10) (v := .int 4) (C := RX10) (T := TX10) (N := 7) hx hb hts (fun _ h => List.mem_cons_of_mem _ (List.mem_append_left _ (List.mem_append_left _ (List.mem_append_left _ (List.mem_append_left _ (List.mem_append_left _ (List.mem_append_left _ (List.mem_append_right _ h)))))))) hown hK hP 3 rfl rfl 3 (by decide) (hts (.fieldLink RX11 150 "PuppetFilm$Words" "fault" "I") (List.mem_of_getElem? (i := 9) (by decide +kernel))) (fun _ h9 => h9) rfl dX11_shot_58 ?_
    refine lv_if_eq (tgt := 92) hx hb dX11_shot_61 (by decide) (fun c9 => absurd c9 (by decide)) (fun _ => ?_)
    refine lv_aload_n hx hb dX11_shot_64 rfl (lv_at hl 0 rfl) ?_
    refine lv_aload_n hx hb dX11_shot_65 rfl (lv_at hl 0 rfl) ?_
    refine va_get (D := D) (ci := 11) (v := .ref x_script) (C := RX11) (T := TX11) (N := 11) hx hb hts (fun _ h => List.mem_cons_of_mem _ (List.mem_append_left _ (List.mem_append_left _ (List.mem_append_left _ (List.mem_append_left _ (List.mem_append_left _ (List.mem_append_left _ (List.mem_append_left _ (List.mem_append_left _ (List.mem_append_left _ (List.mem_append_right _ h))))))))))) hown hK hP 0 rfl rfl 1 (by decide) (hts (.fieldLink RX11 21 "PuppetFilm" "script" "LPuppetFilm$Script;") (List.mem_of_getElem? (i := 6) (by decide +kernel))) (fun _ h9 => h9) rfl dX11_shot_66 ?_
    refine va_get (D := D) (ci := 6) (v := .ref c_words) (C := RX6) (T := TX6) (N := 14) hx hb hts (fun _ h => List.mem_cons_of_mem _ (List.mem_append_left _ (List.mem_append_left _ (List.mem_append_left _ (List.mem_append_left _ (List.mem_append_left _ (List.mem_append_left _ (List.mem_append_left _ (List.mem_append_right _ h))))))))) hown hK hP 2 rfl rfl 1 (by decide) (hts (.fieldLink RX11 146 "PuppetFilm$Script" "words" "LPuppetFilm$Words;") (List.mem_of_getElem? (i := 8) (by decide +kernel))) (fun _ h9 => h9) rfl dX11_shot_69 ?_
    refine va_get (D := D) (ci := 10) (v := .int 0) (C := RX10) (T := TX10) (N := 7) hx hb hts (fun _ h => List.mem_cons_of_mem _ (List.mem_append_left _ (List.mem_append_left _ (List.mem_append_left _ (List.mem_append_left _ (List.mem_append_left _ (List.mem_append_left _ (List.mem_append_right _ h)))))))) hown hK hP 3 rfl rfl 4 (by decide) (hts (.fieldLink RX11 155 "PuppetFilm$Words" "place" "I") (List.mem_of_getElem? (i := 10) (by decide +kernel))) (fun _ h9 => h9) rfl dX11_shot_72 ?_
    refine va_put (D := D) (ci := 11) (v := .int 0) (ty := .int) (C := RX11) (T := TX11) (N := 11) hx hb hts (fun _ h => List.mem_cons_of_mem _ (List.mem_append_left _ (List.mem_append_left _ (List.mem_append_left _ (List.mem_append_left _ (List.mem_append_left _ (List.mem_append_left _ (List.mem_append_left _ (List.mem_append_left _ (List.mem_append_left _ (List.mem_append_right _ h))))))))))) tyX11 tyX11_ok nmX11 hown hK hP hD hS 0 rfl rfl 10 (by decide) (hts (.fieldLink RX11 71 "PuppetFilm" "faultPlace" "I") (List.mem_of_getElem? (i := 11) (by decide +kernel))) (fun _ h9 => h9) rfl (by decide +kernel) rfl rfl (Nat.le_of_ble_eq_true rfl) dX11_shot_75 (fun H locs hP hD hS => ?_)
    have hP : va_P D vwCl [(h0, .inr (11, [.ref x_studio, .ref x_script, .ref x_teller, .ref x_planner, .ref x_plan, .ref x_drifts, .ref x_floor, .ref x_trial, .ref x_tape, .int 0, .int 0])), (x_studio, .inr (8, [.ref s_puppets, .int 0, .ref s_shots, .int 0, .ref s_sounds, .ref s_rates, .ref s_dresses])), (x_script, .inr (6, [.ref c_studio, .ref c_words, .ref c_lines, .int 0, .ref c_aimWho, .ref c_aimJoint, .ref c_aimStep, .int 0, .int 0, .int 0, .int 0, .ref c_open, .ref c_frames, .ref c_done])), (c_words, .inr (10, [.ref w_text, .int 0, .int 0, .int 4, .int 0, .int 0, .int 0]))] _ := hP
    have hD : va_D A [(h0, .inr (11, [.ref x_studio, .ref x_script, .ref x_teller, .ref x_planner, .ref x_plan, .ref x_drifts, .ref x_floor, .ref x_trial, .ref x_tape, .int 0, .int 0])), (x_studio, .inr (8, [.ref s_puppets, .int 0, .ref s_shots, .int 0, .ref s_sounds, .ref s_rates, .ref s_dresses])), (x_script, .inr (6, [.ref c_studio, .ref c_words, .ref c_lines, .int 0, .ref c_aimWho, .ref c_aimJoint, .ref c_aimStep, .int 0, .int 0, .int 0, .int 0, .ref c_open, .ref c_frames, .ref c_done])), (c_words, .inr (10, [.ref w_text, .int 0, .int 0, .int 4, .int 0, .int 0, .int 0]))] := hD
    refine lv_aload_n hx hb dX11_shot_78 rfl (lv_at hl 0 rfl) ?_
    refine va_get (D := D) (ci := 11) (v := .ref x_script) (C := RX11) (T := TX11) (N := 11) hx hb hts (fun _ h => List.mem_cons_of_mem _ (List.mem_append_left _ (List.mem_append_left _ (List.mem_append_left _ (List.mem_append_left _ (List.mem_append_left _ (List.mem_append_left _ (List.mem_append_left _ (List.mem_append_left _ (List.mem_append_left _ (List.mem_append_right _ h))))))))))) hown hK hP 0 rfl rfl 1 (by decide) (hts (.fieldLink RX11 21 "PuppetFilm" "script" "LPuppetFilm$Script;") (List.mem_of_getElem? (i := 6) (by decide +kernel))) (fun _ h9 => h9) rfl dX11_shot_79 ?_
    refine va_get (D := D) (ci := 6) (v := .ref c_words) (C := RX6) (T := TX6) (N := 14) hx hb hts (fun _ h => List.mem_cons_of_mem _ (List.mem_append_left _ (List.mem_append_left _ (List.mem_append_left _ (List.mem_append_left _ (List.mem_append_left _ (List.mem_append_left _ (List.mem_append_left _ (List.mem_append_right _ h))))))))) hown hK hP 2 rfl rfl 1 (by decide) (hts (.fieldLink RX11 146 "PuppetFilm$Script" "words" "LPuppetFilm$Words;") (List.mem_of_getElem? (i := 8) (by decide +kernel))) (fun _ h9 => h9) rfl dX11_shot_82 ?_
    refine va_get (D := D) (ci := 10) (v := .int 4) (C := RX10) (T := TX10) (N := 7) hx hb hts (fun _ h => List.mem_cons_of_mem _ (List.mem_append_left _ (List.mem_append_left _ (List.mem_append_left _ (List.mem_append_left _ (List.mem_append_left _ (List.mem_append_left _ (List.mem_append_right _ h)))))))) hown hK hP 3 rfl rfl 3 (by decide) (hts (.fieldLink RX11 150 "PuppetFilm$Words" "fault" "I") (List.mem_of_getElem? (i := 9) (by decide +kernel))) (fun _ h9 => h9) rfl dX11_shot_85 ?_
    refine lv_bipush (v := 10) hx hb dX11_shot_88 (by decide) ?_
    refine lv_isub hx hb dX11_shot_90 ?_
    refine lv_topi (fun z_5 ez_5 => ?_)
    obtain rfl : z_5 = (-6) := ez_5.trans (by decide)
    refine vx_ret ?_
    exact W.iret (v := (-6)) hx hb hr (fun t ht hW => ⟨⟨(-6), (), rfl, ⟨by decide, rfl⟩, trivial⟩, hS.F ht⟩) hS.2.2 dX11_shot_91
