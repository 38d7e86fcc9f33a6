theorem dX12_thrown_0 : decode cX12_thrown 0 = .ok (.aload_n 0, 1) := by decide +kernel
theorem dX12_thrown_1 : decode cX12_thrown 1 = .ok (.getfield 1, 3) := by decide +kernel
theorem dX12_thrown_4 : decode cX12_thrown 4 = .ok (.ireturn, 1) := by decide +kernel
set_option maxHeartbeats 4000000 in
set_option maxRecDepth 100000 in
theorem c_X12_thrown (l : Launch) (D : va_G) (cT : Nat → ClassId) (h0 : Nat) (fs : List Value) (tv : Int32) (sz : Nat) (hfs : fs.length = 109) (hfs_0 : fs[0]? = some (.int tv)) : Met l yX12_thrown wsX12_thrown ({ frames := 8, cells := 0, slots := 0, locals := 160 }) (va_Pc [.ref h0] (PW D cT [(h0, .inr (12, fs))] sz)) (va_Qi (fun (r : Int32) (_ : Unit) => r = tv) (fun (_ : Unit) (t : State) => va_P D vwCl [(h0, .inr (12, fs))] t.heap ∧ va_D (va_A [(h0, .inr (12, fs))] sz) [(h0, .inr (12, fs))]) (va_A [(h0, .inr (12, fs))] sz)) 0 0 (va_A [(h0, .inr (12, fs))] sz) := by
  refine Met.ofW (cc := cX12_thrown) (maxL := 1) (ret := (some .int)) (by decide) rfl ?_
  intro p e s m args below meth c s₁ B hml hv
  obtain ⟨rfl, hsz, hP, hK, hD0, hG⟩ := hv
  have hx := B.exec
  have hb := B.bytes
  have hr := B.returns
  have hts := atoms_spec (ws := wsX12_thrown) B.pre
  have hown : s.vm.findClass RX12 = some m.cls := findClass_of_methodNamed B.named
  have hlocks := B.notSynchronized
  subst hsz
  have hD := hD0.self (sz := s.heap.size)
  generalize hAe : va_A [(h0, .inr (12, fs))] s.heap.size = A at hD ⊢
  have hA : ∀ q : Nat, s.heap.size ≤ q → A q := fun q h => by rw [← hAe]; exact Or.inr h
  have hS : va_S A s.heap s.heap [] := va_S.rf
  have hP : va_P D vwCl [(h0, .inr (12, fs))] s.heap := hP
  have hl := lv_entry ([.ref h0]) (n := 1) (Nat.le_of_ble_eq_true rfl)
  rw [lg_entry_eq]
  generalize (lg_sl ([.ref h0]) ++ List.replicate (1 - (lg_sl ([.ref h0])).length) Slot.unset).toArray = ls at hl ⊢
  have hl : lv_has ls 1 [(0, .ref h0)] := hl
  refine lv_aload_n hx hb dX12_thrown_0 rfl (lv_at hl 0 rfl) ?_
  refine va_get (D := D) (ci := 12) (v := .int tv) (C := RX12) (T := TX12) (N := 109) hx hb hts (fun _ h => List.mem_cons_of_mem _ (List.mem_append_right _ h)) hown hK hP 0 rfl rfl 0 (by decide) (hts (.fieldLink RX12 1 "PuppetFilmModel" "thrown" "I") (List.mem_of_getElem? (i := 1) (by decide +kernel))) (fun _ h9 => h9) (hfs_0) dX12_thrown_1 ?_
  have hP9 := hP.sub (ws' := [(h0, .inr (12, fs))]) [0] rfl
  have hD9 := hD.sub (ws' := [(h0, .inr (12, fs))]) [0] (by decide) rfl
  exact W.iret (v := tv) hx hb hr (fun t ht hW => ⟨⟨tv, (), rfl, rfl, ⟨by rw [ht]; exact hP9, hD9⟩⟩, hS.F ht⟩) hS.2.2 dX12_thrown_4
theorem dX12_may_0 : decode cX12_may 0 = .ok (.iload_n 1, 1) := by decide +kernel
theorem dX12_may_1 : decode cX12_may 1 = .ok (.ifCond .ne 15, 3) := by decide +kernel
theorem dX12_may_16 : decode cX12_may 16 = .ok (.aload_n 0, 1) := by decide +kernel
theorem dX12_may_17 : decode cX12_may 17 = .ok (.getfield 1, 3) := by decide +kernel
theorem dX12_may_20 : decode cX12_may 20 = .ok (.ifCond .ne 7, 3) := by decide +kernel
theorem dX12_may_23 : decode cX12_may 23 = .ok (.iconst 1, 1) := by decide +kernel
theorem dX12_may_24 : decode cX12_may 24 = .ok (.goto 4, 3) := by decide +kernel
theorem dX12_may_28 : decode cX12_may 28 = .ok (.ireturn, 1) := by decide +kernel
set_option maxHeartbeats 4000000 in
set_option maxRecDepth 100000 in
theorem c_X12_may_1 (l : Launch) (D : va_G) (cT : Nat → ClassId) (h0 : Nat) (p1 : Int32) (fs : List Value) (sz : Nat) (hfs : fs.length = 109) (hfs_0 : fs[0]? = some (.int 0)) : Met l yX12_may wsX12_may ({ frames := 8, cells := 0, slots := 0, locals := 160 }) (va_Pc [.ref h0, .int 1, .int p1] (PW D cT [(h0, .inr (12, fs))] sz)) (va_Qi (fun (r : Int32) (_ : Unit) => r = 1) (fun (_ : Unit) (t : State) => va_P D vwCl [(h0, .inr (12, fs))] t.heap ∧ va_D (va_A [(h0, .inr (12, fs))] sz) [(h0, .inr (12, fs))]) (va_A [(h0, .inr (12, fs))] sz)) 0 0 (va_A [(h0, .inr (12, fs))] sz) := by
  refine Met.ofW (cc := cX12_may) (maxL := 3) (ret := (some .boolean)) (by decide) rfl ?_
  intro p e s m args below meth c s₁ B hml hv
  obtain ⟨rfl, hsz, hP, hK, hD0, hG⟩ := hv
  have hx := B.exec
  have hb := B.bytes
  have hr := B.returns
  have hts := atoms_spec (ws := wsX12_may) B.pre
  have hown : s.vm.findClass RX12 = some m.cls := findClass_of_methodNamed B.named
  have hlocks := B.notSynchronized
  subst hsz
  have hD := hD0.self (sz := s.heap.size)
  generalize hAe : va_A [(h0, .inr (12, fs))] s.heap.size = A at hD ⊢
  have hA : ∀ q : Nat, s.heap.size ≤ q → A q := fun q h => by rw [← hAe]; exact Or.inr h
  have hS : va_S A s.heap s.heap [] := va_S.rf
  have hP : va_P D vwCl [(h0, .inr (12, fs))] s.heap := hP
  have hl := lv_entry ([.ref h0, .int 1, .int p1]) (n := 3) (Nat.le_of_ble_eq_true rfl)
  rw [lg_entry_eq]
  generalize (lg_sl ([.ref h0, .int 1, .int p1]) ++ List.replicate (3 - (lg_sl ([.ref h0, .int 1, .int p1])).length) Slot.unset).toArray = ls at hl ⊢
  have hl : lv_has ls 3 [(0, .ref h0), (1, .int 1), (2, .int p1)] := hl
  refine lv_iload_n hx hb dX12_may_0 rfl (lv_at hl 1 rfl) ?_
  refine lv_if_ne (tgt := 16) hx hb dX12_may_1 (by decide) (fun _ => ?_) (fun c9 => absurd c9 (by decide))
  refine lv_aload_n hx hb dX12_may_16 rfl (lv_at hl 0 rfl) ?_
  refine va_get (D := D) (ci := 12) (v := .int 0) (C := RX12) (T := TX12) (N := 109) hx hb hts (fun _ h => List.mem_cons_of_mem _ (List.mem_append_right _ h)) hown hK hP 0 rfl rfl 0 (by decide) (hts (.fieldLink RX12 1 "PuppetFilmModel" "thrown" "I") (List.mem_of_getElem? (i := 1) (by decide +kernel))) (fun _ h9 => h9) (hfs_0) dX12_may_17 ?_
  refine lv_if_ne (tgt := 27) hx hb dX12_may_20 (by decide) (fun c9 => absurd c9 (by decide)) (fun _ => ?_)
  refine lv_iconst (v := 1) hx hb dX12_may_23 (by decide) ?_
  refine lv_goto (tgt := 28) hx hb dX12_may_24 (by decide) ?_
  have hP9 := hP.sub (ws' := [(h0, .inr (12, fs))]) [0] rfl
  have hD9 := hD.sub (ws' := [(h0, .inr (12, fs))]) [0] (by decide) rfl
  exact W.zret (v := 1) (ty := .boolean) hx hb hr rfl (fun t ht hW => ⟨⟨1, (), rfl, rfl, ⟨by rw [ht]; exact hP9, hD9⟩⟩, hS.F ht⟩) hS.2.2 dX12_may_28
theorem dX12_may_11 : decode cX12_may 11 = .ok (.aload_n 0, 1) := by decide +kernel
theorem dX12_may_12 : decode cX12_may 12 = .ok (.iload_n 2, 1) := by decide +kernel
theorem dX12_may_13 : decode cX12_may 13 = .ok (.putfield 1, 3) := by decide +kernel
theorem dX12_may_27 : decode cX12_may 27 = .ok (.iconst 0, 1) := by decide +kernel
theorem dX12_may_4 : decode cX12_may 4 = .ok (.aload_n 0, 1) := by decide +kernel
theorem dX12_may_5 : decode cX12_may 5 = .ok (.getfield 1, 3) := by decide +kernel
theorem dX12_may_8 : decode cX12_may 8 = .ok (.ifCond .ne 8, 3) := by decide +kernel
set_option maxHeartbeats 4000000 in
set_option maxRecDepth 100000 in
theorem c_X12_may_0_1 (l : Launch) (D : va_G) (cT : Nat → ClassId) (h0 : Nat) (fs : List Value) (sz : Nat) (hfs : fs.length = 109) (hfs_0 : fs[0]? = some (.int 0)) : Met l yX12_may wsX12_may ({ frames := 8, cells := 0, slots := 0, locals := 160 }) (va_Pc [.ref h0, .int 0, .int 1] (PW D cT [(h0, .inr (12, fs))] sz)) (va_Qi (fun (r : Int32) (_ : Unit) => r = 0) (fun (_ : Unit) (t : State) => va_P D vwCl [(h0, .inr (12, (fs.set 0 (.int 1))))] t.heap ∧ va_D (va_A [(h0, .inr (12, fs))] sz) [(h0, .inr (12, (fs.set 0 (.int 1))))]) (va_A [(h0, .inr (12, fs))] sz)) 0 0 (va_A [(h0, .inr (12, fs))] sz) := by
  refine Met.ofW (cc := cX12_may) (maxL := 3) (ret := (some .boolean)) (by decide) rfl ?_
  intro p e s m args below meth c s₁ B hml hv
  obtain ⟨rfl, hsz, hP, hK, hD0, hG⟩ := hv
  have hx := B.exec
  have hb := B.bytes
  have hr := B.returns
  have hts := atoms_spec (ws := wsX12_may) B.pre
  have hown : s.vm.findClass RX12 = some m.cls := findClass_of_methodNamed B.named
  have hlocks := B.notSynchronized
  subst hsz
  have hD := hD0.self (sz := s.heap.size)
  generalize hAe : va_A [(h0, .inr (12, fs))] s.heap.size = A at hD ⊢
  have hA : ∀ q : Nat, s.heap.size ≤ q → A q := fun q h => by rw [← hAe]; exact Or.inr h
  have hS : va_S A s.heap s.heap [] := va_S.rf
  have hP : va_P D vwCl [(h0, .inr (12, fs))] s.heap := hP
  have hl := lv_entry ([.ref h0, .int 0, .int 1]) (n := 3) (Nat.le_of_ble_eq_true rfl)
  rw [lg_entry_eq]
  generalize (lg_sl ([.ref h0, .int 0, .int 1]) ++ List.replicate (3 - (lg_sl ([.ref h0, .int 0, .int 1])).length) Slot.unset).toArray = ls at hl ⊢
  have hl : lv_has ls 3 [(0, .ref h0), (1, .int 0), (2, .int 1)] := hl
  refine lv_iload_n hx hb dX12_may_0 rfl (lv_at hl 1 rfl) ?_
  refine lv_if_ne (tgt := 16) hx hb dX12_may_1 (by decide) (fun c9 => absurd c9 (by decide)) (fun _ => ?_)
  refine lv_aload_n hx hb dX12_may_4 rfl (lv_at hl 0 rfl) ?_
  refine va_get (D := D) (ci := 12) (v := .int 0) (C := RX12) (T := TX12) (N := 109) hx hb hts (fun _ h => List.mem_cons_of_mem _ (List.mem_append_right _ h)) hown hK hP 0 rfl rfl 0 (by decide) (hts (.fieldLink RX12 1 "PuppetFilmModel" "thrown" "I") (List.mem_of_getElem? (i := 1) (by decide +kernel))) (fun _ h9 => h9) (hfs_0) dX12_may_5 ?_
  refine lv_if_ne (tgt := 16) hx hb dX12_may_8 (by decide) (fun c9 => absurd c9 (by decide)) (fun _ => ?_)
  refine lv_aload_n hx hb dX12_may_11 rfl (lv_at hl 0 rfl) ?_
  refine lv_iload_n hx hb dX12_may_12 rfl (lv_at hl 2 rfl) ?_
  refine va_put (D := D) (ci := 12) (v := .int 1) (ty := .int) (C := RX12) (T := TX12) (N := 109) hx hb hts (fun _ h => List.mem_cons_of_mem _ (List.mem_append_right _ h)) tyX12 tyX12_ok nmX12 hown hK hP hD hS 0 rfl rfl 0 (by decide) (hts (.fieldLink RX12 1 "PuppetFilmModel" "thrown" "I") (List.mem_of_getElem? (i := 1) (by decide +kernel))) (fun _ h9 => h9) rfl (by decide +kernel) rfl rfl (by simp only [List.length_set, hfs]; decide) dX12_may_13 (fun H locs hP hD hS => ?_)
  have hP : va_P D vwCl [(h0, .inr (12, (fs.set 0 (.int 1))))] _ := hP
  have hD : va_D A [(h0, .inr (12, (fs.set 0 (.int 1))))] := hD
  refine lv_aload_n hx hb dX12_may_16 rfl (lv_at hl 0 rfl) ?_
  refine va_get (D := D) (ci := 12) (v := .int 1) (C := RX12) (T := TX12) (N := 109) hx hb hts (fun _ h => List.mem_cons_of_mem _ (List.mem_append_right _ h)) hown hK hP 0 rfl rfl 0 (by decide) (hts (.fieldLink RX12 1 "PuppetFilmModel" "thrown" "I") (List.mem_of_getElem? (i := 1) (by decide +kernel))) (fun _ h9 => h9) (List.getElem?_set_self (by simp only [List.length_set, hfs]; decide)) dX12_may_17 ?_
  refine lv_if_ne (tgt := 27) hx hb dX12_may_20 (by decide) (fun _ => ?_) (fun c9 => absurd c9 (by decide))
  refine lv_iconst (v := 0) hx hb dX12_may_27 (by decide) ?_
  have hP9 := hP.sub (ws' := [(h0, .inr (12, (fs.set 0 (.int 1))))]) [0] rfl
  have hD9 := hD.sub (ws' := [(h0, .inr (12, (fs.set 0 (.int 1))))]) [0] (by decide) rfl
  exact W.zret (v := 0) (ty := .boolean) hx hb hr rfl (fun t ht hW => ⟨⟨0, (), rfl, rfl, ⟨by rw [ht]; exact hP9, hD9⟩⟩, hS.F ht⟩) hS.2.2 dX12_may_28
set_option maxHeartbeats 4000000 in
set_option maxRecDepth 100000 in
theorem c_X12_may_0_2 (l : Launch) (D : va_G) (cT : Nat → ClassId) (h0 : Nat) (fs : List Value) (sz : Nat) (hfs : fs.length = 109) (hfs_0 : fs[0]? = some (.int 0)) : Met l yX12_may wsX12_may ({ frames := 8, cells := 0, slots := 0, locals := 160 }) (va_Pc [.ref h0, .int 0, .int 2] (PW D cT [(h0, .inr (12, fs))] sz)) (va_Qi (fun (r : Int32) (_ : Unit) => r = 0) (fun (_ : Unit) (t : State) => va_P D vwCl [(h0, .inr (12, (fs.set 0 (.int 2))))] t.heap ∧ va_D (va_A [(h0, .inr (12, fs))] sz) [(h0, .inr (12, (fs.set 0 (.int 2))))]) (va_A [(h0, .inr (12, fs))] sz)) 0 0 (va_A [(h0, .inr (12, fs))] sz) := by
  refine Met.ofW (cc := cX12_may) (maxL := 3) (ret := (some .boolean)) (by decide) rfl ?_
  intro p e s m args below meth c s₁ B hml hv
  obtain ⟨rfl, hsz, hP, hK, hD0, hG⟩ := hv
  have hx := B.exec
  have hb := B.bytes
  have hr := B.returns
  have hts := atoms_spec (ws := wsX12_may) B.pre
  have hown : s.vm.findClass RX12 = some m.cls := findClass_of_methodNamed B.named
  have hlocks := B.notSynchronized
  subst hsz
  have hD := hD0.self (sz := s.heap.size)
  generalize hAe : va_A [(h0, .inr (12, fs))] s.heap.size = A at hD ⊢
  have hA : ∀ q : Nat, s.heap.size ≤ q → A q := fun q h => by rw [← hAe]; exact Or.inr h
  have hS : va_S A s.heap s.heap [] := va_S.rf
  have hP : va_P D vwCl [(h0, .inr (12, fs))] s.heap := hP
  have hl := lv_entry ([.ref h0, .int 0, .int 2]) (n := 3) (Nat.le_of_ble_eq_true rfl)
  rw [lg_entry_eq]
  generalize (lg_sl ([.ref h0, .int 0, .int 2]) ++ List.replicate (3 - (lg_sl ([.ref h0, .int 0, .int 2])).length) Slot.unset).toArray = ls at hl ⊢
  have hl : lv_has ls 3 [(0, .ref h0), (1, .int 0), (2, .int 2)] := hl
  refine lv_iload_n hx hb dX12_may_0 rfl (lv_at hl 1 rfl) ?_
  refine lv_if_ne (tgt := 16) hx hb dX12_may_1 (by decide) (fun c9 => absurd c9 (by decide)) (fun _ => ?_)
  refine lv_aload_n hx hb dX12_may_4 rfl (lv_at hl 0 rfl) ?_
  refine va_get (D := D) (ci := 12) (v := .int 0) (C := RX12) (T := TX12) (N := 109) hx hb hts (fun _ h => List.mem_cons_of_mem _ (List.mem_append_right _ h)) hown hK hP 0 rfl rfl 0 (by decide) (hts (.fieldLink RX12 1 "PuppetFilmModel" "thrown" "I") (List.mem_of_getElem? (i := 1) (by decide +kernel))) (fun _ h9 => h9) (hfs_0) dX12_may_5 ?_
  refine lv_if_ne (tgt := 16) hx hb dX12_may_8 (by decide) (fun c9 => absurd c9 (by decide)) (fun _ => ?_)
  refine lv_aload_n hx hb dX12_may_11 rfl (lv_at hl 0 rfl) ?_
  refine lv_iload_n hx hb dX12_may_12 rfl (lv_at hl 2 rfl) ?_
  refine va_put (D := D) (ci := 12) (v := .int 2) (ty := .int) (C := RX12) (T := TX12) (N := 109) hx hb hts (fun _ h => List.mem_cons_of_mem _ (List.mem_append_right _ h)) tyX12 tyX12_ok nmX12 hown hK hP hD hS 0 rfl rfl 0 (by decide) (hts (.fieldLink RX12 1 "PuppetFilmModel" "thrown" "I") (List.mem_of_getElem? (i := 1) (by decide +kernel))) (fun _ h9 => h9) rfl (by decide +kernel) rfl rfl (by simp only [List.length_set, hfs]; decide) dX12_may_13 (fun H locs hP hD hS => ?_)
  have hP : va_P D vwCl [(h0, .inr (12, (fs.set 0 (.int 2))))] _ := hP
  have hD : va_D A [(h0, .inr (12, (fs.set 0 (.int 2))))] := hD
  refine lv_aload_n hx hb dX12_may_16 rfl (lv_at hl 0 rfl) ?_
  refine va_get (D := D) (ci := 12) (v := .int 2) (C := RX12) (T := TX12) (N := 109) hx hb hts (fun _ h => List.mem_cons_of_mem _ (List.mem_append_right _ h)) hown hK hP 0 rfl rfl 0 (by decide) (hts (.fieldLink RX12 1 "PuppetFilmModel" "thrown" "I") (List.mem_of_getElem? (i := 1) (by decide +kernel))) (fun _ h9 => h9) (List.getElem?_set_self (by simp only [List.length_set, hfs]; decide)) dX12_may_17 ?_
  refine lv_if_ne (tgt := 27) hx hb dX12_may_20 (by decide) (fun _ => ?_) (fun c9 => absurd c9 (by decide))
  refine lv_iconst (v := 0) hx hb dX12_may_27 (by decide) ?_
  have hP9 := hP.sub (ws' := [(h0, .inr (12, (fs.set 0 (.int 2))))]) [0] rfl
  have hD9 := hD.sub (ws' := [(h0, .inr (12, (fs.set 0 (.int 2))))]) [0] (by decide) rfl
  exact W.zret (v := 0) (ty := .boolean) hx hb hr rfl (fun t ht hW => ⟨⟨0, (), rfl, rfl, ⟨by rw [ht]; exact hP9, hD9⟩⟩, hS.F ht⟩) hS.2.2 dX12_may_28
theorem dX12_isPuppet_0 : decode cX12_isPuppet 0 = .ok (.aload_n 0, 1) := by decide +kernel
theorem dX12_isPuppet_1 : decode cX12_isPuppet 1 = .ok (.iload_n 1, 1) := by decide +kernel
theorem dX12_isPuppet_12 : decode cX12_isPuppet 12 = .ok (.iload_n 2, 1) := by decide +kernel
theorem dX12_isPuppet_13 : decode cX12_isPuppet 13 = .ok (.invokevirtual 271, 3) := by decide +kernel
theorem dX12_isPuppet_16 : decode cX12_isPuppet 16 = .ok (.ireturn, 1) := by decide +kernel
theorem dX12_isPuppet_2 : decode cX12_isPuppet 2 = .ok (.iconst 0, 1) := by decide +kernel
theorem dX12_isPuppet_3 : decode cX12_isPuppet 3 = .ok (.aload_n 0, 1) := by decide +kernel
theorem dX12_isPuppet_4 : decode cX12_isPuppet 4 = .ok (.getfield 264, 3) := by decide +kernel
theorem dX12_isPuppet_7 : decode cX12_isPuppet 7 = .ok (.iconst 1, 1) := by decide +kernel
theorem dX12_isPuppet_8 : decode cX12_isPuppet 8 = .ok (.isub, 1) := by decide +kernel
theorem dX12_isPuppet_9 : decode cX12_isPuppet 9 = .ok (.invokestatic 267, 3) := by decide +kernel
set_option maxRecDepth 20000 in
theorem ggX12_isPuppet_X12_may : GoodIn wsX12_isPuppet wsX12_may := goodIn_r _ [9, 10, 11, 12, 13, 14, 15, 16, 17, 18, 19, 20, 21, 22, 23, 24, 25, 26, 27, 28, 29, 30, 31, 32, 33, 34, 35, 36, 37, 38, 39, 40, 41, 42, 43, 44, 45, 46, 47, 48, 49, 50, 51, 52, 53, 54, 55, 56, 57, 58, 59, 60, 61, 62, 63, 64, 65, 66, 67, 68, 69, 70, 71, 72, 73, 74, 75, 76, 77, 78, 79, 80, 81, 82, 83, 84, 85, 86, 87, 88, 89, 90, 91, 92, 93, 94, 95, 96, 97, 98, 99, 100, 101, 102, 103, 104, 105, 106, 107, 108, 109, 110, 111, 112, 113, 114, 115, 116, 117, 118, 119] (by decide +kernel) (by decide +kernel)
set_option maxRecDepth 20000 in
theorem gX12_isPuppet_X12_may : GoodIn wsX12_isPuppet (wsV RX12 271 RX12 yX12_may wsX12_may) := goodIn_app (goodIn_of _ (by decide +kernel)) ggX12_isPuppet_X12_may
set_option maxRecDepth 20000 in
theorem ggX12_isPuppet_X12_within : GoodIn wsX12_isPuppet wsX12_within := goodIn_r _ [5] (by decide +kernel) (by decide +kernel)
set_option maxRecDepth 20000 in
theorem gX12_isPuppet_X12_within : GoodIn wsX12_isPuppet (va_wsS RX12 267 yX12_within wsX12_within) := goodIn_app (goodIn_of _ (by decide +kernel)) ggX12_isPuppet_X12_within
set_option maxHeartbeats 4000000 in
set_option maxRecDepth 100000 in
theorem c_X12_isPuppet (l : Launch) (D : va_G) (cT : Nat → ClassId) (h0 : Nat) (p0 : Int32) (fs : List Value) (sz : Nat) (hfs : fs.length = 109) (hfs_0 : fs[0]? = some (.int 0)) (hfs_1 : fs[1]? = some (.int 0)) : Met l yX12_isPuppet wsX12_isPuppet ({ frames := 9, cells := 0, slots := 0, locals := 220 }) (va_Pc [.ref h0, .int p0, .int 1] (PW D cT [(h0, .inr (12, fs))] sz)) (va_Qi (fun (r : Int32) (_ : Unit) => r = 0) (fun (_ : Unit) (t : State) => va_P D vwCl [(h0, .inr (12, (fs.set 0 (.int 1))))] t.heap ∧ va_D (va_A [(h0, .inr (12, fs))] sz) [(h0, .inr (12, (fs.set 0 (.int 1))))]) (va_A [(h0, .inr (12, fs))] sz)) 0 0 (va_A [(h0, .inr (12, fs))] sz) := by
  refine Met.ofW (cc := cX12_isPuppet) (maxL := 3) (ret := (some .boolean)) (by decide) rfl ?_
  intro p e s m args below meth c s₁ B hml hv
  obtain ⟨rfl, hsz, hP, hK, hD0, hG⟩ := hv
  have hx := B.exec
  have hb := B.bytes
  have hr := B.returns
  have hts := atoms_spec (ws := wsX12_isPuppet) B.pre
  have hown : s.vm.findClass RX12 = some m.cls := findClass_of_methodNamed B.named
  have hlocks := B.notSynchronized
  subst hsz
  have hD := hD0.self (sz := s.heap.size)
  generalize hAe : va_A [(h0, .inr (12, fs))] s.heap.size = A at hD ⊢
  have hA : ∀ q : Nat, s.heap.size ≤ q → A q := fun q h => by rw [← hAe]; exact Or.inr h
  have hS : va_S A s.heap s.heap [] := va_S.rf
  have hP : va_P D vwCl [(h0, .inr (12, fs))] s.heap := hP
  have hl := lv_entry ([.ref h0, .int p0, .int 1]) (n := 3) (Nat.le_of_ble_eq_true rfl)
  rw [lg_entry_eq]
  generalize (lg_sl ([.ref h0, .int p0, .int 1]) ++ List.replicate (3 - (lg_sl ([.ref h0, .int p0, .int 1])).length) Slot.unset).toArray = ls at hl ⊢
  have hl : lv_has ls 3 [(0, .ref h0), (1, .int p0), (2, .int 1)] := hl
  refine lv_aload_n hx hb dX12_isPuppet_0 rfl (lv_at hl 0 rfl) ?_
  refine lv_iload_n hx hb dX12_isPuppet_1 rfl (lv_at hl 1 rfl) ?_
  refine lv_iconst (v := 0) hx hb dX12_isPuppet_2 (by decide) ?_
  refine lv_aload_n hx hb dX12_isPuppet_3 rfl (lv_at hl 0 rfl) ?_
  refine va_get (D := D) (ci := 12) (v := .int 0) (C := RX12) (T := TX12) (N := 109) hx hb hts (fun _ h => List.mem_cons_of_mem _ (List.mem_append_right _ h)) hown hK hP 0 rfl rfl 1 (by decide) (hts (.fieldLink RX12 264 "PuppetFilmModel" "puppets" "I") (List.mem_of_getElem? (i := 1) (by decide +kernel))) (fun _ h9 => h9) (hfs_1) dX12_isPuppet_4 ?_
  refine lv_iconst (v := 1) hx hb dX12_isPuppet_7 (by decide) ?_
  refine lv_isub hx hb dX12_isPuppet_8 ?_
  refine lv_topi (fun z_1 ez_1 => ?_)
  obtain rfl : z_1 = (-1) := ez_1.trans (by decide)
  have hF := va_free (wc := []) hD hS hA [] rfl
  refine va_calli (va_runS (As := [.int p0, .int 0, .int (-1)]) (rest := [.ref h0]) ⟨hx, hb, hml, hown, hts⟩ (c_X12_within l D cT p0 0 (-1) _ ) (va_cwS 3 hts gX12_isPuppet_X12_within rfl rfl rfl (by decide +kernel) ⟨Nat.le_of_ble_eq_true rfl, Nat.le_of_ble_eq_true rfl⟩) (ps_w hP hD hK hG [] rfl rfl rfl) rfl rfl hl.1 rfl (lv_room (Nat.le_of_ble_eq_true rfl)) dX12_isPuppet_9 ⟨Nat.le_of_ble_eq_true rfl, Nat.le_of_ble_eq_true rfl⟩) hS (fun q _ h => hF q h) hF (fun r_2 uu9 tt9 H locs ht hvm wr_2 hB hz1 hk1 hS => ?_)
  obtain ⟨hP, hD⟩ := va_join (wr := [(h0, .inr (12, fs))]) (w1 := []) hP hD [] [0] rfl rfl (by decide) (by decide) hk1 hF vp_nil vd_nil
  have hP : va_P D vwCl [(h0, .inr (12, fs))] _ := hP
  have hD : va_D A [(h0, .inr (12, fs))] := hD
  obtain rfl : r_2 = 0 := wr_2.trans (wi_no (by decide))
  refine lv_iload_n hx hb dX12_isPuppet_12 rfl (lv_at hl 2 rfl) ?_
  have hF := va_free (wc := [(h0, .inr (12, fs))]) hD hS hA [0] rfl
  refine va_calli (va_runV (As := [.int 0, .int 1]) (rest := []) ⟨hx, hb, hml, hown, hts⟩ (c_X12_may_0_1 l D cT h0 fs _ (hfs) (hfs_0)) (cwV 2 hts gX12_isPuppet_X12_may rfl rfl rfl (by decide +kernel) ⟨Nat.le_of_ble_eq_true rfl, Nat.le_of_ble_eq_true rfl⟩) (pv_w hP hD hK hG [0] rfl rfl rfl 0 rfl rfl) rfl rfl hl.1 rfl (lv_room (Nat.le_of_ble_eq_true rfl)) dX12_isPuppet_13 ⟨Nat.le_of_ble_eq_true rfl, Nat.le_of_ble_eq_true rfl⟩) hS (fun q _ h => hF q h) hF (fun r_3 uu9 tt9 H locs ht hvm wr_3 hB hz1 hk1 hS => ?_)
  obtain ⟨hP1, hD1⟩ := hB
  rw [ht] at hP1
  obtain ⟨hP, hD⟩ := va_join (wr := []) (w1 := [(h0, .inr (12, (fs.set 0 (.int 1))))]) hP hD [0] [] rfl rfl (by decide) (by decide) hk1 hF hP1 hD1
  have hP : va_P D vwCl [(h0, .inr (12, (fs.set 0 (.int 1))))] _ := hP
  have hD : va_D A [(h0, .inr (12, (fs.set 0 (.int 1))))] := hD
  obtain rfl : r_3 = 0 := wr_3.trans (rfl)
  have hP9 := hP.sub (ws' := [(h0, .inr (12, (fs.set 0 (.int 1))))]) [0] rfl
  have hD9 := hD.sub (ws' := [(h0, .inr (12, (fs.set 0 (.int 1))))]) [0] (by decide) rfl
  exact W.zret (v := 0) (ty := .boolean) hx hb hr rfl (fun t ht hW => ⟨⟨0, (), rfl, rfl, ⟨by rw [ht]; exact hP9, hD9⟩⟩, hS.F ht⟩) hS.2.2 dX12_isPuppet_16
theorem dX12_isShot_0 : decode cX12_isShot 0 = .ok (.aload_n 0, 1) := by decide +kernel
theorem dX12_isShot_1 : decode cX12_isShot 1 = .ok (.iload_n 1, 1) := by decide +kernel
theorem dX12_isShot_12 : decode cX12_isShot 12 = .ok (.iconst 1, 1) := by decide +kernel
theorem dX12_isShot_13 : decode cX12_isShot 13 = .ok (.invokevirtual 271, 3) := by decide +kernel
theorem dX12_isShot_16 : decode cX12_isShot 16 = .ok (.ireturn, 1) := by decide +kernel
theorem dX12_isShot_2 : decode cX12_isShot 2 = .ok (.iconst 0, 1) := by decide +kernel
theorem dX12_isShot_3 : decode cX12_isShot 3 = .ok (.aload_n 0, 1) := by decide +kernel
theorem dX12_isShot_4 : decode cX12_isShot 4 = .ok (.getfield 398, 3) := by decide +kernel
theorem dX12_isShot_7 : decode cX12_isShot 7 = .ok (.iconst 1, 1) := by decide +kernel
theorem dX12_isShot_8 : decode cX12_isShot 8 = .ok (.isub, 1) := by decide +kernel
theorem dX12_isShot_9 : decode cX12_isShot 9 = .ok (.invokestatic 267, 3) := by decide +kernel
set_option maxRecDepth 20000 in
theorem ggX12_isShot_X12_may : GoodIn wsX12_isShot wsX12_may := goodIn_r _ [9, 10, 11, 12, 13, 14, 15, 16, 17, 18, 19, 20, 21, 22, 23, 24, 25, 26, 27, 28, 29, 30, 31, 32, 33, 34, 35, 36, 37, 38, 39, 40, 41, 42, 43, 44, 45, 46, 47, 48, 49, 50, 51, 52, 53, 54, 55, 56, 57, 58, 59, 60, 61, 62, 63, 64, 65, 66, 67, 68, 69, 70, 71, 72, 73, 74, 75, 76, 77, 78, 79, 80, 81, 82, 83, 84, 85, 86, 87, 88, 89, 90, 91, 92, 93, 94, 95, 96, 97, 98, 99, 100, 101, 102, 103, 104, 105, 106, 107, 108, 109, 110, 111, 112, 113, 114, 115, 116, 117, 118, 119] (by decide +kernel) (by decide +kernel)
set_option maxRecDepth 20000 in
theorem gX12_isShot_X12_may : GoodIn wsX12_isShot (wsV RX12 271 RX12 yX12_may wsX12_may) := goodIn_app (goodIn_of _ (by decide +kernel)) ggX12_isShot_X12_may
set_option maxRecDepth 20000 in
theorem ggX12_isShot_X12_within : GoodIn wsX12_isShot wsX12_within := goodIn_r _ [5] (by decide +kernel) (by decide +kernel)
set_option maxRecDepth 20000 in
theorem gX12_isShot_X12_within : GoodIn wsX12_isShot (va_wsS RX12 267 yX12_within wsX12_within) := goodIn_app (goodIn_of _ (by decide +kernel)) ggX12_isShot_X12_within
set_option maxHeartbeats 4000000 in
set_option maxRecDepth 100000 in
theorem c_X12_isShot (l : Launch) (D : va_G) (cT : Nat → ClassId) (h0 : Nat) (p0 : Int32) (fs : List Value) (sz : Nat) (hfs : fs.length = 109) (hfs_0 : fs[0]? = some (.int 0)) (hfs_38 : fs[38]? = some (.int 0)) : Met l yX12_isShot wsX12_isShot ({ frames := 9, cells := 0, slots := 0, locals := 220 }) (va_Pc [.ref h0, .int p0] (PW D cT [(h0, .inr (12, fs))] sz)) (va_Qi (fun (r : Int32) (_ : Unit) => r = 0) (fun (_ : Unit) (t : State) => va_P D vwCl [(h0, .inr (12, (fs.set 0 (.int 1))))] t.heap ∧ va_D (va_A [(h0, .inr (12, fs))] sz) [(h0, .inr (12, (fs.set 0 (.int 1))))]) (va_A [(h0, .inr (12, fs))] sz)) 0 0 (va_A [(h0, .inr (12, fs))] sz) := by
  refine Met.ofW (cc := cX12_isShot) (maxL := 2) (ret := (some .boolean)) (by decide) rfl ?_
  intro p e s m args below meth c s₁ B hml hv
  obtain ⟨rfl, hsz, hP, hK, hD0, hG⟩ := hv
  have hx := B.exec
  have hb := B.bytes
  have hr := B.returns
  have hts := atoms_spec (ws := wsX12_isShot) B.pre
  have hown : s.vm.findClass RX12 = some m.cls := findClass_of_methodNamed B.named
  have hlocks := B.notSynchronized
  subst hsz
  have hD := hD0.self (sz := s.heap.size)
  generalize hAe : va_A [(h0, .inr (12, fs))] s.heap.size = A at hD ⊢
  have hA : ∀ q : Nat, s.heap.size ≤ q → A q := fun q h => by rw [← hAe]; exact Or.inr h
  have hS : va_S A s.heap s.heap [] := va_S.rf
  have hP : va_P D vwCl [(h0, .inr (12, fs))] s.heap := hP
  have hl := lv_entry ([.ref h0, .int p0]) (n := 2) (Nat.le_of_ble_eq_true rfl)
  rw [lg_entry_eq]
  generalize (lg_sl ([.ref h0, .int p0]) ++ List.replicate (2 - (lg_sl ([.ref h0, .int p0])).length) Slot.unset).toArray = ls at hl ⊢
  have hl : lv_has ls 2 [(0, .ref h0), (1, .int p0)] := hl
  refine lv_aload_n hx hb dX12_isShot_0 rfl (lv_at hl 0 rfl) ?_
  refine lv_iload_n hx hb dX12_isShot_1 rfl (lv_at hl 1 rfl) ?_
  refine lv_iconst (v := 0) hx hb dX12_isShot_2 (by decide) ?_
  refine lv_aload_n hx hb dX12_isShot_3 rfl (lv_at hl 0 rfl) ?_
  refine va_get (D := D) (ci := 12) (v := .int 0) (C := RX12) (T := TX12) (N := 109) hx hb hts (fun _ h => List.mem_cons_of_mem _ (List.mem_append_right _ h)) hown hK hP 0 rfl rfl 38 (by decide) (hts (.fieldLink RX12 398 "PuppetFilmModel" "shots" "I") (List.mem_of_getElem? (i := 1) (by decide +kernel))) (fun _ h9 => h9) (hfs_38) dX12_isShot_4 ?_
  refine lv_iconst (v := 1) hx hb dX12_isShot_7 (by decide) ?_
  refine lv_isub hx hb dX12_isShot_8 ?_
  refine lv_topi (fun z_1 ez_1 => ?_)
  obtain rfl : z_1 = (-1) := ez_1.trans (by decide)
  have hF := va_free (wc := []) hD hS hA [] rfl
  refine va_calli (va_runS (As := [.int p0, .int 0, .int (-1)]) (rest := [.ref h0]) ⟨hx, hb, hml, hown, hts⟩ (c_X12_within l D cT p0 0 (-1) _ ) (va_cwS 3 hts gX12_isShot_X12_within rfl rfl rfl (by decide +kernel) ⟨Nat.le_of_ble_eq_true rfl, Nat.le_of_ble_eq_true rfl⟩) (ps_w hP hD hK hG [] rfl rfl rfl) rfl rfl hl.1 rfl (lv_room (Nat.le_of_ble_eq_true rfl)) dX12_isShot_9 ⟨Nat.le_of_ble_eq_true rfl, Nat.le_of_ble_eq_true rfl⟩) hS (fun q _ h => hF q h) hF (fun r_2 uu9 tt9 H locs ht hvm wr_2 hB hz1 hk1 hS => ?_)
  obtain ⟨hP, hD⟩ := va_join (wr := [(h0, .inr (12, fs))]) (w1 := []) hP hD [] [0] rfl rfl (by decide) (by decide) hk1 hF vp_nil vd_nil
  have hP : va_P D vwCl [(h0, .inr (12, fs))] _ := hP
  have hD : va_D A [(h0, .inr (12, fs))] := hD
  obtain rfl : r_2 = 0 := wr_2.trans (wi_no (by decide))
  refine lv_iconst (v := 1) hx hb dX12_isShot_12 (by decide) ?_
  have hF := va_free (wc := [(h0, .inr (12, fs))]) hD hS hA [0] rfl
  refine va_calli (va_runV (As := [.int 0, .int 1]) (rest := []) ⟨hx, hb, hml, hown, hts⟩ (c_X12_may_0_1 l D cT h0 fs _ (hfs) (hfs_0)) (cwV 2 hts gX12_isShot_X12_may rfl rfl rfl (by decide +kernel) ⟨Nat.le_of_ble_eq_true rfl, Nat.le_of_ble_eq_true rfl⟩) (pv_w hP hD hK hG [0] rfl rfl rfl 0 rfl rfl) rfl rfl hl.1 rfl (lv_room (Nat.le_of_ble_eq_true rfl)) dX12_isShot_13 ⟨Nat.le_of_ble_eq_true rfl, Nat.le_of_ble_eq_true rfl⟩) hS (fun q _ h => hF q h) hF (fun r_3 uu9 tt9 H locs ht hvm wr_3 hB hz1 hk1 hS => ?_)
  obtain ⟨hP1, hD1⟩ := hB
  rw [ht] at hP1
  obtain ⟨hP, hD⟩ := va_join (wr := []) (w1 := [(h0, .inr (12, (fs.set 0 (.int 1))))]) hP hD [0] [] rfl rfl (by decide) (by decide) hk1 hF hP1 hD1
  have hP : va_P D vwCl [(h0, .inr (12, (fs.set 0 (.int 1))))] _ := hP
  have hD : va_D A [(h0, .inr (12, (fs.set 0 (.int 1))))] := hD
  obtain rfl : r_3 = 0 := wr_3.trans (rfl)
  have hP9 := hP.sub (ws' := [(h0, .inr (12, (fs.set 0 (.int 1))))]) [0] rfl
  have hD9 := hD.sub (ws' := [(h0, .inr (12, (fs.set 0 (.int 1))))]) [0] (by decide) rfl
  exact W.zret (v := 0) (ty := .boolean) hx hb hr rfl (fun t ht hW => ⟨⟨0, (), rfl, rfl, ⟨by rw [ht]; exact hP9, hD9⟩⟩, hS.F ht⟩) hS.2.2 dX12_isShot_16
theorem dX12_told_0 : decode cX12_told 0 = .ok (.aload_n 0, 1) := by decide +kernel
theorem dX12_told_1 : decode cX12_told 1 = .ok (.iconst 0, 1) := by decide +kernel
theorem dX12_told_10 : decode cX12_told 10 = .ok (.ifCond .eq 17, 3) := by decide +kernel
theorem dX12_told_2 : decode cX12_told 2 = .ok (.putfield 1, 3) := by decide +kernel
theorem dX12_told_27 : decode cX12_told 27 = .ok (.iconst 0, 1) := by decide +kernel
theorem dX12_told_28 : decode cX12_told 28 = .ok (.ireturn, 1) := by decide +kernel
theorem dX12_told_5 : decode cX12_told 5 = .ok (.aload_n 0, 1) := by decide +kernel
theorem dX12_told_6 : decode cX12_told 6 = .ok (.iload_n 1, 1) := by decide +kernel
theorem dX12_told_7 : decode cX12_told 7 = .ok (.invokevirtual 436, 3) := by decide +kernel
set_option maxRecDepth 20000 in
theorem ggX12_told_X12_isShot : GoodIn wsX12_told wsX12_isShot := goodIn_r _ [11, 12, 13, 14, 10, 15, 16, 17, 18, 19, 1, 29, 30, 31, 32, 33, 34, 35, 36, 37, 38, 39, 40, 41, 42, 43, 44, 45, 46, 47, 48, 49, 50, 51, 52, 53, 54, 55, 56, 57, 58, 59, 60, 61, 62, 63, 64, 65, 66, 67, 68, 69, 70, 71, 72, 73, 74, 75, 76, 77, 78, 79, 80, 81, 82, 83, 84, 85, 86, 87, 88, 89, 90, 91, 92, 93, 94, 95, 96, 97, 98, 99, 100, 101, 102, 103, 104, 105, 106, 107, 108, 109, 110, 111, 112, 113, 114, 115, 116, 117, 118, 119, 120, 121, 122, 123, 124, 125, 126, 127, 128, 129, 130, 131, 132, 133, 134, 135, 136, 137] (by decide +kernel) (by decide +kernel)
set_option maxRecDepth 20000 in
theorem gX12_told_X12_isShot : GoodIn wsX12_told (wsV RX12 436 RX12 yX12_isShot wsX12_isShot) := goodIn_app (goodIn_of _ (by decide +kernel)) ggX12_told_X12_isShot
set_option maxHeartbeats 4000000 in
set_option maxRecDepth 100000 in
theorem c_X12_told (l : Launch) (D : va_G) (cT : Nat → ClassId) (h0 : Nat) (p0 : Int32) (p1 : Int32) (fs : List Value) (m_th : Int32) (sz : Nat) (hfs : fs.length = 109) (hfs_0 : fs[0]? = some (.int m_th)) (hfs_1 : fs[1]? = some (.int 0)) (hfs_38 : fs[38]? = some (.int 0)) : Met l yX12_told wsX12_told ({ frames := 10, cells := 0, slots := 0, locals := 280 }) (va_Pc [.ref h0, .int p0, .int p1] (PW D cT [(h0, .inr (12, fs))] sz)) (va_Qi (fun (r : Int32) (_ : Unit) => True) (fun (_ : Unit) (t : State) => ∃ (gs : List Value), (gs.length = 109) ∧ (gs[0]? = some (.int 1)) ∧ va_P D vwCl [(h0, .inr (12, gs))] t.heap ∧ va_D (va_A [(h0, .inr (12, fs))] sz) [(h0, .inr (12, gs))]) (va_A [(h0, .inr (12, fs))] sz)) 0 0 (va_A [(h0, .inr (12, fs))] sz) := by
  refine Met.ofW (cc := cX12_told) (maxL := 5) (ret := (some .int)) (by decide) rfl ?_
  intro p e s m args below meth c s₁ B hml hv
  obtain ⟨rfl, hsz, hP, hK, hD0, hG⟩ := hv
  have hx := B.exec
  have hb := B.bytes
  have hr := B.returns
  have hts := atoms_spec (ws := wsX12_told) B.pre
  have hown : s.vm.findClass RX12 = some m.cls := findClass_of_methodNamed B.named
  have hlocks := B.notSynchronized
  subst hsz
  have hD := hD0.self (sz := s.heap.size)
  generalize hAe : va_A [(h0, .inr (12, fs))] s.heap.size = A at hD ⊢
  have hA : ∀ q : Nat, s.heap.size ≤ q → A q := fun q h => by rw [← hAe]; exact Or.inr h
  have hS : va_S A s.heap s.heap [] := va_S.rf
  have hP : va_P D vwCl [(h0, .inr (12, fs))] s.heap := hP
  have hl := lv_entry ([.ref h0, .int p0, .int p1]) (n := 5) (Nat.le_of_ble_eq_true rfl)
  rw [lg_entry_eq]
  generalize (lg_sl ([.ref h0, .int p0, .int p1]) ++ List.replicate (5 - (lg_sl ([.ref h0, .int p0, .int p1])).length) Slot.unset).toArray = ls at hl ⊢
  have hl : lv_has ls 5 [(0, .ref h0), (1, .int p0), (2, .int p1)] := hl
  refine lv_aload_n hx hb dX12_told_0 rfl (lv_at hl 0 rfl) ?_
  refine lv_iconst (v := 0) hx hb dX12_told_1 (by decide) ?_
  refine va_put (D := D) (ci := 12) (v := .int 0) (ty := .int) (C := RX12) (T := TX12) (N := 109) hx hb hts (fun _ h => List.mem_cons_of_mem _ (List.mem_append_right _ h)) tyX12 tyX12_ok nmX12 hown hK hP hD hS 0 rfl rfl 0 (by decide) (hts (.fieldLink RX12 1 "PuppetFilmModel" "thrown" "I") (List.mem_of_getElem? (i := 1) (by decide +kernel))) (fun _ h9 => h9) rfl (by decide +kernel) rfl rfl (by simp only [List.length_set, hfs]; decide) dX12_told_2 (fun H locs hP hD hS => ?_)
  have hP : va_P D vwCl [(h0, .inr (12, (fs.set 0 (.int 0))))] _ := hP
  have hD : va_D A [(h0, .inr (12, (fs.set 0 (.int 0))))] := hD
  refine lv_aload_n hx hb dX12_told_5 rfl (lv_at hl 0 rfl) ?_
  refine lv_iload_n hx hb dX12_told_6 rfl (lv_at hl 1 rfl) ?_
  have hF := va_free (wc := [(h0, .inr (12, (fs.set 0 (.int 0))))]) hD hS hA [0] rfl
  refine va_calli (va_runV (As := [.int p0]) (rest := []) ⟨hx, hb, hml, hown, hts⟩ (c_X12_isShot l D cT h0 p0 (fs.set 0 (.int 0)) _ (by simp only [List.length_set]; exact hfs) (List.getElem?_set_self (by simp only [List.length_set, hfs]; decide)) ((List.getElem?_set_ne (by decide)).trans (hfs_38))) (cwV 1 hts gX12_told_X12_isShot rfl rfl rfl (by decide +kernel) ⟨Nat.le_of_ble_eq_true rfl, Nat.le_of_ble_eq_true rfl⟩) (pv_w hP hD hK hG [0] rfl rfl rfl 0 rfl rfl) rfl rfl hl.1 rfl (lv_room (Nat.le_of_ble_eq_true rfl)) dX12_told_7 ⟨Nat.le_of_ble_eq_true rfl, Nat.le_of_ble_eq_true rfl⟩) hS (fun q _ h => hF q h) hF (fun r_1 uu9 tt9 H locs ht hvm wr_1 hB hz1 hk1 hS => ?_)
  obtain ⟨hP1, hD1⟩ := hB
  rw [ht] at hP1
  obtain ⟨hP, hD⟩ := va_join (wr := []) (w1 := [(h0, .inr (12, ((fs.set 0 (.int 0)).set 0 (.int 1))))]) hP hD [0] [] rfl rfl (by decide) (by decide) hk1 hF hP1 hD1
  have hP : va_P D vwCl [(h0, .inr (12, ((fs.set 0 (.int 0)).set 0 (.int 1))))] _ := hP
  have hD : va_D A [(h0, .inr (12, ((fs.set 0 (.int 0)).set 0 (.int 1))))] := hD
  obtain rfl : r_1 = 0 := wr_1.trans (rfl)
  refine lv_if_eq (tgt := 27) hx hb dX12_told_10 (by decide) (fun _ => ?_) (fun c9 => absurd c9 (by decide))
  refine lv_iconst (v := 0) hx hb dX12_told_27 (by decide) ?_
  have hP9 := hP.sub (ws' := [(h0, .inr (12, ((fs.set 0 (.int 0)).set 0 (.int 1))))]) [0] rfl
  have hD9 := hD.sub (ws' := [(h0, .inr (12, ((fs.set 0 (.int 0)).set 0 (.int 1))))]) [0] (by decide) rfl
  exact W.iret (v := 0) hx hb hr (fun t ht hW => ⟨⟨0, (), rfl, trivial, ⟨((fs.set 0 (.int 0)).set 0 (.int 1)), by simp only [List.length_set]; exact hfs, List.getElem?_set_self (by simp only [List.length_set, hfs]; decide), by rw [ht]; exact hP9, hD9⟩⟩, hS.F ht⟩) hS.2.2 dX12_told_28
theorem dX12_step_0 : decode cX12_step 0 = .ok (.aload_n 0, 1) := by decide +kernel
theorem dX12_step_1 : decode cX12_step 1 = .ok (.iconst 0, 1) := by decide +kernel
theorem dX12_step_10 : decode cX12_step 10 = .ok (.ifCond .ne 5, 3) := by decide +kernel
theorem dX12_step_13 : decode cX12_step 13 = .ok (.iconst 0, 1) := by decide +kernel
theorem dX12_step_14 : decode cX12_step 14 = .ok (.ireturn, 1) := by decide +kernel
theorem dX12_step_2 : decode cX12_step 2 = .ok (.putfield 1, 3) := by decide +kernel
theorem dX12_step_5 : decode cX12_step 5 = .ok (.aload_n 0, 1) := by decide +kernel
theorem dX12_step_6 : decode cX12_step 6 = .ok (.iload_n 1, 1) := by decide +kernel
theorem dX12_step_7 : decode cX12_step 7 = .ok (.invokevirtual 436, 3) := by decide +kernel
set_option maxRecDepth 20000 in
theorem ggX12_step_X12_isShot : GoodIn wsX12_step wsX12_isShot := goodIn_r _ [9, 10, 11, 12, 8, 13, 14, 15, 16, 17, 1, 31, 32, 33, 34, 35, 36, 37, 38, 39, 40, 41, 42, 43, 44, 45, 46, 47, 48, 49, 50, 51, 52, 53, 54, 55, 56, 57, 58, 59, 60, 61, 62, 63, 64, 65, 66, 67, 68, 69, 70, 71, 72, 73, 74, 75, 76, 77, 78, 79, 80, 81, 82, 83, 84, 85, 86, 87, 88, 89, 90, 91, 92, 93, 94, 95, 96, 97, 98, 99, 100, 101, 102, 103, 104, 105, 106, 107, 108, 109, 110, 111, 112, 113, 114, 115, 116, 117, 118, 119, 120, 121, 122, 123, 124, 125, 126, 127, 128, 129, 130, 131, 132, 133, 134, 135, 136, 137, 138, 139] (by decide +kernel) (by decide +kernel)
set_option maxRecDepth 20000 in
theorem gX12_step_X12_isShot : GoodIn wsX12_step (wsV RX12 436 RX12 yX12_isShot wsX12_isShot) := goodIn_app (goodIn_of _ (by decide +kernel)) ggX12_step_X12_isShot
set_option maxHeartbeats 4000000 in
set_option maxRecDepth 100000 in
theorem c_X12_step (l : Launch) (D : va_G) (cT : Nat → ClassId) (h0 : Nat) (p0 : Int32) (p1 : Int32) (p2 : Int32) (p3 : Int32) (fs : List Value) (m_th : Int32) (sz : Nat) (hfs : fs.length = 109) (hfs_0 : fs[0]? = some (.int m_th)) (hfs_1 : fs[1]? = some (.int 0)) (hfs_38 : fs[38]? = some (.int 0)) : Met l yX12_step wsX12_step ({ frames := 10, cells := 0, slots := 0, locals := 280 }) (va_Pc [.ref h0, .int p0, .int p1, .int p2, .int p3] (PW D cT [(h0, .inr (12, fs))] sz)) (va_Qi (fun (r : Int32) (_ : Unit) => True) (fun (_ : Unit) (t : State) => ∃ (gs : List Value), (gs.length = 109) ∧ (gs[0]? = some (.int 1)) ∧ va_P D vwCl [(h0, .inr (12, gs))] t.heap ∧ va_D (va_A [(h0, .inr (12, fs))] sz) [(h0, .inr (12, gs))]) (va_A [(h0, .inr (12, fs))] sz)) 0 0 (va_A [(h0, .inr (12, fs))] sz) := by
  refine Met.ofW (cc := cX12_step) (maxL := 5) (ret := (some .int)) (by decide) rfl ?_
  intro p e s m args below meth c s₁ B hml hv
  obtain ⟨rfl, hsz, hP, hK, hD0, hG⟩ := hv
  have hx := B.exec
  have hb := B.bytes
  have hr := B.returns
  have hts := atoms_spec (ws := wsX12_step) B.pre
  have hown : s.vm.findClass RX12 = some m.cls := findClass_of_methodNamed B.named
  have hlocks := B.notSynchronized
  subst hsz
  have hD := hD0.self (sz := s.heap.size)
  generalize hAe : va_A [(h0, .inr (12, fs))] s.heap.size = A at hD ⊢
  have hA : ∀ q : Nat, s.heap.size ≤ q → A q := fun q h => by rw [← hAe]; exact Or.inr h
  have hS : va_S A s.heap s.heap [] := va_S.rf
  have hP : va_P D vwCl [(h0, .inr (12, fs))] s.heap := hP
  have hl := lv_entry ([.ref h0, .int p0, .int p1, .int p2, .int p3]) (n := 5) (Nat.le_of_ble_eq_true rfl)
  rw [lg_entry_eq]
  generalize (lg_sl ([.ref h0, .int p0, .int p1, .int p2, .int p3]) ++ List.replicate (5 - (lg_sl ([.ref h0, .int p0, .int p1, .int p2, .int p3])).length) Slot.unset).toArray = ls at hl ⊢
  have hl : lv_has ls 5 [(0, .ref h0), (1, .int p0), (2, .int p1), (3, .int p2), (4, .int p3)] := hl
  refine lv_aload_n hx hb dX12_step_0 rfl (lv_at hl 0 rfl) ?_
  refine lv_iconst (v := 0) hx hb dX12_step_1 (by decide) ?_
  refine va_put (D := D) (ci := 12) (v := .int 0) (ty := .int) (C := RX12) (T := TX12) (N := 109) hx hb hts (fun _ h => List.mem_cons_of_mem _ (List.mem_append_right _ h)) tyX12 tyX12_ok nmX12 hown hK hP hD hS 0 rfl rfl 0 (by decide) (hts (.fieldLink RX12 1 "PuppetFilmModel" "thrown" "I") (List.mem_of_getElem? (i := 1) (by decide +kernel))) (fun _ h9 => h9) rfl (by decide +kernel) rfl rfl (by simp only [List.length_set, hfs]; decide) dX12_step_2 (fun H locs hP hD hS => ?_)
  have hP : va_P D vwCl [(h0, .inr (12, (fs.set 0 (.int 0))))] _ := hP
  have hD : va_D A [(h0, .inr (12, (fs.set 0 (.int 0))))] := hD
  refine lv_aload_n hx hb dX12_step_5 rfl (lv_at hl 0 rfl) ?_
  refine lv_iload_n hx hb dX12_step_6 rfl (lv_at hl 1 rfl) ?_
  have hF := va_free (wc := [(h0, .inr (12, (fs.set 0 (.int 0))))]) hD hS hA [0] rfl
  refine va_calli (va_runV (As := [.int p0]) (rest := []) ⟨hx, hb, hml, hown, hts⟩ (c_X12_isShot l D cT h0 p0 (fs.set 0 (.int 0)) _ (by simp only [List.length_set]; exact hfs) (List.getElem?_set_self (by simp only [List.length_set, hfs]; decide)) ((List.getElem?_set_ne (by decide)).trans (hfs_38))) (cwV 1 hts gX12_step_X12_isShot rfl rfl rfl (by decide +kernel) ⟨Nat.le_of_ble_eq_true rfl, Nat.le_of_ble_eq_true rfl⟩) (pv_w hP hD hK hG [0] rfl rfl rfl 0 rfl rfl) rfl rfl hl.1 rfl (lv_room (Nat.le_of_ble_eq_true rfl)) dX12_step_7 ⟨Nat.le_of_ble_eq_true rfl, Nat.le_of_ble_eq_true rfl⟩) hS (fun q _ h => hF q h) hF (fun r_1 uu9 tt9 H locs ht hvm wr_1 hB hz1 hk1 hS => ?_)
  obtain ⟨hP1, hD1⟩ := hB
  rw [ht] at hP1
  obtain ⟨hP, hD⟩ := va_join (wr := []) (w1 := [(h0, .inr (12, ((fs.set 0 (.int 0)).set 0 (.int 1))))]) hP hD [0] [] rfl rfl (by decide) (by decide) hk1 hF hP1 hD1
  have hP : va_P D vwCl [(h0, .inr (12, ((fs.set 0 (.int 0)).set 0 (.int 1))))] _ := hP
  have hD : va_D A [(h0, .inr (12, ((fs.set 0 (.int 0)).set 0 (.int 1))))] := hD
  obtain rfl : r_1 = 0 := wr_1.trans (rfl)
  refine lv_if_ne (tgt := 15) hx hb dX12_step_10 (by decide) (fun c9 => absurd c9 (by decide)) (fun _ => ?_)
  refine lv_iconst (v := 0) hx hb dX12_step_13 (by decide) ?_
  have hP9 := hP.sub (ws' := [(h0, .inr (12, ((fs.set 0 (.int 0)).set 0 (.int 1))))]) [0] rfl
  have hD9 := hD.sub (ws' := [(h0, .inr (12, ((fs.set 0 (.int 0)).set 0 (.int 1))))]) [0] (by decide) rfl
  exact W.iret (v := 0) hx hb hr (fun t ht hW => ⟨⟨0, (), rfl, trivial, ⟨((fs.set 0 (.int 0)).set 0 (.int 1)), by simp only [List.length_set]; exact hfs, List.getElem?_set_self (by simp only [List.length_set, hfs]; decide), by rw [ht]; exact hP9, hD9⟩⟩, hS.F ht⟩) hS.2.2 dX12_step_14
theorem dX12_mouth_0 : decode cX12_mouth 0 = .ok (.aload_n 0, 1) := by decide +kernel
theorem dX12_mouth_1 : decode cX12_mouth 1 = .ok (.iconst 0, 1) := by decide +kernel
theorem dX12_mouth_10 : decode cX12_mouth 10 = .ok (.ifCond .ne 5, 3) := by decide +kernel
theorem dX12_mouth_13 : decode cX12_mouth 13 = .ok (.iconst 0, 1) := by decide +kernel
theorem dX12_mouth_14 : decode cX12_mouth 14 = .ok (.ireturn, 1) := by decide +kernel
theorem dX12_mouth_2 : decode cX12_mouth 2 = .ok (.putfield 1, 3) := by decide +kernel
theorem dX12_mouth_5 : decode cX12_mouth 5 = .ok (.aload_n 0, 1) := by decide +kernel
theorem dX12_mouth_6 : decode cX12_mouth 6 = .ok (.iload_n 1, 1) := by decide +kernel
theorem dX12_mouth_7 : decode cX12_mouth 7 = .ok (.invokevirtual 436, 3) := by decide +kernel
set_option maxRecDepth 20000 in
theorem ggX12_mouth_X12_isShot : GoodIn wsX12_mouth wsX12_isShot := goodIn_r _ [7, 8, 9, 10, 6, 11, 12, 13, 14, 15, 1, 30, 31, 32, 33, 34, 35, 36, 37, 38, 39, 40, 41, 42, 43, 44, 45, 46, 47, 48, 49, 50, 51, 52, 53, 54, 55, 56, 57, 58, 59, 60, 61, 62, 63, 64, 65, 66, 67, 68, 69, 70, 71, 72, 73, 74, 75, 76, 77, 78, 79, 80, 81, 82, 83, 84, 85, 86, 87, 88, 89, 90, 91, 92, 93, 94, 95, 96, 97, 98, 99, 100, 101, 102, 103, 104, 105, 106, 107, 108, 109, 110, 111, 112, 113, 114, 115, 116, 117, 118, 119, 120, 121, 122, 123, 124, 125, 126, 127, 128, 129, 130, 131, 132, 133, 134, 135, 136, 137, 138] (by decide +kernel) (by decide +kernel)
set_option maxRecDepth 20000 in
theorem gX12_mouth_X12_isShot : GoodIn wsX12_mouth (wsV RX12 436 RX12 yX12_isShot wsX12_isShot) := goodIn_app (goodIn_of _ (by decide +kernel)) ggX12_mouth_X12_isShot
set_option maxHeartbeats 4000000 in
set_option maxRecDepth 100000 in
theorem c_X12_mouth (l : Launch) (D : va_G) (cT : Nat → ClassId) (h0 : Nat) (p0 : Int32) (p1 : Int32) (p2 : Int32) (fs : List Value) (m_th : Int32) (sz : Nat) (hfs : fs.length = 109) (hfs_0 : fs[0]? = some (.int m_th)) (hfs_1 : fs[1]? = some (.int 0)) (hfs_38 : fs[38]? = some (.int 0)) : Met l yX12_mouth wsX12_mouth ({ frames := 10, cells := 0, slots := 0, locals := 280 }) (va_Pc [.ref h0, .int p0, .int p1, .int p2] (PW D cT [(h0, .inr (12, fs))] sz)) (va_Qi (fun (r : Int32) (_ : Unit) => True) (fun (_ : Unit) (t : State) => ∃ (gs : List Value), (gs.length = 109) ∧ (gs[0]? = some (.int 1)) ∧ va_P D vwCl [(h0, .inr (12, gs))] t.heap ∧ va_D (va_A [(h0, .inr (12, fs))] sz) [(h0, .inr (12, gs))]) (va_A [(h0, .inr (12, fs))] sz)) 0 0 (va_A [(h0, .inr (12, fs))] sz) := by
  refine Met.ofW (cc := cX12_mouth) (maxL := 4) (ret := (some .int)) (by decide) rfl ?_
  intro p e s m args below meth c s₁ B hml hv
  obtain ⟨rfl, hsz, hP, hK, hD0, hG⟩ := hv
  have hx := B.exec
  have hb := B.bytes
  have hr := B.returns
  have hts := atoms_spec (ws := wsX12_mouth) B.pre
  have hown : s.vm.findClass RX12 = some m.cls := findClass_of_methodNamed B.named
  have hlocks := B.notSynchronized
  subst hsz
  have hD := hD0.self (sz := s.heap.size)
  generalize hAe : va_A [(h0, .inr (12, fs))] s.heap.size = A at hD ⊢
  have hA : ∀ q : Nat, s.heap.size ≤ q → A q := fun q h => by rw [← hAe]; exact Or.inr h
  have hS : va_S A s.heap s.heap [] := va_S.rf
  have hP : va_P D vwCl [(h0, .inr (12, fs))] s.heap := hP
  have hl := lv_entry ([.ref h0, .int p0, .int p1, .int p2]) (n := 4) (Nat.le_of_ble_eq_true rfl)
  rw [lg_entry_eq]
  generalize (lg_sl ([.ref h0, .int p0, .int p1, .int p2]) ++ List.replicate (4 - (lg_sl ([.ref h0, .int p0, .int p1, .int p2])).length) Slot.unset).toArray = ls at hl ⊢
  have hl : lv_has ls 4 [(0, .ref h0), (1, .int p0), (2, .int p1), (3, .int p2)] := hl
  refine lv_aload_n hx hb dX12_mouth_0 rfl (lv_at hl 0 rfl) ?_
  refine lv_iconst (v := 0) hx hb dX12_mouth_1 (by decide) ?_
  refine va_put (D := D) (ci := 12) (v := .int 0) (ty := .int) (C := RX12) (T := TX12) (N := 109) hx hb hts (fun _ h => List.mem_cons_of_mem _ (List.mem_append_right _ h)) tyX12 tyX12_ok nmX12 hown hK hP hD hS 0 rfl rfl 0 (by decide) (hts (.fieldLink RX12 1 "PuppetFilmModel" "thrown" "I") (List.mem_of_getElem? (i := 1) (by decide +kernel))) (fun _ h9 => h9) rfl (by decide +kernel) rfl rfl (by simp only [List.length_set, hfs]; decide) dX12_mouth_2 (fun H locs hP hD hS => ?_)
  have hP : va_P D vwCl [(h0, .inr (12, (fs.set 0 (.int 0))))] _ := hP
  have hD : va_D A [(h0, .inr (12, (fs.set 0 (.int 0))))] := hD
  refine lv_aload_n hx hb dX12_mouth_5 rfl (lv_at hl 0 rfl) ?_
  refine lv_iload_n hx hb dX12_mouth_6 rfl (lv_at hl 1 rfl) ?_
  have hF := va_free (wc := [(h0, .inr (12, (fs.set 0 (.int 0))))]) hD hS hA [0] rfl
  refine va_calli (va_runV (As := [.int p0]) (rest := []) ⟨hx, hb, hml, hown, hts⟩ (c_X12_isShot l D cT h0 p0 (fs.set 0 (.int 0)) _ (by simp only [List.length_set]; exact hfs) (List.getElem?_set_self (by simp only [List.length_set, hfs]; decide)) ((List.getElem?_set_ne (by decide)).trans (hfs_38))) (cwV 1 hts gX12_mouth_X12_isShot rfl rfl rfl (by decide +kernel) ⟨Nat.le_of_ble_eq_true rfl, Nat.le_of_ble_eq_true rfl⟩) (pv_w hP hD hK hG [0] rfl rfl rfl 0 rfl rfl) rfl rfl hl.1 rfl (lv_room (Nat.le_of_ble_eq_true rfl)) dX12_mouth_7 ⟨Nat.le_of_ble_eq_true rfl, Nat.le_of_ble_eq_true rfl⟩) hS (fun q _ h => hF q h) hF (fun r_1 uu9 tt9 H locs ht hvm wr_1 hB hz1 hk1 hS => ?_)
  obtain ⟨hP1, hD1⟩ := hB
  rw [ht] at hP1
  obtain ⟨hP, hD⟩ := va_join (wr := []) (w1 := [(h0, .inr (12, ((fs.set 0 (.int 0)).set 0 (.int 1))))]) hP hD [0] [] rfl rfl (by decide) (by decide) hk1 hF hP1 hD1
  have hP : va_P D vwCl [(h0, .inr (12, ((fs.set 0 (.int 0)).set 0 (.int 1))))] _ := hP
  have hD : va_D A [(h0, .inr (12, ((fs.set 0 (.int 0)).set 0 (.int 1))))] := hD
  obtain rfl : r_1 = 0 := wr_1.trans (rfl)
  refine lv_if_ne (tgt := 15) hx hb dX12_mouth_10 (by decide) (fun c9 => absurd c9 (by decide)) (fun _ => ?_)
  refine lv_iconst (v := 0) hx hb dX12_mouth_13 (by decide) ?_
  have hP9 := hP.sub (ws' := [(h0, .inr (12, ((fs.set 0 (.int 0)).set 0 (.int 1))))]) [0] rfl
  have hD9 := hD.sub (ws' := [(h0, .inr (12, ((fs.set 0 (.int 0)).set 0 (.int 1))))]) [0] (by decide) rfl
  exact W.iret (v := 0) hx hb hr (fun t ht hW => ⟨⟨0, (), rfl, trivial, ⟨((fs.set 0 (.int 0)).set 0 (.int 1)), by simp only [List.length_set]; exact hfs, List.getElem?_set_self (by simp only [List.length_set, hfs]; decide), by rw [ht]; exact hP9, hD9⟩⟩, hS.F ht⟩) hS.2.2 dX12_mouth_14
theorem dX12_camera_0 : decode cX12_camera 0 = .ok (.aload_n 0, 1) := by decide +kernel
theorem dX12_camera_1 : decode cX12_camera 1 = .ok (.iconst 0, 1) := by decide +kernel
theorem dX12_camera_10 : decode cX12_camera 10 = .ok (.ifCond .ne 5, 3) := by decide +kernel
theorem dX12_camera_13 : decode cX12_camera 13 = .ok (.iconst 0, 1) := by decide +kernel
theorem dX12_camera_14 : decode cX12_camera 14 = .ok (.ireturn, 1) := by decide +kernel
theorem dX12_camera_2 : decode cX12_camera 2 = .ok (.putfield 1, 3) := by decide +kernel
theorem dX12_camera_5 : decode cX12_camera 5 = .ok (.aload_n 0, 1) := by decide +kernel
theorem dX12_camera_6 : decode cX12_camera 6 = .ok (.iload_n 1, 1) := by decide +kernel
theorem dX12_camera_7 : decode cX12_camera 7 = .ok (.invokevirtual 436, 3) := by decide +kernel
set_option maxRecDepth 20000 in
theorem ggX12_camera_X12_isShot : GoodIn wsX12_camera wsX12_isShot := goodIn_r _ [7, 8, 9, 10, 6, 11, 12, 13, 14, 15, 1, 24, 25, 26, 27, 28, 29, 30, 31, 32, 33, 34, 35, 36, 37, 38, 39, 40, 41, 42, 43, 44, 45, 46, 47, 48, 49, 50, 51, 52, 53, 54, 55, 56, 57, 58, 59, 60, 61, 62, 63, 64, 65, 66, 67, 68, 69, 70, 71, 72, 73, 74, 75, 76, 77, 78, 79, 80, 81, 82, 83, 84, 85, 86, 87, 88, 89, 90, 91, 92, 93, 94, 95, 96, 97, 98, 99, 100, 101, 102, 103, 104, 105, 106, 107, 108, 109, 110, 111, 112, 113, 114, 115, 116, 117, 118, 119, 120, 121, 122, 123, 124, 125, 126, 127, 128, 129, 130, 131, 132] (by decide +kernel) (by decide +kernel)
set_option maxRecDepth 20000 in
theorem gX12_camera_X12_isShot : GoodIn wsX12_camera (wsV RX12 436 RX12 yX12_isShot wsX12_isShot) := goodIn_app (goodIn_of _ (by decide +kernel)) ggX12_camera_X12_isShot
set_option maxHeartbeats 4000000 in
set_option maxRecDepth 100000 in
theorem c_X12_camera (l : Launch) (D : va_G) (cT : Nat → ClassId) (h0 : Nat) (p0 : Int32) (p1 : Int32) (p2 : Int32) (fs : List Value) (m_th : Int32) (sz : Nat) (hfs : fs.length = 109) (hfs_0 : fs[0]? = some (.int m_th)) (hfs_1 : fs[1]? = some (.int 0)) (hfs_38 : fs[38]? = some (.int 0)) : Met l yX12_camera wsX12_camera ({ frames := 10, cells := 0, slots := 0, locals := 280 }) (va_Pc [.ref h0, .int p0, .int p1, .int p2] (PW D cT [(h0, .inr (12, fs))] sz)) (va_Qi (fun (r : Int32) (_ : Unit) => True) (fun (_ : Unit) (t : State) => ∃ (gs : List Value), (gs.length = 109) ∧ (gs[0]? = some (.int 1)) ∧ va_P D vwCl [(h0, .inr (12, gs))] t.heap ∧ va_D (va_A [(h0, .inr (12, fs))] sz) [(h0, .inr (12, gs))]) (va_A [(h0, .inr (12, fs))] sz)) 0 0 (va_A [(h0, .inr (12, fs))] sz) := by
  refine Met.ofW (cc := cX12_camera) (maxL := 4) (ret := (some .int)) (by decide) rfl ?_
  intro p e s m args below meth c s₁ B hml hv
  obtain ⟨rfl, hsz, hP, hK, hD0, hG⟩ := hv
  have hx := B.exec
  have hb := B.bytes
  have hr := B.returns
  have hts := atoms_spec (ws := wsX12_camera) B.pre
  have hown : s.vm.findClass RX12 = some m.cls := findClass_of_methodNamed B.named
  have hlocks := B.notSynchronized
  subst hsz
  have hD := hD0.self (sz := s.heap.size)
  generalize hAe : va_A [(h0, .inr (12, fs))] s.heap.size = A at hD ⊢
  have hA : ∀ q : Nat, s.heap.size ≤ q → A q := fun q h => by rw [← hAe]; exact Or.inr h
  have hS : va_S A s.heap s.heap [] := va_S.rf
  have hP : va_P D vwCl [(h0, .inr (12, fs))] s.heap := hP
  have hl := lv_entry ([.ref h0, .int p0, .int p1, .int p2]) (n := 4) (Nat.le_of_ble_eq_true rfl)
  rw [lg_entry_eq]
  generalize (lg_sl ([.ref h0, .int p0, .int p1, .int p2]) ++ List.replicate (4 - (lg_sl ([.ref h0, .int p0, .int p1, .int p2])).length) Slot.unset).toArray = ls at hl ⊢
  have hl : lv_has ls 4 [(0, .ref h0), (1, .int p0), (2, .int p1), (3, .int p2)] := hl
  refine lv_aload_n hx hb dX12_camera_0 rfl (lv_at hl 0 rfl) ?_
  refine lv_iconst (v := 0) hx hb dX12_camera_1 (by decide) ?_
  refine va_put (D := D) (ci := 12) (v := .int 0) (ty := .int) (C := RX12) (T := TX12) (N := 109) hx hb hts (fun _ h => List.mem_cons_of_mem _ (List.mem_append_right _ h)) tyX12 tyX12_ok nmX12 hown hK hP hD hS 0 rfl rfl 0 (by decide) (hts (.fieldLink RX12 1 "PuppetFilmModel" "thrown" "I") (List.mem_of_getElem? (i := 1) (by decide +kernel))) (fun _ h9 => h9) rfl (by decide +kernel) rfl rfl (by simp only [List.length_set, hfs]; decide) dX12_camera_2 (fun H locs hP hD hS => ?_)
  have hP : va_P D vwCl [(h0, .inr (12, (fs.set 0 (.int 0))))] _ := hP
  have hD : va_D A [(h0, .inr (12, (fs.set 0 (.int 0))))] := hD
  refine lv_aload_n hx hb dX12_camera_5 rfl (lv_at hl 0 rfl) ?_
  refine lv_iload_n hx hb dX12_camera_6 rfl (lv_at hl 1 rfl) ?_
  have hF := va_free (wc := [(h0, .inr (12, (fs.set 0 (.int 0))))]) hD hS hA [0] rfl
  refine va_calli (va_runV (As := [.int p0]) (rest := []) ⟨hx, hb, hml, hown, hts⟩ (c_X12_isShot l D cT h0 p0 (fs.set 0 (.int 0)) _ (by simp only [List.length_set]; exact hfs) (List.getElem?_set_self (by simp only [List.length_set, hfs]; decide)) ((List.getElem?_set_ne (by decide)).trans (hfs_38))) (cwV 1 hts gX12_camera_X12_isShot rfl rfl rfl (by decide +kernel) ⟨Nat.le_of_ble_eq_true rfl, Nat.le_of_ble_eq_true rfl⟩) (pv_w hP hD hK hG [0] rfl rfl rfl 0 rfl rfl) rfl rfl hl.1 rfl (lv_room (Nat.le_of_ble_eq_true rfl)) dX12_camera_7 ⟨Nat.le_of_ble_eq_true rfl, Nat.le_of_ble_eq_true rfl⟩) hS (fun q _ h => hF q h) hF (fun r_1 uu9 tt9 H locs ht hvm wr_1 hB hz1 hk1 hS => ?_)
  obtain ⟨hP1, hD1⟩ := hB
  rw [ht] at hP1
  obtain ⟨hP, hD⟩ := va_join (wr := []) (w1 := [(h0, .inr (12, ((fs.set 0 (.int 0)).set 0 (.int 1))))]) hP hD [0] [] rfl rfl (by decide) (by decide) hk1 hF hP1 hD1
  have hP : va_P D vwCl [(h0, .inr (12, ((fs.set 0 (.int 0)).set 0 (.int 1))))] _ := hP
  have hD : va_D A [(h0, .inr (12, ((fs.set 0 (.int 0)).set 0 (.int 1))))] := hD
  obtain rfl : r_1 = 0 := wr_1.trans (rfl)
  refine lv_if_ne (tgt := 15) hx hb dX12_camera_10 (by decide) (fun c9 => absurd c9 (by decide)) (fun _ => ?_)
  refine lv_iconst (v := 0) hx hb dX12_camera_13 (by decide) ?_
  have hP9 := hP.sub (ws' := [(h0, .inr (12, ((fs.set 0 (.int 0)).set 0 (.int 1))))]) [0] rfl
  have hD9 := hD.sub (ws' := [(h0, .inr (12, ((fs.set 0 (.int 0)).set 0 (.int 1))))]) [0] (by decide) rfl
  exact W.iret (v := 0) hx hb hr (fun t ht hW => ⟨⟨0, (), rfl, trivial, ⟨((fs.set 0 (.int 0)).set 0 (.int 1)), by simp only [List.length_set]; exact hfs, List.getElem?_set_self (by simp only [List.length_set, hfs]; decide), by rw [ht]; exact hP9, hD9⟩⟩, hS.F ht⟩) hS.2.2 dX12_camera_14
theorem dX12_state_0 : decode cX12_state 0 = .ok (.aload_n 0, 1) := by decide +kernel
theorem dX12_state_1 : decode cX12_state 1 = .ok (.iconst 0, 1) := by decide +kernel
theorem dX12_state_10 : decode cX12_state 10 = .ok (.ifCond .ne 5, 3) := by decide +kernel
theorem dX12_state_13 : decode cX12_state 13 = .ok (.iconst 0, 1) := by decide +kernel
theorem dX12_state_14 : decode cX12_state 14 = .ok (.ireturn, 1) := by decide +kernel
theorem dX12_state_2 : decode cX12_state 2 = .ok (.putfield 1, 3) := by decide +kernel
theorem dX12_state_5 : decode cX12_state 5 = .ok (.aload_n 0, 1) := by decide +kernel
theorem dX12_state_6 : decode cX12_state 6 = .ok (.iload_n 1, 1) := by decide +kernel
theorem dX12_state_7 : decode cX12_state 7 = .ok (.invokevirtual 436, 3) := by decide +kernel
set_option maxRecDepth 20000 in
theorem ggX12_state_X12_isShot : GoodIn wsX12_state wsX12_isShot := goodIn_r _ [8, 9, 10, 11, 7, 12, 13, 14, 15, 16, 1, 54, 55, 56, 57, 58, 59, 60, 61, 62, 63, 64, 65, 66, 67, 68, 69, 70, 71, 72, 73, 74, 75, 76, 77, 78, 79, 80, 81, 82, 83, 84, 85, 86, 87, 88, 89, 90, 91, 92, 93, 94, 95, 96, 97, 98, 99, 100, 101, 102, 103, 104, 105, 106, 107, 108, 109, 110, 111, 112, 113, 114, 115, 116, 117, 118, 119, 120, 121, 122, 123, 124, 125, 126, 127, 128, 129, 130, 131, 132, 133, 134, 135, 136, 137, 138, 139, 140, 141, 142, 143, 144, 145, 146, 147, 148, 149, 150, 151, 152, 153, 154, 155, 156, 157, 158, 159, 160, 161, 162] (by decide +kernel) (by decide +kernel)
set_option maxRecDepth 20000 in
theorem gX12_state_X12_isShot : GoodIn wsX12_state (wsV RX12 436 RX12 yX12_isShot wsX12_isShot) := goodIn_app (goodIn_of _ (by decide +kernel)) ggX12_state_X12_isShot
set_option maxHeartbeats 4000000 in
set_option maxRecDepth 100000 in
theorem c_X12_state (l : Launch) (D : va_G) (cT : Nat → ClassId) (h0 : Nat) (p0 : Int32) (p1 : Int32) (p2 : Int32) (fs : List Value) (m_th : Int32) (sz : Nat) (hfs : fs.length = 109) (hfs_0 : fs[0]? = some (.int m_th)) (hfs_1 : fs[1]? = some (.int 0)) (hfs_38 : fs[38]? = some (.int 0)) : Met l yX12_state wsX12_state ({ frames := 10, cells := 0, slots := 0, locals := 280 }) (va_Pc [.ref h0, .int p0, .int p1, .int p2] (PW D cT [(h0, .inr (12, fs))] sz)) (va_Qi (fun (r : Int32) (_ : Unit) => True) (fun (_ : Unit) (t : State) => ∃ (gs : List Value), (gs.length = 109) ∧ (gs[0]? = some (.int 1)) ∧ va_P D vwCl [(h0, .inr (12, gs))] t.heap ∧ va_D (va_A [(h0, .inr (12, fs))] sz) [(h0, .inr (12, gs))]) (va_A [(h0, .inr (12, fs))] sz)) 0 0 (va_A [(h0, .inr (12, fs))] sz) := by
  refine Met.ofW (cc := cX12_state) (maxL := 5) (ret := (some .int)) (by decide) rfl ?_
  intro p e s m args below meth c s₁ B hml hv
  obtain ⟨rfl, hsz, hP, hK, hD0, hG⟩ := hv
  have hx := B.exec
  have hb := B.bytes
  have hr := B.returns
  have hts := atoms_spec (ws := wsX12_state) B.pre
  have hown : s.vm.findClass RX12 = some m.cls := findClass_of_methodNamed B.named
  have hlocks := B.notSynchronized
  subst hsz
  have hD := hD0.self (sz := s.heap.size)
  generalize hAe : va_A [(h0, .inr (12, fs))] s.heap.size = A at hD ⊢
  have hA : ∀ q : Nat, s.heap.size ≤ q → A q := fun q h => by rw [← hAe]; exact Or.inr h
  have hS : va_S A s.heap s.heap [] := va_S.rf
  have hP : va_P D vwCl [(h0, .inr (12, fs))] s.heap := hP
  have hl := lv_entry ([.ref h0, .int p0, .int p1, .int p2]) (n := 5) (Nat.le_of_ble_eq_true rfl)
  rw [lg_entry_eq]
  generalize (lg_sl ([.ref h0, .int p0, .int p1, .int p2]) ++ List.replicate (5 - (lg_sl ([.ref h0, .int p0, .int p1, .int p2])).length) Slot.unset).toArray = ls at hl ⊢
  have hl : lv_has ls 5 [(0, .ref h0), (1, .int p0), (2, .int p1), (3, .int p2)] := hl
  refine lv_aload_n hx hb dX12_state_0 rfl (lv_at hl 0 rfl) ?_
  refine lv_iconst (v := 0) hx hb dX12_state_1 (by decide) ?_
  refine va_put (D := D) (ci := 12) (v := .int 0) (ty := .int) (C := RX12) (T := TX12) (N := 109) hx hb hts (fun _ h => List.mem_cons_of_mem _ (List.mem_append_right _ h)) tyX12 tyX12_ok nmX12 hown hK hP hD hS 0 rfl rfl 0 (by decide) (hts (.fieldLink RX12 1 "PuppetFilmModel" "thrown" "I") (List.mem_of_getElem? (i := 1) (by decide +kernel))) (fun _ h9 => h9) rfl (by decide +kernel) rfl rfl (by simp only [List.length_set, hfs]; decide) dX12_state_2 (fun H locs hP hD hS => ?_)
  have hP : va_P D vwCl [(h0, .inr (12, (fs.set 0 (.int 0))))] _ := hP
  have hD : va_D A [(h0, .inr (12, (fs.set 0 (.int 0))))] := hD
  refine lv_aload_n hx hb dX12_state_5 rfl (lv_at hl 0 rfl) ?_
  refine lv_iload_n hx hb dX12_state_6 rfl (lv_at hl 1 rfl) ?_
  have hF := va_free (wc := [(h0, .inr (12, (fs.set 0 (.int 0))))]) hD hS hA [0] rfl
  refine va_calli (va_runV (As := [.int p0]) (rest := []) ⟨hx, hb, hml, hown, hts⟩ (c_X12_isShot l D cT h0 p0 (fs.set 0 (.int 0)) _ (by simp only [List.length_set]; exact hfs) (List.getElem?_set_self (by simp only [List.length_set, hfs]; decide)) ((List.getElem?_set_ne (by decide)).trans (hfs_38))) (cwV 1 hts gX12_state_X12_isShot rfl rfl rfl (by decide +kernel) ⟨Nat.le_of_ble_eq_true rfl, Nat.le_of_ble_eq_true rfl⟩) (pv_w hP hD hK hG [0] rfl rfl rfl 0 rfl rfl) rfl rfl hl.1 rfl (lv_room (Nat.le_of_ble_eq_true rfl)) dX12_state_7 ⟨Nat.le_of_ble_eq_true rfl, Nat.le_of_ble_eq_true rfl⟩) hS (fun q _ h => hF q h) hF (fun r_1 uu9 tt9 H locs ht hvm wr_1 hB hz1 hk1 hS => ?_)
  obtain ⟨hP1, hD1⟩ := hB
  rw [ht] at hP1
  obtain ⟨hP, hD⟩ := va_join (wr := []) (w1 := [(h0, .inr (12, ((fs.set 0 (.int 0)).set 0 (.int 1))))]) hP hD [0] [] rfl rfl (by decide) (by decide) hk1 hF hP1 hD1
  have hP : va_P D vwCl [(h0, .inr (12, ((fs.set 0 (.int 0)).set 0 (.int 1))))] _ := hP
  have hD : va_D A [(h0, .inr (12, ((fs.set 0 (.int 0)).set 0 (.int 1))))] := hD
  obtain rfl : r_1 = 0 := wr_1.trans (rfl)
  refine lv_if_ne (tgt := 15) hx hb dX12_state_10 (by decide) (fun c9 => absurd c9 (by decide)) (fun _ => ?_)
  refine lv_iconst (v := 0) hx hb dX12_state_13 (by decide) ?_
  have hP9 := hP.sub (ws' := [(h0, .inr (12, ((fs.set 0 (.int 0)).set 0 (.int 1))))]) [0] rfl
  have hD9 := hD.sub (ws' := [(h0, .inr (12, ((fs.set 0 (.int 0)).set 0 (.int 1))))]) [0] (by decide) rfl
  exact W.iret (v := 0) hx hb hr (fun t ht hW => ⟨⟨0, (), rfl, trivial, ⟨((fs.set 0 (.int 0)).set 0 (.int 1)), by simp only [List.length_set]; exact hfs, List.getElem?_set_self (by simp only [List.length_set, hfs]; decide), by rw [ht]; exact hP9, hD9⟩⟩, hS.F ht⟩) hS.2.2 dX12_state_14
theorem dX12_lean_0 : decode cX12_lean 0 = .ok (.aload_n 0, 1) := by decide +kernel
theorem dX12_lean_1 : decode cX12_lean 1 = .ok (.iconst 0, 1) := by decide +kernel
theorem dX12_lean_10 : decode cX12_lean 10 = .ok (.ifCond .ne 5, 3) := by decide +kernel
theorem dX12_lean_13 : decode cX12_lean 13 = .ok (.iconst 0, 1) := by decide +kernel
theorem dX12_lean_14 : decode cX12_lean 14 = .ok (.ireturn, 1) := by decide +kernel
theorem dX12_lean_2 : decode cX12_lean 2 = .ok (.putfield 1, 3) := by decide +kernel
theorem dX12_lean_5 : decode cX12_lean 5 = .ok (.aload_n 0, 1) := by decide +kernel
theorem dX12_lean_6 : decode cX12_lean 6 = .ok (.iload_n 1, 1) := by decide +kernel
theorem dX12_lean_7 : decode cX12_lean 7 = .ok (.invokevirtual 436, 3) := by decide +kernel
set_option maxRecDepth 20000 in
theorem ggX12_lean_X12_isShot : GoodIn wsX12_lean wsX12_isShot := goodIn_r _ [8, 9, 10, 11, 7, 12, 13, 14, 15, 16, 1, 43, 44, 45, 46, 47, 48, 49, 50, 51, 52, 53, 54, 55, 56, 57, 58, 59, 60, 61, 62, 63, 64, 65, 66, 67, 68, 69, 70, 71, 72, 73, 74, 75, 76, 77, 78, 79, 80, 81, 82, 83, 84, 85, 86, 87, 88, 89, 90, 91, 92, 93, 94, 95, 96, 97, 98, 99, 100, 101, 102, 103, 104, 105, 106, 107, 108, 109, 110, 111, 112, 113, 114, 115, 116, 117, 118, 119, 120, 121, 122, 123, 124, 125, 126, 127, 128, 129, 130, 131, 132, 133, 134, 135, 136, 137, 138, 139, 140, 141, 142, 143, 144, 145, 146, 147, 148, 149, 150, 151] (by decide +kernel) (by decide +kernel)
set_option maxRecDepth 20000 in
theorem gX12_lean_X12_isShot : GoodIn wsX12_lean (wsV RX12 436 RX12 yX12_isShot wsX12_isShot) := goodIn_app (goodIn_of _ (by decide +kernel)) ggX12_lean_X12_isShot
set_option maxHeartbeats 4000000 in
set_option maxRecDepth 100000 in
theorem c_X12_lean (l : Launch) (D : va_G) (cT : Nat → ClassId) (h0 : Nat) (p0 : Int32) (p1 : Int32) (p2 : Int32) (fs : List Value) (m_th : Int32) (sz : Nat) (hfs : fs.length = 109) (hfs_0 : fs[0]? = some (.int m_th)) (hfs_1 : fs[1]? = some (.int 0)) (hfs_38 : fs[38]? = some (.int 0)) : Met l yX12_lean wsX12_lean ({ frames := 10, cells := 0, slots := 0, locals := 280 }) (va_Pc [.ref h0, .int p0, .int p1, .int p2] (PW D cT [(h0, .inr (12, fs))] sz)) (va_Qi (fun (r : Int32) (_ : Unit) => True) (fun (_ : Unit) (t : State) => ∃ (gs : List Value), (gs.length = 109) ∧ (gs[0]? = some (.int 1)) ∧ va_P D vwCl [(h0, .inr (12, gs))] t.heap ∧ va_D (va_A [(h0, .inr (12, fs))] sz) [(h0, .inr (12, gs))]) (va_A [(h0, .inr (12, fs))] sz)) 0 0 (va_A [(h0, .inr (12, fs))] sz) := by
  refine Met.ofW (cc := cX12_lean) (maxL := 4) (ret := (some .int)) (by decide) rfl ?_
  intro p e s m args below meth c s₁ B hml hv
  obtain ⟨rfl, hsz, hP, hK, hD0, hG⟩ := hv
  have hx := B.exec
  have hb := B.bytes
  have hr := B.returns
  have hts := atoms_spec (ws := wsX12_lean) B.pre
  have hown : s.vm.findClass RX12 = some m.cls := findClass_of_methodNamed B.named
  have hlocks := B.notSynchronized
  subst hsz
  have hD := hD0.self (sz := s.heap.size)
  generalize hAe : va_A [(h0, .inr (12, fs))] s.heap.size = A at hD ⊢
  have hA : ∀ q : Nat, s.heap.size ≤ q → A q := fun q h => by rw [← hAe]; exact Or.inr h
  have hS : va_S A s.heap s.heap [] := va_S.rf
  have hP : va_P D vwCl [(h0, .inr (12, fs))] s.heap := hP
  have hl := lv_entry ([.ref h0, .int p0, .int p1, .int p2]) (n := 4) (Nat.le_of_ble_eq_true rfl)
  rw [lg_entry_eq]
  generalize (lg_sl ([.ref h0, .int p0, .int p1, .int p2]) ++ List.replicate (4 - (lg_sl ([.ref h0, .int p0, .int p1, .int p2])).length) Slot.unset).toArray = ls at hl ⊢
  have hl : lv_has ls 4 [(0, .ref h0), (1, .int p0), (2, .int p1), (3, .int p2)] := hl
  refine lv_aload_n hx hb dX12_lean_0 rfl (lv_at hl 0 rfl) ?_
  refine lv_iconst (v := 0) hx hb dX12_lean_1 (by decide) ?_
  refine va_put (D := D) (ci := 12) (v := .int 0) (ty := .int) (C := RX12) (T := TX12) (N := 109) hx hb hts (fun _ h => List.mem_cons_of_mem _ (List.mem_append_right _ h)) tyX12 tyX12_ok nmX12 hown hK hP hD hS 0 rfl rfl 0 (by decide) (hts (.fieldLink RX12 1 "PuppetFilmModel" "thrown" "I") (List.mem_of_getElem? (i := 1) (by decide +kernel))) (fun _ h9 => h9) rfl (by decide +kernel) rfl rfl (by simp only [List.length_set, hfs]; decide) dX12_lean_2 (fun H locs hP hD hS => ?_)
  have hP : va_P D vwCl [(h0, .inr (12, (fs.set 0 (.int 0))))] _ := hP
  have hD : va_D A [(h0, .inr (12, (fs.set 0 (.int 0))))] := hD
  refine lv_aload_n hx hb dX12_lean_5 rfl (lv_at hl 0 rfl) ?_
  refine lv_iload_n hx hb dX12_lean_6 rfl (lv_at hl 1 rfl) ?_
  have hF := va_free (wc := [(h0, .inr (12, (fs.set 0 (.int 0))))]) hD hS hA [0] rfl
  refine va_calli (va_runV (As := [.int p0]) (rest := []) ⟨hx, hb, hml, hown, hts⟩ (c_X12_isShot l D cT h0 p0 (fs.set 0 (.int 0)) _ (by simp only [List.length_set]; exact hfs) (List.getElem?_set_self (by simp only [List.length_set, hfs]; decide)) ((List.getElem?_set_ne (by decide)).trans (hfs_38))) (cwV 1 hts gX12_lean_X12_isShot rfl rfl rfl (by decide +kernel) ⟨Nat.le_of_ble_eq_true rfl, Nat.le_of_ble_eq_true rfl⟩) (pv_w hP hD hK hG [0] rfl rfl rfl 0 rfl rfl) rfl rfl hl.1 rfl (lv_room (Nat.le_of_ble_eq_true rfl)) dX12_lean_7 ⟨Nat.le_of_ble_eq_true rfl, Nat.le_of_ble_eq_true rfl⟩) hS (fun q _ h => hF q h) hF (fun r_1 uu9 tt9 H locs ht hvm wr_1 hB hz1 hk1 hS => ?_)
  obtain ⟨hP1, hD1⟩ := hB
  rw [ht] at hP1
  obtain ⟨hP, hD⟩ := va_join (wr := []) (w1 := [(h0, .inr (12, ((fs.set 0 (.int 0)).set 0 (.int 1))))]) hP hD [0] [] rfl rfl (by decide) (by decide) hk1 hF hP1 hD1
  have hP : va_P D vwCl [(h0, .inr (12, ((fs.set 0 (.int 0)).set 0 (.int 1))))] _ := hP
  have hD : va_D A [(h0, .inr (12, ((fs.set 0 (.int 0)).set 0 (.int 1))))] := hD
  obtain rfl : r_1 = 0 := wr_1.trans (rfl)
  refine lv_if_ne (tgt := 15) hx hb dX12_lean_10 (by decide) (fun c9 => absurd c9 (by decide)) (fun _ => ?_)
  refine lv_iconst (v := 0) hx hb dX12_lean_13 (by decide) ?_
  have hP9 := hP.sub (ws' := [(h0, .inr (12, ((fs.set 0 (.int 0)).set 0 (.int 1))))]) [0] rfl
  have hD9 := hD.sub (ws' := [(h0, .inr (12, ((fs.set 0 (.int 0)).set 0 (.int 1))))]) [0] (by decide) rfl
  exact W.iret (v := 0) hx hb hr (fun t ht hW => ⟨⟨0, (), rfl, trivial, ⟨((fs.set 0 (.int 0)).set 0 (.int 1)), by simp only [List.length_set]; exact hfs, List.getElem?_set_self (by simp only [List.length_set, hfs]; decide), by rw [ht]; exact hP9, hD9⟩⟩, hS.F ht⟩) hS.2.2 dX12_lean_14
theorem dX12_breach_0 : decode cX12_breach 0 = .ok (.aload_n 0, 1) := by decide +kernel
theorem dX12_breach_1 : decode cX12_breach 1 = .ok (.iconst 0, 1) := by decide +kernel
theorem dX12_breach_10 : decode cX12_breach 10 = .ok (.ifCond .eq 17, 3) := by decide +kernel
theorem dX12_breach_2 : decode cX12_breach 2 = .ok (.putfield 1, 3) := by decide +kernel
theorem dX12_breach_27 : decode cX12_breach 27 = .ok (.iconst 0, 1) := by decide +kernel
theorem dX12_breach_28 : decode cX12_breach 28 = .ok (.ireturn, 1) := by decide +kernel
theorem dX12_breach_5 : decode cX12_breach 5 = .ok (.aload_n 0, 1) := by decide +kernel
theorem dX12_breach_6 : decode cX12_breach 6 = .ok (.iload_n 1, 1) := by decide +kernel
theorem dX12_breach_7 : decode cX12_breach 7 = .ok (.invokevirtual 436, 3) := by decide +kernel
set_option maxRecDepth 20000 in
theorem ggX12_breach_X12_isShot : GoodIn wsX12_breach wsX12_isShot := goodIn_r _ [11, 12, 13, 14, 10, 15, 16, 17, 18, 19, 1, 28, 29, 30, 31, 32, 33, 34, 35, 36, 37, 38, 39, 40, 41, 42, 43, 44, 45, 46, 47, 48, 49, 50, 51, 52, 53, 54, 55, 56, 57, 58, 59, 60, 61, 62, 63, 64, 65, 66, 67, 68, 69, 70, 71, 72, 73, 74, 75, 76, 77, 78, 79, 80, 81, 82, 83, 84, 85, 86, 87, 88, 89, 90, 91, 92, 93, 94, 95, 96, 97, 98, 99, 100, 101, 102, 103, 104, 105, 106, 107, 108, 109, 110, 111, 112, 113, 114, 115, 116, 117, 118, 119, 120, 121, 122, 123, 124, 125, 126, 127, 128, 129, 130, 131, 132, 133, 134, 135, 136] (by decide +kernel) (by decide +kernel)
set_option maxRecDepth 20000 in
theorem gX12_breach_X12_isShot : GoodIn wsX12_breach (wsV RX12 436 RX12 yX12_isShot wsX12_isShot) := goodIn_app (goodIn_of _ (by decide +kernel)) ggX12_breach_X12_isShot
set_option maxHeartbeats 4000000 in
set_option maxRecDepth 100000 in
theorem c_X12_breach (l : Launch) (D : va_G) (cT : Nat → ClassId) (h0 : Nat) (p0 : Int32) (p1 : Int32) (fs : List Value) (m_th : Int32) (sz : Nat) (hfs : fs.length = 109) (hfs_0 : fs[0]? = some (.int m_th)) (hfs_1 : fs[1]? = some (.int 0)) (hfs_38 : fs[38]? = some (.int 0)) : Met l yX12_breach wsX12_breach ({ frames := 10, cells := 0, slots := 0, locals := 280 }) (va_Pc [.ref h0, .int p0, .int p1] (PW D cT [(h0, .inr (12, fs))] sz)) (va_Qi (fun (r : Int32) (_ : Unit) => True) (fun (_ : Unit) (t : State) => ∃ (gs : List Value), (gs.length = 109) ∧ (gs[0]? = some (.int 1)) ∧ va_P D vwCl [(h0, .inr (12, gs))] t.heap ∧ va_D (va_A [(h0, .inr (12, fs))] sz) [(h0, .inr (12, gs))]) (va_A [(h0, .inr (12, fs))] sz)) 0 0 (va_A [(h0, .inr (12, fs))] sz) := by
  refine Met.ofW (cc := cX12_breach) (maxL := 6) (ret := (some .int)) (by decide) rfl ?_
  intro p e s m args below meth c s₁ B hml hv
  obtain ⟨rfl, hsz, hP, hK, hD0, hG⟩ := hv
  have hx := B.exec
  have hb := B.bytes
  have hr := B.returns
  have hts := atoms_spec (ws := wsX12_breach) B.pre
  have hown : s.vm.findClass RX12 = some m.cls := findClass_of_methodNamed B.named
  have hlocks := B.notSynchronized
  subst hsz
  have hD := hD0.self (sz := s.heap.size)
  generalize hAe : va_A [(h0, .inr (12, fs))] s.heap.size = A at hD ⊢
  have hA : ∀ q : Nat, s.heap.size ≤ q → A q := fun q h => by rw [← hAe]; exact Or.inr h
  have hS : va_S A s.heap s.heap [] := va_S.rf
  have hP : va_P D vwCl [(h0, .inr (12, fs))] s.heap := hP
  have hl := lv_entry ([.ref h0, .int p0, .int p1]) (n := 6) (Nat.le_of_ble_eq_true rfl)
  rw [lg_entry_eq]
  generalize (lg_sl ([.ref h0, .int p0, .int p1]) ++ List.replicate (6 - (lg_sl ([.ref h0, .int p0, .int p1])).length) Slot.unset).toArray = ls at hl ⊢
  have hl : lv_has ls 6 [(0, .ref h0), (1, .int p0), (2, .int p1)] := hl
  refine lv_aload_n hx hb dX12_breach_0 rfl (lv_at hl 0 rfl) ?_
  refine lv_iconst (v := 0) hx hb dX12_breach_1 (by decide) ?_
  refine va_put (D := D) (ci := 12) (v := .int 0) (ty := .int) (C := RX12) (T := TX12) (N := 109) hx hb hts (fun _ h => List.mem_cons_of_mem _ (List.mem_append_right _ h)) tyX12 tyX12_ok nmX12 hown hK hP hD hS 0 rfl rfl 0 (by decide) (hts (.fieldLink RX12 1 "PuppetFilmModel" "thrown" "I") (List.mem_of_getElem? (i := 1) (by decide +kernel))) (fun _ h9 => h9) rfl (by decide +kernel) rfl rfl (by simp only [List.length_set, hfs]; decide) dX12_breach_2 (fun H locs hP hD hS => ?_)
  have hP : va_P D vwCl [(h0, .inr (12, (fs.set 0 (.int 0))))] _ := hP
  have hD : va_D A [(h0, .inr (12, (fs.set 0 (.int 0))))] := hD
  refine lv_aload_n hx hb dX12_breach_5 rfl (lv_at hl 0 rfl) ?_
  refine lv_iload_n hx hb dX12_breach_6 rfl (lv_at hl 1 rfl) ?_
  have hF := va_free (wc := [(h0, .inr (12, (fs.set 0 (.int 0))))]) hD hS hA [0] rfl
  refine va_calli (va_runV (As := [.int p0]) (rest := []) ⟨hx, hb, hml, hown, hts⟩ (c_X12_isShot l D cT h0 p0 (fs.set 0 (.int 0)) _ (by simp only [List.length_set]; exact hfs) (List.getElem?_set_self (by simp only [List.length_set, hfs]; decide)) ((List.getElem?_set_ne (by decide)).trans (hfs_38))) (cwV 1 hts gX12_breach_X12_isShot rfl rfl rfl (by decide +kernel) ⟨Nat.le_of_ble_eq_true rfl, Nat.le_of_ble_eq_true rfl⟩) (pv_w hP hD hK hG [0] rfl rfl rfl 0 rfl rfl) rfl rfl hl.1 rfl (lv_room (Nat.le_of_ble_eq_true rfl)) dX12_breach_7 ⟨Nat.le_of_ble_eq_true rfl, Nat.le_of_ble_eq_true rfl⟩) hS (fun q _ h => hF q h) hF (fun r_1 uu9 tt9 H locs ht hvm wr_1 hB hz1 hk1 hS => ?_)
  obtain ⟨hP1, hD1⟩ := hB
  rw [ht] at hP1
  obtain ⟨hP, hD⟩ := va_join (wr := []) (w1 := [(h0, .inr (12, ((fs.set 0 (.int 0)).set 0 (.int 1))))]) hP hD [0] [] rfl rfl (by decide) (by decide) hk1 hF hP1 hD1
  have hP : va_P D vwCl [(h0, .inr (12, ((fs.set 0 (.int 0)).set 0 (.int 1))))] _ := hP
  have hD : va_D A [(h0, .inr (12, ((fs.set 0 (.int 0)).set 0 (.int 1))))] := hD
  obtain rfl : r_1 = 0 := wr_1.trans (rfl)
  refine lv_if_eq (tgt := 27) hx hb dX12_breach_10 (by decide) (fun _ => ?_) (fun c9 => absurd c9 (by decide))
  refine lv_iconst (v := 0) hx hb dX12_breach_27 (by decide) ?_
  have hP9 := hP.sub (ws' := [(h0, .inr (12, ((fs.set 0 (.int 0)).set 0 (.int 1))))]) [0] rfl
  have hD9 := hD.sub (ws' := [(h0, .inr (12, ((fs.set 0 (.int 0)).set 0 (.int 1))))]) [0] (by decide) rfl
  exact W.iret (v := 0) hx hb hr (fun t ht hW => ⟨⟨0, (), rfl, trivial, ⟨((fs.set 0 (.int 0)).set 0 (.int 1)), by simp only [List.length_set]; exact hfs, List.getElem?_set_self (by simp only [List.length_set, hfs]; decide), by rw [ht]; exact hP9, hD9⟩⟩, hS.F ht⟩) hS.2.2 dX12_breach_28
theorem dX12_fall_0 : decode cX12_fall 0 = .ok (.aload_n 0, 1) := by decide +kernel
theorem dX12_fall_1 : decode cX12_fall 1 = .ok (.iconst 0, 1) := by decide +kernel
theorem dX12_fall_10 : decode cX12_fall 10 = .ok (.ifCond .eq 17, 3) := by decide +kernel
theorem dX12_fall_2 : decode cX12_fall 2 = .ok (.putfield 1, 3) := by decide +kernel
theorem dX12_fall_27 : decode cX12_fall 27 = .ok (.iconst 0, 1) := by decide +kernel
theorem dX12_fall_28 : decode cX12_fall 28 = .ok (.ireturn, 1) := by decide +kernel
theorem dX12_fall_5 : decode cX12_fall 5 = .ok (.aload_n 0, 1) := by decide +kernel
theorem dX12_fall_6 : decode cX12_fall 6 = .ok (.iload_n 1, 1) := by decide +kernel
theorem dX12_fall_7 : decode cX12_fall 7 = .ok (.invokevirtual 436, 3) := by decide +kernel
set_option maxRecDepth 20000 in
theorem ggX12_fall_X12_isShot : GoodIn wsX12_fall wsX12_isShot := goodIn_r _ [9, 10, 11, 12, 8, 13, 14, 15, 16, 17, 1, 50, 51, 52, 53, 54, 55, 56, 57, 58, 59, 60, 61, 62, 63, 64, 65, 66, 67, 68, 69, 70, 71, 72, 73, 74, 75, 76, 77, 78, 79, 80, 81, 82, 83, 84, 85, 86, 87, 88, 89, 90, 91, 92, 93, 94, 95, 96, 97, 98, 99, 100, 101, 102, 103, 104, 105, 106, 107, 108, 109, 110, 111, 112, 113, 114, 115, 116, 117, 118, 119, 120, 121, 122, 123, 124, 125, 126, 127, 128, 129, 130, 131, 132, 133, 134, 135, 136, 137, 138, 139, 140, 141, 142, 143, 144, 145, 146, 147, 148, 149, 150, 151, 152, 153, 154, 155, 156, 157, 158] (by decide +kernel) (by decide +kernel)
set_option maxRecDepth 20000 in
theorem gX12_fall_X12_isShot : GoodIn wsX12_fall (wsV RX12 436 RX12 yX12_isShot wsX12_isShot) := goodIn_app (goodIn_of _ (by decide +kernel)) ggX12_fall_X12_isShot
set_option maxHeartbeats 4000000 in
set_option maxRecDepth 100000 in
theorem c_X12_fall (l : Launch) (D : va_G) (cT : Nat → ClassId) (h0 : Nat) (p0 : Int32) (p1 : Int32) (fs : List Value) (m_th : Int32) (sz : Nat) (hfs : fs.length = 109) (hfs_0 : fs[0]? = some (.int m_th)) (hfs_1 : fs[1]? = some (.int 0)) (hfs_38 : fs[38]? = some (.int 0)) : Met l yX12_fall wsX12_fall ({ frames := 10, cells := 0, slots := 0, locals := 280 }) (va_Pc [.ref h0, .int p0, .int p1] (PW D cT [(h0, .inr (12, fs))] sz)) (va_Qi (fun (r : Int32) (_ : Unit) => True) (fun (_ : Unit) (t : State) => ∃ (gs : List Value), (gs.length = 109) ∧ (gs[0]? = some (.int 1)) ∧ va_P D vwCl [(h0, .inr (12, gs))] t.heap ∧ va_D (va_A [(h0, .inr (12, fs))] sz) [(h0, .inr (12, gs))]) (va_A [(h0, .inr (12, fs))] sz)) 0 0 (va_A [(h0, .inr (12, fs))] sz) := by
  refine Met.ofW (cc := cX12_fall) (maxL := 5) (ret := (some .int)) (by decide) rfl ?_
  intro p e s m args below meth c s₁ B hml hv
  obtain ⟨rfl, hsz, hP, hK, hD0, hG⟩ := hv
  have hx := B.exec
  have hb := B.bytes
  have hr := B.returns
  have hts := atoms_spec (ws := wsX12_fall) B.pre
  have hown : s.vm.findClass RX12 = some m.cls := findClass_of_methodNamed B.named
  have hlocks := B.notSynchronized
  subst hsz
  have hD := hD0.self (sz := s.heap.size)
  generalize hAe : va_A [(h0, .inr (12, fs))] s.heap.size = A at hD ⊢
  have hA : ∀ q : Nat, s.heap.size ≤ q → A q := fun q h => by rw [← hAe]; exact Or.inr h
  have hS : va_S A s.heap s.heap [] := va_S.rf
  have hP : va_P D vwCl [(h0, .inr (12, fs))] s.heap := hP
  have hl := lv_entry ([.ref h0, .int p0, .int p1]) (n := 5) (Nat.le_of_ble_eq_true rfl)
  rw [lg_entry_eq]
  generalize (lg_sl ([.ref h0, .int p0, .int p1]) ++ List.replicate (5 - (lg_sl ([.ref h0, .int p0, .int p1])).length) Slot.unset).toArray = ls at hl ⊢
  have hl : lv_has ls 5 [(0, .ref h0), (1, .int p0), (2, .int p1)] := hl
  refine lv_aload_n hx hb dX12_fall_0 rfl (lv_at hl 0 rfl) ?_
  refine lv_iconst (v := 0) hx hb dX12_fall_1 (by decide) ?_
  refine va_put (D := D) (ci := 12) (v := .int 0) (ty := .int) (C := RX12) (T := TX12) (N := 109) hx hb hts (fun _ h => List.mem_cons_of_mem _ (List.mem_append_right _ h)) tyX12 tyX12_ok nmX12 hown hK hP hD hS 0 rfl rfl 0 (by decide) (hts (.fieldLink RX12 1 "PuppetFilmModel" "thrown" "I") (List.mem_of_getElem? (i := 1) (by decide +kernel))) (fun _ h9 => h9) rfl (by decide +kernel) rfl rfl (by simp only [List.length_set, hfs]; decide) dX12_fall_2 (fun H locs hP hD hS => ?_)
  have hP : va_P D vwCl [(h0, .inr (12, (fs.set 0 (.int 0))))] _ := hP
  have hD : va_D A [(h0, .inr (12, (fs.set 0 (.int 0))))] := hD
  refine lv_aload_n hx hb dX12_fall_5 rfl (lv_at hl 0 rfl) ?_
  refine lv_iload_n hx hb dX12_fall_6 rfl (lv_at hl 1 rfl) ?_
  have hF := va_free (wc := [(h0, .inr (12, (fs.set 0 (.int 0))))]) hD hS hA [0] rfl
  refine va_calli (va_runV (As := [.int p0]) (rest := []) ⟨hx, hb, hml, hown, hts⟩ (c_X12_isShot l D cT h0 p0 (fs.set 0 (.int 0)) _ (by simp only [List.length_set]; exact hfs) (List.getElem?_set_self (by simp only [List.length_set, hfs]; decide)) ((List.getElem?_set_ne (by decide)).trans (hfs_38))) (cwV 1 hts gX12_fall_X12_isShot rfl rfl rfl (by decide +kernel) ⟨Nat.le_of_ble_eq_true rfl, Nat.le_of_ble_eq_true rfl⟩) (pv_w hP hD hK hG [0] rfl rfl rfl 0 rfl rfl) rfl rfl hl.1 rfl (lv_room (Nat.le_of_ble_eq_true rfl)) dX12_fall_7 ⟨Nat.le_of_ble_eq_true rfl, Nat.le_of_ble_eq_true rfl⟩) hS (fun q _ h => hF q h) hF (fun r_1 uu9 tt9 H locs ht hvm wr_1 hB hz1 hk1 hS => ?_)
  obtain ⟨hP1, hD1⟩ := hB
  rw [ht] at hP1
  obtain ⟨hP, hD⟩ := va_join (wr := []) (w1 := [(h0, .inr (12, ((fs.set 0 (.int 0)).set 0 (.int 1))))]) hP hD [0] [] rfl rfl (by decide) (by decide) hk1 hF hP1 hD1
  have hP : va_P D vwCl [(h0, .inr (12, ((fs.set 0 (.int 0)).set 0 (.int 1))))] _ := hP
  have hD : va_D A [(h0, .inr (12, ((fs.set 0 (.int 0)).set 0 (.int 1))))] := hD
  obtain rfl : r_1 = 0 := wr_1.trans (rfl)
  refine lv_if_eq (tgt := 27) hx hb dX12_fall_10 (by decide) (fun _ => ?_) (fun c9 => absurd c9 (by decide))
  refine lv_iconst (v := 0) hx hb dX12_fall_27 (by decide) ?_
  have hP9 := hP.sub (ws' := [(h0, .inr (12, ((fs.set 0 (.int 0)).set 0 (.int 1))))]) [0] rfl
  have hD9 := hD.sub (ws' := [(h0, .inr (12, ((fs.set 0 (.int 0)).set 0 (.int 1))))]) [0] (by decide) rfl
  exact W.iret (v := 0) hx hb hr (fun t ht hW => ⟨⟨0, (), rfl, trivial, ⟨((fs.set 0 (.int 0)).set 0 (.int 1)), by simp only [List.length_set]; exact hfs, List.getElem?_set_self (by simp only [List.length_set, hfs]; decide), by rw [ht]; exact hP9, hD9⟩⟩, hS.F ht⟩) hS.2.2 dX12_fall_28
theorem dX12_alike_0 : decode cX12_alike 0 = .ok (.aload_n 0, 1) := by decide +kernel
theorem dX12_alike_1 : decode cX12_alike 1 = .ok (.iconst 0, 1) := by decide +kernel
theorem dX12_alike_10 : decode cX12_alike 10 = .ok (.ifCond .eq 34, 3) := by decide +kernel
theorem dX12_alike_2 : decode cX12_alike 2 = .ok (.putfield 1, 3) := by decide +kernel
theorem dX12_alike_44 : decode cX12_alike 44 = .ok (.iconst 0, 1) := by decide +kernel
theorem dX12_alike_45 : decode cX12_alike 45 = .ok (.ireturn, 1) := by decide +kernel
theorem dX12_alike_5 : decode cX12_alike 5 = .ok (.aload_n 0, 1) := by decide +kernel
theorem dX12_alike_6 : decode cX12_alike 6 = .ok (.iload_n 1, 1) := by decide +kernel
theorem dX12_alike_7 : decode cX12_alike 7 = .ok (.invokevirtual 436, 3) := by decide +kernel
set_option maxRecDepth 20000 in
theorem ggX12_alike_X12_isShot : GoodIn wsX12_alike wsX12_isShot := goodIn_r _ [6, 7, 8, 9, 5, 10, 11, 12, 13, 14, 1, 37, 38, 39, 40, 41, 42, 43, 44, 45, 46, 47, 48, 49, 50, 51, 52, 53, 54, 55, 56, 57, 58, 59, 60, 61, 62, 63, 64, 65, 66, 67, 68, 69, 70, 71, 72, 73, 74, 75, 76, 77, 78, 79, 80, 81, 82, 83, 84, 85, 86, 87, 88, 89, 90, 91, 92, 93, 94, 95, 96, 97, 98, 99, 100, 101, 102, 103, 104, 105, 106, 107, 108, 109, 110, 111, 112, 113, 114, 115, 116, 117, 118, 119, 120, 121, 122, 123, 124, 125, 126, 127, 128, 129, 130, 131, 132, 133, 134, 135, 136, 137, 138, 139, 140, 141, 142, 143, 144, 145] (by decide +kernel) (by decide +kernel)
set_option maxRecDepth 20000 in
theorem gX12_alike_X12_isShot : GoodIn wsX12_alike (wsV RX12 436 RX12 yX12_isShot wsX12_isShot) := goodIn_app (goodIn_of _ (by decide +kernel)) ggX12_alike_X12_isShot
set_option maxHeartbeats 4000000 in
set_option maxRecDepth 100000 in
theorem c_X12_alike (l : Launch) (D : va_G) (cT : Nat → ClassId) (h0 : Nat) (p0 : Int32) (p1 : Int32) (p2 : Int32) (fs : List Value) (m_th : Int32) (sz : Nat) (hfs : fs.length = 109) (hfs_0 : fs[0]? = some (.int m_th)) (hfs_1 : fs[1]? = some (.int 0)) (hfs_38 : fs[38]? = some (.int 0)) : Met l yX12_alike wsX12_alike ({ frames := 10, cells := 0, slots := 0, locals := 280 }) (va_Pc [.ref h0, .int p0, .int p1, .int p2] (PW D cT [(h0, .inr (12, fs))] sz)) (va_Qi (fun (r : Int32) (_ : Unit) => True) (fun (_ : Unit) (t : State) => ∃ (gs : List Value), (gs.length = 109) ∧ (gs[0]? = some (.int 1)) ∧ va_P D vwCl [(h0, .inr (12, gs))] t.heap ∧ va_D (va_A [(h0, .inr (12, fs))] sz) [(h0, .inr (12, gs))]) (va_A [(h0, .inr (12, fs))] sz)) 0 0 (va_A [(h0, .inr (12, fs))] sz) := by
  refine Met.ofW (cc := cX12_alike) (maxL := 4) (ret := (some .boolean)) (by decide) rfl ?_
  intro p e s m args below meth c s₁ B hml hv
  obtain ⟨rfl, hsz, hP, hK, hD0, hG⟩ := hv
  have hx := B.exec
  have hb := B.bytes
  have hr := B.returns
  have hts := atoms_spec (ws := wsX12_alike) B.pre
  have hown : s.vm.findClass RX12 = some m.cls := findClass_of_methodNamed B.named
  have hlocks := B.notSynchronized
  subst hsz
  have hD := hD0.self (sz := s.heap.size)
  generalize hAe : va_A [(h0, .inr (12, fs))] s.heap.size = A at hD ⊢
  have hA : ∀ q : Nat, s.heap.size ≤ q → A q := fun q h => by rw [← hAe]; exact Or.inr h
  have hS : va_S A s.heap s.heap [] := va_S.rf
  have hP : va_P D vwCl [(h0, .inr (12, fs))] s.heap := hP
  have hl := lv_entry ([.ref h0, .int p0, .int p1, .int p2]) (n := 4) (Nat.le_of_ble_eq_true rfl)
  rw [lg_entry_eq]
  generalize (lg_sl ([.ref h0, .int p0, .int p1, .int p2]) ++ List.replicate (4 - (lg_sl ([.ref h0, .int p0, .int p1, .int p2])).length) Slot.unset).toArray = ls at hl ⊢
  have hl : lv_has ls 4 [(0, .ref h0), (1, .int p0), (2, .int p1), (3, .int p2)] := hl
  refine lv_aload_n hx hb dX12_alike_0 rfl (lv_at hl 0 rfl) ?_
  refine lv_iconst (v := 0) hx hb dX12_alike_1 (by decide) ?_
  refine va_put (D := D) (ci := 12) (v := .int 0) (ty := .int) (C := RX12) (T := TX12) (N := 109) hx hb hts (fun _ h => List.mem_cons_of_mem _ (List.mem_append_right _ h)) tyX12 tyX12_ok nmX12 hown hK hP hD hS 0 rfl rfl 0 (by decide) (hts (.fieldLink RX12 1 "PuppetFilmModel" "thrown" "I") (List.mem_of_getElem? (i := 1) (by decide +kernel))) (fun _ h9 => h9) rfl (by decide +kernel) rfl rfl (by simp only [List.length_set, hfs]; decide) dX12_alike_2 (fun H locs hP hD hS => ?_)
  have hP : va_P D vwCl [(h0, .inr (12, (fs.set 0 (.int 0))))] _ := hP
  have hD : va_D A [(h0, .inr (12, (fs.set 0 (.int 0))))] := hD
  refine lv_aload_n hx hb dX12_alike_5 rfl (lv_at hl 0 rfl) ?_
  refine lv_iload_n hx hb dX12_alike_6 rfl (lv_at hl 1 rfl) ?_
  have hF := va_free (wc := [(h0, .inr (12, (fs.set 0 (.int 0))))]) hD hS hA [0] rfl
  refine va_calli (va_runV (As := [.int p0]) (rest := []) ⟨hx, hb, hml, hown, hts⟩ (c_X12_isShot l D cT h0 p0 (fs.set 0 (.int 0)) _ (by simp only [List.length_set]; exact hfs) (List.getElem?_set_self (by simp only [List.length_set, hfs]; decide)) ((List.getElem?_set_ne (by decide)).trans (hfs_38))) (cwV 1 hts gX12_alike_X12_isShot rfl rfl rfl (by decide +kernel) ⟨Nat.le_of_ble_eq_true rfl, Nat.le_of_ble_eq_true rfl⟩) (pv_w hP hD hK hG [0] rfl rfl rfl 0 rfl rfl) rfl rfl hl.1 rfl (lv_room (Nat.le_of_ble_eq_true rfl)) dX12_alike_7 ⟨Nat.le_of_ble_eq_true rfl, Nat.le_of_ble_eq_true rfl⟩) hS (fun q _ h => hF q h) hF (fun r_1 uu9 tt9 H locs ht hvm wr_1 hB hz1 hk1 hS => ?_)
  obtain ⟨hP1, hD1⟩ := hB
  rw [ht] at hP1
  obtain ⟨hP, hD⟩ := va_join (wr := []) (w1 := [(h0, .inr (12, ((fs.set 0 (.int 0)).set 0 (.int 1))))]) hP hD [0] [] rfl rfl (by decide) (by decide) hk1 hF hP1 hD1
  have hP : va_P D vwCl [(h0, .inr (12, ((fs.set 0 (.int 0)).set 0 (.int 1))))] _ := hP
  have hD : va_D A [(h0, .inr (12, ((fs.set 0 (.int 0)).set 0 (.int 1))))] := hD
  obtain rfl : r_1 = 0 := wr_1.trans (rfl)
  refine lv_if_eq (tgt := 44) hx hb dX12_alike_10 (by decide) (fun _ => ?_) (fun c9 => absurd c9 (by decide))
  refine lv_iconst (v := 0) hx hb dX12_alike_44 (by decide) ?_
  have hP9 := hP.sub (ws' := [(h0, .inr (12, ((fs.set 0 (.int 0)).set 0 (.int 1))))]) [0] rfl
  have hD9 := hD.sub (ws' := [(h0, .inr (12, ((fs.set 0 (.int 0)).set 0 (.int 1))))]) [0] (by decide) rfl
  exact W.zret (v := 0) (ty := .boolean) hx hb hr rfl (fun t ht hW => ⟨⟨0, (), rfl, trivial, ⟨((fs.set 0 (.int 0)).set 0 (.int 1)), by simp only [List.length_set]; exact hfs, List.getElem?_set_self (by simp only [List.length_set, hfs]; decide), by rw [ht]; exact hP9, hD9⟩⟩, hS.F ht⟩) hS.2.2 dX12_alike_45
theorem dX12_swap_0 : decode cX12_swap 0 = .ok (.aload_n 0, 1) := by decide +kernel
theorem dX12_swap_1 : decode cX12_swap 1 = .ok (.iconst 0, 1) := by decide +kernel
theorem dX12_swap_10 : decode cX12_swap 10 = .ok (.ifCond .eq 21, 3) := by decide +kernel
theorem dX12_swap_2 : decode cX12_swap 2 = .ok (.putfield 1, 3) := by decide +kernel
theorem dX12_swap_31 : decode cX12_swap 31 = .ok (.iconst 0, 1) := by decide +kernel
theorem dX12_swap_32 : decode cX12_swap 32 = .ok (.ireturn, 1) := by decide +kernel
theorem dX12_swap_5 : decode cX12_swap 5 = .ok (.aload_n 0, 1) := by decide +kernel
theorem dX12_swap_6 : decode cX12_swap 6 = .ok (.iload_n 1, 1) := by decide +kernel
theorem dX12_swap_7 : decode cX12_swap 7 = .ok (.invokevirtual 436, 3) := by decide +kernel
set_option maxRecDepth 20000 in
theorem ggX12_swap_X12_isShot : GoodIn wsX12_swap wsX12_isShot := goodIn_r _ [16, 17, 18, 19, 15, 20, 21, 22, 23, 24, 1, 66, 67, 68, 69, 70, 71, 72, 73, 74, 75, 76, 77, 78, 79, 80, 81, 82, 83, 84, 85, 86, 87, 88, 89, 90, 91, 92, 93, 94, 95, 96, 97, 98, 99, 100, 101, 102, 103, 104, 105, 106, 107, 108, 109, 110, 111, 112, 113, 114, 115, 116, 117, 118, 119, 120, 121, 122, 123, 124, 125, 126, 127, 128, 129, 130, 131, 132, 133, 134, 135, 136, 137, 138, 139, 140, 141, 142, 143, 144, 145, 146, 147, 148, 149, 150, 151, 152, 153, 154, 155, 156, 157, 158, 159, 160, 161, 162, 163, 164, 165, 166, 167, 168, 169, 170, 171, 172, 173, 174] (by decide +kernel) (by decide +kernel)
set_option maxRecDepth 20000 in
theorem gX12_swap_X12_isShot : GoodIn wsX12_swap (wsV RX12 436 RX12 yX12_isShot wsX12_isShot) := goodIn_app (goodIn_of _ (by decide +kernel)) ggX12_swap_X12_isShot
set_option maxHeartbeats 4000000 in
set_option maxRecDepth 100000 in
theorem c_X12_swap (l : Launch) (D : va_G) (cT : Nat → ClassId) (h0 : Nat) (p0 : Int32) (p1 : Int32) (p2 : Int32) (fs : List Value) (m_th : Int32) (sz : Nat) (hfs : fs.length = 109) (hfs_0 : fs[0]? = some (.int m_th)) (hfs_1 : fs[1]? = some (.int 0)) (hfs_38 : fs[38]? = some (.int 0)) : Met l yX12_swap wsX12_swap ({ frames := 10, cells := 0, slots := 0, locals := 280 }) (va_Pc [.ref h0, .int p0, .int p1, .int p2] (PW D cT [(h0, .inr (12, fs))] sz)) (va_Qi (fun (r : Int32) (_ : Unit) => True) (fun (_ : Unit) (t : State) => ∃ (gs : List Value), (gs.length = 109) ∧ (gs[0]? = some (.int 1)) ∧ va_P D vwCl [(h0, .inr (12, gs))] t.heap ∧ va_D (va_A [(h0, .inr (12, fs))] sz) [(h0, .inr (12, gs))]) (va_A [(h0, .inr (12, fs))] sz)) 0 0 (va_A [(h0, .inr (12, fs))] sz) := by
  refine Met.ofW (cc := cX12_swap) (maxL := 9) (ret := (some .int)) (by decide) rfl ?_
  intro p e s m args below meth c s₁ B hml hv
  obtain ⟨rfl, hsz, hP, hK, hD0, hG⟩ := hv
  have hx := B.exec
  have hb := B.bytes
  have hr := B.returns
  have hts := atoms_spec (ws := wsX12_swap) B.pre
  have hown : s.vm.findClass RX12 = some m.cls := findClass_of_methodNamed B.named
  have hlocks := B.notSynchronized
  subst hsz
  have hD := hD0.self (sz := s.heap.size)
  generalize hAe : va_A [(h0, .inr (12, fs))] s.heap.size = A at hD ⊢
  have hA : ∀ q : Nat, s.heap.size ≤ q → A q := fun q h => by rw [← hAe]; exact Or.inr h
  have hS : va_S A s.heap s.heap [] := va_S.rf
  have hP : va_P D vwCl [(h0, .inr (12, fs))] s.heap := hP
  have hl := lv_entry ([.ref h0, .int p0, .int p1, .int p2]) (n := 9) (Nat.le_of_ble_eq_true rfl)
  rw [lg_entry_eq]
  generalize (lg_sl ([.ref h0, .int p0, .int p1, .int p2]) ++ List.replicate (9 - (lg_sl ([.ref h0, .int p0, .int p1, .int p2])).length) Slot.unset).toArray = ls at hl ⊢
  have hl : lv_has ls 9 [(0, .ref h0), (1, .int p0), (2, .int p1), (3, .int p2)] := hl
  refine lv_aload_n hx hb dX12_swap_0 rfl (lv_at hl 0 rfl) ?_
  refine lv_iconst (v := 0) hx hb dX12_swap_1 (by decide) ?_
  refine va_put (D := D) (ci := 12) (v := .int 0) (ty := .int) (C := RX12) (T := TX12) (N := 109) hx hb hts (fun _ h => List.mem_cons_of_mem _ (List.mem_append_right _ h)) tyX12 tyX12_ok nmX12 hown hK hP hD hS 0 rfl rfl 0 (by decide) (hts (.fieldLink RX12 1 "PuppetFilmModel" "thrown" "I") (List.mem_of_getElem? (i := 1) (by decide +kernel))) (fun _ h9 => h9) rfl (by decide +kernel) rfl rfl (by simp only [List.length_set, hfs]; decide) dX12_swap_2 (fun H locs hP hD hS => ?_)
  have hP : va_P D vwCl [(h0, .inr (12, (fs.set 0 (.int 0))))] _ := hP
  have hD : va_D A [(h0, .inr (12, (fs.set 0 (.int 0))))] := hD
  refine lv_aload_n hx hb dX12_swap_5 rfl (lv_at hl 0 rfl) ?_
  refine lv_iload_n hx hb dX12_swap_6 rfl (lv_at hl 1 rfl) ?_
  have hF := va_free (wc := [(h0, .inr (12, (fs.set 0 (.int 0))))]) hD hS hA [0] rfl
  refine va_calli (va_runV (As := [.int p0]) (rest := []) ⟨hx, hb, hml, hown, hts⟩ (c_X12_isShot l D cT h0 p0 (fs.set 0 (.int 0)) _ (by simp only [List.length_set]; exact hfs) (List.getElem?_set_self (by simp only [List.length_set, hfs]; decide)) ((List.getElem?_set_ne (by decide)).trans (hfs_38))) (cwV 1 hts gX12_swap_X12_isShot rfl rfl rfl (by decide +kernel) ⟨Nat.le_of_ble_eq_true rfl, Nat.le_of_ble_eq_true rfl⟩) (pv_w hP hD hK hG [0] rfl rfl rfl 0 rfl rfl) rfl rfl hl.1 rfl (lv_room (Nat.le_of_ble_eq_true rfl)) dX12_swap_7 ⟨Nat.le_of_ble_eq_true rfl, Nat.le_of_ble_eq_true rfl⟩) hS (fun q _ h => hF q h) hF (fun r_1 uu9 tt9 H locs ht hvm wr_1 hB hz1 hk1 hS => ?_)
  obtain ⟨hP1, hD1⟩ := hB
  rw [ht] at hP1
  obtain ⟨hP, hD⟩ := va_join (wr := []) (w1 := [(h0, .inr (12, ((fs.set 0 (.int 0)).set 0 (.int 1))))]) hP hD [0] [] rfl rfl (by decide) (by decide) hk1 hF hP1 hD1
  have hP : va_P D vwCl [(h0, .inr (12, ((fs.set 0 (.int 0)).set 0 (.int 1))))] _ := hP
  have hD : va_D A [(h0, .inr (12, ((fs.set 0 (.int 0)).set 0 (.int 1))))] := hD
  obtain rfl : r_1 = 0 := wr_1.trans (rfl)
  refine lv_if_eq (tgt := 31) hx hb dX12_swap_10 (by decide) (fun _ => ?_) (fun c9 => absurd c9 (by decide))
  refine lv_iconst (v := 0) hx hb dX12_swap_31 (by decide) ?_
  have hP9 := hP.sub (ws' := [(h0, .inr (12, ((fs.set 0 (.int 0)).set 0 (.int 1))))]) [0] rfl
  have hD9 := hD.sub (ws' := [(h0, .inr (12, ((fs.set 0 (.int 0)).set 0 (.int 1))))]) [0] (by decide) rfl
  exact W.iret (v := 0) hx hb hr (fun t ht hW => ⟨⟨0, (), rfl, trivial, ⟨((fs.set 0 (.int 0)).set 0 (.int 1)), by simp only [List.length_set]; exact hfs, List.getElem?_set_self (by simp only [List.length_set, hfs]; decide), by rw [ht]; exact hP9, hD9⟩⟩, hS.F ht⟩) hS.2.2 dX12_swap_32
theorem dX12_lasts_0 : decode cX12_lasts 0 = .ok (.aload_n 0, 1) := by decide +kernel
theorem dX12_lasts_1 : decode cX12_lasts 1 = .ok (.iconst 0, 1) := by decide +kernel
theorem dX12_lasts_10 : decode cX12_lasts 10 = .ok (.ifCond .eq 17, 3) := by decide +kernel
theorem dX12_lasts_2 : decode cX12_lasts 2 = .ok (.putfield 1, 3) := by decide +kernel
theorem dX12_lasts_27 : decode cX12_lasts 27 = .ok (.iconst 0, 1) := by decide +kernel
theorem dX12_lasts_28 : decode cX12_lasts 28 = .ok (.ireturn, 1) := by decide +kernel
theorem dX12_lasts_5 : decode cX12_lasts 5 = .ok (.aload_n 0, 1) := by decide +kernel
theorem dX12_lasts_6 : decode cX12_lasts 6 = .ok (.iload_n 1, 1) := by decide +kernel
theorem dX12_lasts_7 : decode cX12_lasts 7 = .ok (.invokevirtual 436, 3) := by decide +kernel
set_option maxRecDepth 20000 in
theorem ggX12_lasts_X12_isShot : GoodIn wsX12_lasts wsX12_isShot := goodIn_r _ [6, 7, 8, 9, 5, 10, 11, 12, 13, 14, 1, 25, 26, 27, 28, 29, 30, 31, 32, 33, 34, 35, 36, 37, 38, 39, 40, 41, 42, 43, 44, 45, 46, 47, 48, 49, 50, 51, 52, 53, 54, 55, 56, 57, 58, 59, 60, 61, 62, 63, 64, 65, 66, 67, 68, 69, 70, 71, 72, 73, 74, 75, 76, 77, 78, 79, 80, 81, 82, 83, 84, 85, 86, 87, 88, 89, 90, 91, 92, 93, 94, 95, 96, 97, 98, 99, 100, 101, 102, 103, 104, 105, 106, 107, 108, 109, 110, 111, 112, 113, 114, 115, 116, 117, 118, 119, 120, 121, 122, 123, 124, 125, 126, 127, 128, 129, 130, 131, 132, 133] (by decide +kernel) (by decide +kernel)
set_option maxRecDepth 20000 in
theorem gX12_lasts_X12_isShot : GoodIn wsX12_lasts (wsV RX12 436 RX12 yX12_isShot wsX12_isShot) := goodIn_app (goodIn_of _ (by decide +kernel)) ggX12_lasts_X12_isShot
set_option maxHeartbeats 4000000 in
set_option maxRecDepth 100000 in
theorem c_X12_lasts (l : Launch) (D : va_G) (cT : Nat → ClassId) (h0 : Nat) (p0 : Int32) (p1 : Int32) (fs : List Value) (m_th : Int32) (sz : Nat) (hfs : fs.length = 109) (hfs_0 : fs[0]? = some (.int m_th)) (hfs_1 : fs[1]? = some (.int 0)) (hfs_38 : fs[38]? = some (.int 0)) : Met l yX12_lasts wsX12_lasts ({ frames := 10, cells := 0, slots := 0, locals := 280 }) (va_Pc [.ref h0, .int p0, .int p1] (PW D cT [(h0, .inr (12, fs))] sz)) (va_Qi (fun (r : Int32) (_ : Unit) => True) (fun (_ : Unit) (t : State) => ∃ (gs : List Value), (gs.length = 109) ∧ (gs[0]? = some (.int 1)) ∧ va_P D vwCl [(h0, .inr (12, gs))] t.heap ∧ va_D (va_A [(h0, .inr (12, fs))] sz) [(h0, .inr (12, gs))]) (va_A [(h0, .inr (12, fs))] sz)) 0 0 (va_A [(h0, .inr (12, fs))] sz) := by
  refine Met.ofW (cc := cX12_lasts) (maxL := 3) (ret := (some .int)) (by decide) rfl ?_
  intro p e s m args below meth c s₁ B hml hv
  obtain ⟨rfl, hsz, hP, hK, hD0, hG⟩ := hv
  have hx := B.exec
  have hb := B.bytes
  have hr := B.returns
  have hts := atoms_spec (ws := wsX12_lasts) B.pre
  have hown : s.vm.findClass RX12 = some m.cls := findClass_of_methodNamed B.named
  have hlocks := B.notSynchronized
  subst hsz
  have hD := hD0.self (sz := s.heap.size)
  generalize hAe : va_A [(h0, .inr (12, fs))] s.heap.size = A at hD ⊢
  have hA : ∀ q : Nat, s.heap.size ≤ q → A q := fun q h => by rw [← hAe]; exact Or.inr h
  have hS : va_S A s.heap s.heap [] := va_S.rf
  have hP : va_P D vwCl [(h0, .inr (12, fs))] s.heap := hP
  have hl := lv_entry ([.ref h0, .int p0, .int p1]) (n := 3) (Nat.le_of_ble_eq_true rfl)
  rw [lg_entry_eq]
  generalize (lg_sl ([.ref h0, .int p0, .int p1]) ++ List.replicate (3 - (lg_sl ([.ref h0, .int p0, .int p1])).length) Slot.unset).toArray = ls at hl ⊢
  have hl : lv_has ls 3 [(0, .ref h0), (1, .int p0), (2, .int p1)] := hl
  refine lv_aload_n hx hb dX12_lasts_0 rfl (lv_at hl 0 rfl) ?_
  refine lv_iconst (v := 0) hx hb dX12_lasts_1 (by decide) ?_
  refine va_put (D := D) (ci := 12) (v := .int 0) (ty := .int) (C := RX12) (T := TX12) (N := 109) hx hb hts (fun _ h => List.mem_cons_of_mem _ (List.mem_append_right _ h)) tyX12 tyX12_ok nmX12 hown hK hP hD hS 0 rfl rfl 0 (by decide) (hts (.fieldLink RX12 1 "PuppetFilmModel" "thrown" "I") (List.mem_of_getElem? (i := 1) (by decide +kernel))) (fun _ h9 => h9) rfl (by decide +kernel) rfl rfl (by simp only [List.length_set, hfs]; decide) dX12_lasts_2 (fun H locs hP hD hS => ?_)
  have hP : va_P D vwCl [(h0, .inr (12, (fs.set 0 (.int 0))))] _ := hP
  have hD : va_D A [(h0, .inr (12, (fs.set 0 (.int 0))))] := hD
  refine lv_aload_n hx hb dX12_lasts_5 rfl (lv_at hl 0 rfl) ?_
  refine lv_iload_n hx hb dX12_lasts_6 rfl (lv_at hl 1 rfl) ?_
  have hF := va_free (wc := [(h0, .inr (12, (fs.set 0 (.int 0))))]) hD hS hA [0] rfl
  refine va_calli (va_runV (As := [.int p0]) (rest := []) ⟨hx, hb, hml, hown, hts⟩ (c_X12_isShot l D cT h0 p0 (fs.set 0 (.int 0)) _ (by simp only [List.length_set]; exact hfs) (List.getElem?_set_self (by simp only [List.length_set, hfs]; decide)) ((List.getElem?_set_ne (by decide)).trans (hfs_38))) (cwV 1 hts gX12_lasts_X12_isShot rfl rfl rfl (by decide +kernel) ⟨Nat.le_of_ble_eq_true rfl, Nat.le_of_ble_eq_true rfl⟩) (pv_w hP hD hK hG [0] rfl rfl rfl 0 rfl rfl) rfl rfl hl.1 rfl (lv_room (Nat.le_of_ble_eq_true rfl)) dX12_lasts_7 ⟨Nat.le_of_ble_eq_true rfl, Nat.le_of_ble_eq_true rfl⟩) hS (fun q _ h => hF q h) hF (fun r_1 uu9 tt9 H locs ht hvm wr_1 hB hz1 hk1 hS => ?_)
  obtain ⟨hP1, hD1⟩ := hB
  rw [ht] at hP1
  obtain ⟨hP, hD⟩ := va_join (wr := []) (w1 := [(h0, .inr (12, ((fs.set 0 (.int 0)).set 0 (.int 1))))]) hP hD [0] [] rfl rfl (by decide) (by decide) hk1 hF hP1 hD1
  have hP : va_P D vwCl [(h0, .inr (12, ((fs.set 0 (.int 0)).set 0 (.int 1))))] _ := hP
  have hD : va_D A [(h0, .inr (12, ((fs.set 0 (.int 0)).set 0 (.int 1))))] := hD
  obtain rfl : r_1 = 0 := wr_1.trans (rfl)
  refine lv_if_eq (tgt := 27) hx hb dX12_lasts_10 (by decide) (fun _ => ?_) (fun c9 => absurd c9 (by decide))
  refine lv_iconst (v := 0) hx hb dX12_lasts_27 (by decide) ?_
  have hP9 := hP.sub (ws' := [(h0, .inr (12, ((fs.set 0 (.int 0)).set 0 (.int 1))))]) [0] rfl
  have hD9 := hD.sub (ws' := [(h0, .inr (12, ((fs.set 0 (.int 0)).set 0 (.int 1))))]) [0] (by decide) rfl
  exact W.iret (v := 0) hx hb hr (fun t ht hW => ⟨⟨0, (), rfl, trivial, ⟨((fs.set 0 (.int 0)).set 0 (.int 1)), by simp only [List.length_set]; exact hfs, List.getElem?_set_self (by simp only [List.length_set, hfs]; decide), by rw [ht]; exact hP9, hD9⟩⟩, hS.F ht⟩) hS.2.2 dX12_lasts_28
theorem dX12_clash_0 : decode cX12_clash 0 = .ok (.aload_n 0, 1) := by decide +kernel
theorem dX12_clash_1 : decode cX12_clash 1 = .ok (.iconst 0, 1) := by decide +kernel
theorem dX12_clash_10 : decode cX12_clash 10 = .ok (.ifCond .eq 11, 3) := by decide +kernel
theorem dX12_clash_2 : decode cX12_clash 2 = .ok (.putfield 1, 3) := by decide +kernel
theorem dX12_clash_21 : decode cX12_clash 21 = .ok (.iconst 0, 1) := by decide +kernel
theorem dX12_clash_22 : decode cX12_clash 22 = .ok (.ireturn, 1) := by decide +kernel
theorem dX12_clash_5 : decode cX12_clash 5 = .ok (.aload_n 0, 1) := by decide +kernel
theorem dX12_clash_6 : decode cX12_clash 6 = .ok (.iload_n 1, 1) := by decide +kernel
theorem dX12_clash_7 : decode cX12_clash 7 = .ok (.invokevirtual 436, 3) := by decide +kernel
set_option maxRecDepth 20000 in
theorem ggX12_clash_X12_isShot : GoodIn wsX12_clash wsX12_isShot := goodIn_r _ [6, 7, 8, 9, 5, 10, 11, 12, 13, 14, 1, 27, 28, 29, 30, 31, 32, 33, 34, 35, 36, 37, 38, 39, 40, 41, 42, 43, 44, 45, 46, 47, 48, 49, 50, 51, 52, 53, 54, 55, 56, 57, 58, 59, 60, 61, 62, 63, 64, 65, 66, 67, 68, 69, 70, 71, 72, 73, 74, 75, 76, 77, 78, 79, 80, 81, 82, 83, 84, 85, 86, 87, 88, 89, 90, 91, 92, 93, 94, 95, 96, 97, 98, 99, 100, 101, 102, 103, 104, 105, 106, 107, 108, 109, 110, 111, 112, 113, 114, 115, 116, 117, 118, 119, 120, 121, 122, 123, 124, 125, 126, 127, 128, 129, 130, 131, 132, 133, 134, 135] (by decide +kernel) (by decide +kernel)
set_option maxRecDepth 20000 in
theorem gX12_clash_X12_isShot : GoodIn wsX12_clash (wsV RX12 436 RX12 yX12_isShot wsX12_isShot) := goodIn_app (goodIn_of _ (by decide +kernel)) ggX12_clash_X12_isShot
set_option maxHeartbeats 4000000 in
set_option maxRecDepth 100000 in
theorem c_X12_clash (l : Launch) (D : va_G) (cT : Nat → ClassId) (h0 : Nat) (p0 : Int32) (p1 : Int32) (fs : List Value) (m_th : Int32) (sz : Nat) (hfs : fs.length = 109) (hfs_0 : fs[0]? = some (.int m_th)) (hfs_1 : fs[1]? = some (.int 0)) (hfs_38 : fs[38]? = some (.int 0)) : Met l yX12_clash wsX12_clash ({ frames := 10, cells := 0, slots := 0, locals := 280 }) (va_Pc [.ref h0, .int p0, .int p1] (PW D cT [(h0, .inr (12, fs))] sz)) (va_Qi (fun (r : Int32) (_ : Unit) => True) (fun (_ : Unit) (t : State) => ∃ (gs : List Value), (gs.length = 109) ∧ (gs[0]? = some (.int 1)) ∧ va_P D vwCl [(h0, .inr (12, gs))] t.heap ∧ va_D (va_A [(h0, .inr (12, fs))] sz) [(h0, .inr (12, gs))]) (va_A [(h0, .inr (12, fs))] sz)) 0 0 (va_A [(h0, .inr (12, fs))] sz) := by
  refine Met.ofW (cc := cX12_clash) (maxL := 3) (ret := (some .boolean)) (by decide) rfl ?_
  intro p e s m args below meth c s₁ B hml hv
  obtain ⟨rfl, hsz, hP, hK, hD0, hG⟩ := hv
  have hx := B.exec
  have hb := B.bytes
  have hr := B.returns
  have hts := atoms_spec (ws := wsX12_clash) B.pre
  have hown : s.vm.findClass RX12 = some m.cls := findClass_of_methodNamed B.named
  have hlocks := B.notSynchronized
  subst hsz
  have hD := hD0.self (sz := s.heap.size)
  generalize hAe : va_A [(h0, .inr (12, fs))] s.heap.size = A at hD ⊢
  have hA : ∀ q : Nat, s.heap.size ≤ q → A q := fun q h => by rw [← hAe]; exact Or.inr h
  have hS : va_S A s.heap s.heap [] := va_S.rf
  have hP : va_P D vwCl [(h0, .inr (12, fs))] s.heap := hP
  have hl := lv_entry ([.ref h0, .int p0, .int p1]) (n := 3) (Nat.le_of_ble_eq_true rfl)
  rw [lg_entry_eq]
  generalize (lg_sl ([.ref h0, .int p0, .int p1]) ++ List.replicate (3 - (lg_sl ([.ref h0, .int p0, .int p1])).length) Slot.unset).toArray = ls at hl ⊢
  have hl : lv_has ls 3 [(0, .ref h0), (1, .int p0), (2, .int p1)] := hl
  refine lv_aload_n hx hb dX12_clash_0 rfl (lv_at hl 0 rfl) ?_
  refine lv_iconst (v := 0) hx hb dX12_clash_1 (by decide) ?_
  refine va_put (D := D) (ci := 12) (v := .int 0) (ty := .int) (C := RX12) (T := TX12) (N := 109) hx hb hts (fun _ h => List.mem_cons_of_mem _ (List.mem_append_right _ h)) tyX12 tyX12_ok nmX12 hown hK hP hD hS 0 rfl rfl 0 (by decide) (hts (.fieldLink RX12 1 "PuppetFilmModel" "thrown" "I") (List.mem_of_getElem? (i := 1) (by decide +kernel))) (fun _ h9 => h9) rfl (by decide +kernel) rfl rfl (by simp only [List.length_set, hfs]; decide) dX12_clash_2 (fun H locs hP hD hS => ?_)
  have hP : va_P D vwCl [(h0, .inr (12, (fs.set 0 (.int 0))))] _ := hP
  have hD : va_D A [(h0, .inr (12, (fs.set 0 (.int 0))))] := hD
  refine lv_aload_n hx hb dX12_clash_5 rfl (lv_at hl 0 rfl) ?_
  refine lv_iload_n hx hb dX12_clash_6 rfl (lv_at hl 1 rfl) ?_
  have hF := va_free (wc := [(h0, .inr (12, (fs.set 0 (.int 0))))]) hD hS hA [0] rfl
  refine va_calli (va_runV (As := [.int p0]) (rest := []) ⟨hx, hb, hml, hown, hts⟩ (c_X12_isShot l D cT h0 p0 (fs.set 0 (.int 0)) _ (by simp only [List.length_set]; exact hfs) (List.getElem?_set_self (by simp only [List.length_set, hfs]; decide)) ((List.getElem?_set_ne (by decide)).trans (hfs_38))) (cwV 1 hts gX12_clash_X12_isShot rfl rfl rfl (by decide +kernel) ⟨Nat.le_of_ble_eq_true rfl, Nat.le_of_ble_eq_true rfl⟩) (pv_w hP hD hK hG [0] rfl rfl rfl 0 rfl rfl) rfl rfl hl.1 rfl (lv_room (Nat.le_of_ble_eq_true rfl)) dX12_clash_7 ⟨Nat.le_of_ble_eq_true rfl, Nat.le_of_ble_eq_true rfl⟩) hS (fun q _ h => hF q h) hF (fun r_1 uu9 tt9 H locs ht hvm wr_1 hB hz1 hk1 hS => ?_)
  obtain ⟨hP1, hD1⟩ := hB
  rw [ht] at hP1
  obtain ⟨hP, hD⟩ := va_join (wr := []) (w1 := [(h0, .inr (12, ((fs.set 0 (.int 0)).set 0 (.int 1))))]) hP hD [0] [] rfl rfl (by decide) (by decide) hk1 hF hP1 hD1
  have hP : va_P D vwCl [(h0, .inr (12, ((fs.set 0 (.int 0)).set 0 (.int 1))))] _ := hP
  have hD : va_D A [(h0, .inr (12, ((fs.set 0 (.int 0)).set 0 (.int 1))))] := hD
  obtain rfl : r_1 = 0 := wr_1.trans (rfl)
  refine lv_if_eq (tgt := 21) hx hb dX12_clash_10 (by decide) (fun _ => ?_) (fun c9 => absurd c9 (by decide))
  refine lv_iconst (v := 0) hx hb dX12_clash_21 (by decide) ?_
  have hP9 := hP.sub (ws' := [(h0, .inr (12, ((fs.set 0 (.int 0)).set 0 (.int 1))))]) [0] rfl
  have hD9 := hD.sub (ws' := [(h0, .inr (12, ((fs.set 0 (.int 0)).set 0 (.int 1))))]) [0] (by decide) rfl
  exact W.zret (v := 0) (ty := .boolean) hx hb hr rfl (fun t ht hW => ⟨⟨0, (), rfl, trivial, ⟨((fs.set 0 (.int 0)).set 0 (.int 1)), by simp only [List.length_set]; exact hfs, List.getElem?_set_self (by simp only [List.length_set, hfs]; decide), by rw [ht]; exact hP9, hD9⟩⟩, hS.F ht⟩) hS.2.2 dX12_clash_22
theorem dX12_row_0 : decode cX12_row 0 = .ok (.aload_n 0, 1) := by decide +kernel
theorem dX12_row_1 : decode cX12_row 1 = .ok (.iconst 0, 1) := by decide +kernel
theorem dX12_row_10 : decode cX12_row 10 = .ok (.ifCond .eq 36, 3) := by decide +kernel
theorem dX12_row_2 : decode cX12_row 2 = .ok (.putfield 1, 3) := by decide +kernel
theorem dX12_row_46 : decode cX12_row 46 = .ok (.iconst 0, 1) := by decide +kernel
theorem dX12_row_47 : decode cX12_row 47 = .ok (.ireturn, 1) := by decide +kernel
theorem dX12_row_5 : decode cX12_row 5 = .ok (.aload_n 0, 1) := by decide +kernel
theorem dX12_row_6 : decode cX12_row 6 = .ok (.iload_n 1, 1) := by decide +kernel
theorem dX12_row_7 : decode cX12_row 7 = .ok (.invokevirtual 436, 3) := by decide +kernel
set_option maxRecDepth 20000 in
theorem ggX12_row_X12_isShot : GoodIn wsX12_row wsX12_isShot := goodIn_r _ [11, 12, 13, 14, 10, 15, 16, 17, 18, 19, 1, 20, 21, 22, 23, 24, 25, 26, 27, 28, 29, 30, 31, 32, 33, 34, 35, 36, 37, 38, 39, 40, 41, 42, 43, 44, 45, 46, 47, 48, 49, 50, 51, 52, 53, 54, 55, 56, 57, 58, 59, 60, 61, 62, 63, 64, 65, 66, 67, 68, 69, 70, 71, 72, 73, 74, 75, 76, 77, 78, 79, 80, 81, 82, 83, 84, 85, 86, 87, 88, 89, 90, 91, 92, 93, 94, 95, 96, 97, 98, 99, 100, 101, 102, 103, 104, 105, 106, 107, 108, 109, 110, 111, 112, 113, 114, 115, 116, 117, 118, 119, 120, 121, 122, 123, 124, 125, 126, 127, 128] (by decide +kernel) (by decide +kernel)
set_option maxRecDepth 20000 in
theorem gX12_row_X12_isShot : GoodIn wsX12_row (wsV RX12 436 RX12 yX12_isShot wsX12_isShot) := goodIn_app (goodIn_of _ (by decide +kernel)) ggX12_row_X12_isShot
set_option maxHeartbeats 4000000 in
set_option maxRecDepth 100000 in
theorem c_X12_row (l : Launch) (D : va_G) (cT : Nat → ClassId) (h0 : Nat) (p0 : Int32) (p1 : Int32) (p2 : Int32) (fs : List Value) (m_th : Int32) (sz : Nat) (hfs : fs.length = 109) (hfs_0 : fs[0]? = some (.int m_th)) (hfs_1 : fs[1]? = some (.int 0)) (hfs_38 : fs[38]? = some (.int 0)) : Met l yX12_row wsX12_row ({ frames := 10, cells := 0, slots := 0, locals := 280 }) (va_Pc [.ref h0, .int p0, .int p1, .int p2] (PW D cT [(h0, .inr (12, fs))] sz)) (va_Qi (fun (r : Int32) (_ : Unit) => True) (fun (_ : Unit) (t : State) => ∃ (gs : List Value), (gs.length = 109) ∧ (gs[0]? = some (.int 1)) ∧ va_P D vwCl [(h0, .inr (12, gs))] t.heap ∧ va_D (va_A [(h0, .inr (12, fs))] sz) [(h0, .inr (12, gs))]) (va_A [(h0, .inr (12, fs))] sz)) 0 0 (va_A [(h0, .inr (12, fs))] sz) := by
  refine Met.ofW (cc := cX12_row) (maxL := 4) (ret := (some .int)) (by decide) rfl ?_
  intro p e s m args below meth c s₁ B hml hv
  obtain ⟨rfl, hsz, hP, hK, hD0, hG⟩ := hv
  have hx := B.exec
  have hb := B.bytes
  have hr := B.returns
  have hts := atoms_spec (ws := wsX12_row) B.pre
  have hown : s.vm.findClass RX12 = some m.cls := findClass_of_methodNamed B.named
  have hlocks := B.notSynchronized
  subst hsz
  have hD := hD0.self (sz := s.heap.size)
  generalize hAe : va_A [(h0, .inr (12, fs))] s.heap.size = A at hD ⊢
  have hA : ∀ q : Nat, s.heap.size ≤ q → A q := fun q h => by rw [← hAe]; exact Or.inr h
  have hS : va_S A s.heap s.heap [] := va_S.rf
  have hP : va_P D vwCl [(h0, .inr (12, fs))] s.heap := hP
  have hl := lv_entry ([.ref h0, .int p0, .int p1, .int p2]) (n := 4) (Nat.le_of_ble_eq_true rfl)
  rw [lg_entry_eq]
  generalize (lg_sl ([.ref h0, .int p0, .int p1, .int p2]) ++ List.replicate (4 - (lg_sl ([.ref h0, .int p0, .int p1, .int p2])).length) Slot.unset).toArray = ls at hl ⊢
  have hl : lv_has ls 4 [(0, .ref h0), (1, .int p0), (2, .int p1), (3, .int p2)] := hl
  refine lv_aload_n hx hb dX12_row_0 rfl (lv_at hl 0 rfl) ?_
  refine lv_iconst (v := 0) hx hb dX12_row_1 (by decide) ?_
  refine va_put (D := D) (ci := 12) (v := .int 0) (ty := .int) (C := RX12) (T := TX12) (N := 109) hx hb hts (fun _ h => List.mem_cons_of_mem _ (List.mem_append_right _ h)) tyX12 tyX12_ok nmX12 hown hK hP hD hS 0 rfl rfl 0 (by decide) (hts (.fieldLink RX12 1 "PuppetFilmModel" "thrown" "I") (List.mem_of_getElem? (i := 1) (by decide +kernel))) (fun _ h9 => h9) rfl (by decide +kernel) rfl rfl (by simp only [List.length_set, hfs]; decide) dX12_row_2 (fun H locs hP hD hS => ?_)
  have hP : va_P D vwCl [(h0, .inr (12, (fs.set 0 (.int 0))))] _ := hP
  have hD : va_D A [(h0, .inr (12, (fs.set 0 (.int 0))))] := hD
  refine lv_aload_n hx hb dX12_row_5 rfl (lv_at hl 0 rfl) ?_
  refine lv_iload_n hx hb dX12_row_6 rfl (lv_at hl 1 rfl) ?_
  have hF := va_free (wc := [(h0, .inr (12, (fs.set 0 (.int 0))))]) hD hS hA [0] rfl
  refine va_calli (va_runV (As := [.int p0]) (rest := []) ⟨hx, hb, hml, hown, hts⟩ (c_X12_isShot l D cT h0 p0 (fs.set 0 (.int 0)) _ (by simp only [List.length_set]; exact hfs) (List.getElem?_set_self (by simp only [List.length_set, hfs]; decide)) ((List.getElem?_set_ne (by decide)).trans (hfs_38))) (cwV 1 hts gX12_row_X12_isShot rfl rfl rfl (by decide +kernel) ⟨Nat.le_of_ble_eq_true rfl, Nat.le_of_ble_eq_true rfl⟩) (pv_w hP hD hK hG [0] rfl rfl rfl 0 rfl rfl) rfl rfl hl.1 rfl (lv_room (Nat.le_of_ble_eq_true rfl)) dX12_row_7 ⟨Nat.le_of_ble_eq_true rfl, Nat.le_of_ble_eq_true rfl⟩) hS (fun q _ h => hF q h) hF (fun r_1 uu9 tt9 H locs ht hvm wr_1 hB hz1 hk1 hS => ?_)
  obtain ⟨hP1, hD1⟩ := hB
  rw [ht] at hP1
  obtain ⟨hP, hD⟩ := va_join (wr := []) (w1 := [(h0, .inr (12, ((fs.set 0 (.int 0)).set 0 (.int 1))))]) hP hD [0] [] rfl rfl (by decide) (by decide) hk1 hF hP1 hD1
  have hP : va_P D vwCl [(h0, .inr (12, ((fs.set 0 (.int 0)).set 0 (.int 1))))] _ := hP
  have hD : va_D A [(h0, .inr (12, ((fs.set 0 (.int 0)).set 0 (.int 1))))] := hD
  obtain rfl : r_1 = 0 := wr_1.trans (rfl)
  refine lv_if_eq (tgt := 46) hx hb dX12_row_10 (by decide) (fun _ => ?_) (fun c9 => absurd c9 (by decide))
  refine lv_iconst (v := 0) hx hb dX12_row_46 (by decide) ?_
  have hP9 := hP.sub (ws' := [(h0, .inr (12, ((fs.set 0 (.int 0)).set 0 (.int 1))))]) [0] rfl
  have hD9 := hD.sub (ws' := [(h0, .inr (12, ((fs.set 0 (.int 0)).set 0 (.int 1))))]) [0] (by decide) rfl
  exact W.iret (v := 0) hx hb hr (fun t ht hW => ⟨⟨0, (), rfl, trivial, ⟨((fs.set 0 (.int 0)).set 0 (.int 1)), by simp only [List.length_set]; exact hfs, List.getElem?_set_self (by simp only [List.length_set, hfs]; decide), by rw [ht]; exact hP9, hD9⟩⟩, hS.F ht⟩) hS.2.2 dX12_row_47
theorem dX12_bump_0 : decode cX12_bump 0 = .ok (.aload_n 0, 1) := by decide +kernel
theorem dX12_bump_1 : decode cX12_bump 1 = .ok (.iconst 0, 1) := by decide +kernel
theorem dX12_bump_10 : decode cX12_bump 10 = .ok (.ifCond .eq 51, 3) := by decide +kernel
theorem dX12_bump_2 : decode cX12_bump 2 = .ok (.putfield 1, 3) := by decide +kernel
theorem dX12_bump_5 : decode cX12_bump 5 = .ok (.aload_n 0, 1) := by decide +kernel
theorem dX12_bump_6 : decode cX12_bump 6 = .ok (.iload_n 1, 1) := by decide +kernel
theorem dX12_bump_61 : decode cX12_bump 61 = .ok (.iconst 0, 1) := by decide +kernel
theorem dX12_bump_62 : decode cX12_bump 62 = .ok (.ireturn, 1) := by decide +kernel
theorem dX12_bump_7 : decode cX12_bump 7 = .ok (.invokevirtual 436, 3) := by decide +kernel
set_option maxRecDepth 20000 in
theorem ggX12_bump_X12_isShot : GoodIn wsX12_bump wsX12_isShot := goodIn_r _ [10, 11, 12, 13, 9, 14, 15, 16, 17, 18, 1, 43, 44, 45, 46, 47, 48, 49, 50, 51, 52, 53, 54, 55, 56, 57, 58, 59, 60, 61, 62, 63, 64, 65, 66, 67, 68, 69, 70, 71, 72, 73, 74, 75, 76, 77, 78, 79, 80, 81, 82, 83, 84, 85, 86, 87, 88, 89, 90, 91, 92, 93, 94, 95, 96, 97, 98, 99, 100, 101, 102, 103, 104, 105, 106, 107, 108, 109, 110, 111, 112, 113, 114, 115, 116, 117, 118, 119, 120, 121, 122, 123, 124, 125, 126, 127, 128, 129, 130, 131, 132, 133, 134, 135, 136, 137, 138, 139, 140, 141, 142, 143, 144, 145, 146, 147, 148, 149, 150, 151] (by decide +kernel) (by decide +kernel)
set_option maxRecDepth 20000 in
theorem gX12_bump_X12_isShot : GoodIn wsX12_bump (wsV RX12 436 RX12 yX12_isShot wsX12_isShot) := goodIn_app (goodIn_of _ (by decide +kernel)) ggX12_bump_X12_isShot
set_option maxHeartbeats 4000000 in
set_option maxRecDepth 100000 in
theorem c_X12_bump (l : Launch) (D : va_G) (cT : Nat → ClassId) (h0 : Nat) (p0 : Int32) (p1 : Int32) (p2 : Int32) (p3 : Int32) (fs : List Value) (m_th : Int32) (sz : Nat) (hfs : fs.length = 109) (hfs_0 : fs[0]? = some (.int m_th)) (hfs_1 : fs[1]? = some (.int 0)) (hfs_38 : fs[38]? = some (.int 0)) : Met l yX12_bump wsX12_bump ({ frames := 10, cells := 0, slots := 0, locals := 280 }) (va_Pc [.ref h0, .int p0, .int p1, .int p2, .int p3] (PW D cT [(h0, .inr (12, fs))] sz)) (va_Qi (fun (r : Int32) (_ : Unit) => True) (fun (_ : Unit) (t : State) => ∃ (gs : List Value), (gs.length = 109) ∧ (gs[0]? = some (.int 1)) ∧ va_P D vwCl [(h0, .inr (12, gs))] t.heap ∧ va_D (va_A [(h0, .inr (12, fs))] sz) [(h0, .inr (12, gs))]) (va_A [(h0, .inr (12, fs))] sz)) 0 0 (va_A [(h0, .inr (12, fs))] sz) := by
  refine Met.ofW (cc := cX12_bump) (maxL := 11) (ret := (some .int)) (by decide) rfl ?_
  intro p e s m args below meth c s₁ B hml hv
  obtain ⟨rfl, hsz, hP, hK, hD0, hG⟩ := hv
  have hx := B.exec
  have hb := B.bytes
  have hr := B.returns
  have hts := atoms_spec (ws := wsX12_bump) B.pre
  have hown : s.vm.findClass RX12 = some m.cls := findClass_of_methodNamed B.named
  have hlocks := B.notSynchronized
  subst hsz
  have hD := hD0.self (sz := s.heap.size)
  generalize hAe : va_A [(h0, .inr (12, fs))] s.heap.size = A at hD ⊢
  have hA : ∀ q : Nat, s.heap.size ≤ q → A q := fun q h => by rw [← hAe]; exact Or.inr h
  have hS : va_S A s.heap s.heap [] := va_S.rf
  have hP : va_P D vwCl [(h0, .inr (12, fs))] s.heap := hP
  have hl := lv_entry ([.ref h0, .int p0, .int p1, .int p2, .int p3]) (n := 11) (Nat.le_of_ble_eq_true rfl)
  rw [lg_entry_eq]
  generalize (lg_sl ([.ref h0, .int p0, .int p1, .int p2, .int p3]) ++ List.replicate (11 - (lg_sl ([.ref h0, .int p0, .int p1, .int p2, .int p3])).length) Slot.unset).toArray = ls at hl ⊢
  have hl : lv_has ls 11 [(0, .ref h0), (1, .int p0), (2, .int p1), (3, .int p2), (4, .int p3)] := hl
  refine lv_aload_n hx hb dX12_bump_0 rfl (lv_at hl 0 rfl) ?_
  refine lv_iconst (v := 0) hx hb dX12_bump_1 (by decide) ?_
  refine va_put (D := D) (ci := 12) (v := .int 0) (ty := .int) (C := RX12) (T := TX12) (N := 109) hx hb hts (fun _ h => List.mem_cons_of_mem _ (List.mem_append_right _ h)) tyX12 tyX12_ok nmX12 hown hK hP hD hS 0 rfl rfl 0 (by decide) (hts (.fieldLink RX12 1 "PuppetFilmModel" "thrown" "I") (List.mem_of_getElem? (i := 1) (by decide +kernel))) (fun _ h9 => h9) rfl (by decide +kernel) rfl rfl (by simp only [List.length_set, hfs]; decide) dX12_bump_2 (fun H locs hP hD hS => ?_)
  have hP : va_P D vwCl [(h0, .inr (12, (fs.set 0 (.int 0))))] _ := hP
  have hD : va_D A [(h0, .inr (12, (fs.set 0 (.int 0))))] := hD
  refine lv_aload_n hx hb dX12_bump_5 rfl (lv_at hl 0 rfl) ?_
  refine lv_iload_n hx hb dX12_bump_6 rfl (lv_at hl 1 rfl) ?_
  have hF := va_free (wc := [(h0, .inr (12, (fs.set 0 (.int 0))))]) hD hS hA [0] rfl
  refine va_calli (va_runV (As := [.int p0]) (rest := []) ⟨hx, hb, hml, hown, hts⟩ (c_X12_isShot l D cT h0 p0 (fs.set 0 (.int 0)) _ (by simp only [List.length_set]; exact hfs) (List.getElem?_set_self (by simp only [List.length_set, hfs]; decide)) ((List.getElem?_set_ne (by decide)).trans (hfs_38))) (cwV 1 hts gX12_bump_X12_isShot rfl rfl rfl (by decide +kernel) ⟨Nat.le_of_ble_eq_true rfl, Nat.le_of_ble_eq_true rfl⟩) (pv_w hP hD hK hG [0] rfl rfl rfl 0 rfl rfl) rfl rfl hl.1 rfl (lv_room (Nat.le_of_ble_eq_true rfl)) dX12_bump_7 ⟨Nat.le_of_ble_eq_true rfl, Nat.le_of_ble_eq_true rfl⟩) hS (fun q _ h => hF q h) hF (fun r_1 uu9 tt9 H locs ht hvm wr_1 hB hz1 hk1 hS => ?_)
  obtain ⟨hP1, hD1⟩ := hB
  rw [ht] at hP1
  obtain ⟨hP, hD⟩ := va_join (wr := []) (w1 := [(h0, .inr (12, ((fs.set 0 (.int 0)).set 0 (.int 1))))]) hP hD [0] [] rfl rfl (by decide) (by decide) hk1 hF hP1 hD1
  have hP : va_P D vwCl [(h0, .inr (12, ((fs.set 0 (.int 0)).set 0 (.int 1))))] _ := hP
  have hD : va_D A [(h0, .inr (12, ((fs.set 0 (.int 0)).set 0 (.int 1))))] := hD
  obtain rfl : r_1 = 0 := wr_1.trans (rfl)
  refine lv_if_eq (tgt := 61) hx hb dX12_bump_10 (by decide) (fun _ => ?_) (fun c9 => absurd c9 (by decide))
  refine lv_iconst (v := 0) hx hb dX12_bump_61 (by decide) ?_
  have hP9 := hP.sub (ws' := [(h0, .inr (12, ((fs.set 0 (.int 0)).set 0 (.int 1))))]) [0] rfl
  have hD9 := hD.sub (ws' := [(h0, .inr (12, ((fs.set 0 (.int 0)).set 0 (.int 1))))]) [0] (by decide) rfl
  exact W.iret (v := 0) hx hb hr (fun t ht hW => ⟨⟨0, (), rfl, trivial, ⟨((fs.set 0 (.int 0)).set 0 (.int 1)), by simp only [List.length_set]; exact hfs, List.getElem?_set_self (by simp only [List.length_set, hfs]; decide), by rw [ht]; exact hP9, hD9⟩⟩, hS.F ht⟩) hS.2.2 dX12_bump_62
theorem dX12_shoot_0 : decode cX12_shoot 0 = .ok (.aload_n 0, 1) := by decide +kernel
theorem dX12_shoot_1 : decode cX12_shoot 1 = .ok (.iconst 0, 1) := by decide +kernel
theorem dX12_shoot_10 : decode cX12_shoot 10 = .ok (.ifCond .eq 19, 3) := by decide +kernel
theorem dX12_shoot_2 : decode cX12_shoot 2 = .ok (.putfield 1, 3) := by decide +kernel
theorem dX12_shoot_29 : decode cX12_shoot 29 = .ok (.iconst 0, 1) := by decide +kernel
theorem dX12_shoot_30 : decode cX12_shoot 30 = .ok (.ireturn, 1) := by decide +kernel
theorem dX12_shoot_5 : decode cX12_shoot 5 = .ok (.aload_n 0, 1) := by decide +kernel
theorem dX12_shoot_6 : decode cX12_shoot 6 = .ok (.iload_n 1, 1) := by decide +kernel
theorem dX12_shoot_7 : decode cX12_shoot 7 = .ok (.invokevirtual 436, 3) := by decide +kernel
set_option maxRecDepth 20000 in
theorem ggX12_shoot_X12_isShot : GoodIn wsX12_shoot wsX12_isShot := goodIn_r _ [10, 11, 12, 13, 9, 14, 15, 16, 17, 18, 1, 22, 23, 24, 25, 26, 27, 28, 29, 30, 31, 32, 33, 34, 35, 36, 37, 38, 39, 40, 41, 42, 43, 44, 45, 46, 47, 48, 49, 50, 51, 52, 53, 54, 55, 56, 57, 58, 59, 60, 61, 62, 63, 64, 65, 66, 67, 68, 69, 70, 71, 72, 73, 74, 75, 76, 77, 78, 79, 80, 81, 82, 83, 84, 85, 86, 87, 88, 89, 90, 91, 92, 93, 94, 95, 96, 97, 98, 99, 100, 101, 102, 103, 104, 105, 106, 107, 108, 109, 110, 111, 112, 113, 114, 115, 116, 117, 118, 119, 120, 121, 122, 123, 124, 125, 126, 127, 128, 129, 130] (by decide +kernel) (by decide +kernel)
set_option maxRecDepth 20000 in
theorem gX12_shoot_X12_isShot : GoodIn wsX12_shoot (wsV RX12 436 RX12 yX12_isShot wsX12_isShot) := goodIn_app (goodIn_of _ (by decide +kernel)) ggX12_shoot_X12_isShot
set_option maxHeartbeats 4000000 in
set_option maxRecDepth 100000 in
theorem c_X12_shoot (l : Launch) (D : va_G) (cT : Nat → ClassId) (h0 : Nat) (p0 : Int32) (p1 : Int32) (fs : List Value) (m_th : Int32) (sz : Nat) (hfs : fs.length = 109) (hfs_0 : fs[0]? = some (.int m_th)) (hfs_1 : fs[1]? = some (.int 0)) (hfs_38 : fs[38]? = some (.int 0)) : Met l yX12_shoot wsX12_shoot ({ frames := 10, cells := 0, slots := 0, locals := 280 }) (va_Pc [.ref h0, .int p0, .int p1] (PW D cT [(h0, .inr (12, fs))] sz)) (va_Qi (fun (r : Int32) (_ : Unit) => True) (fun (_ : Unit) (t : State) => ∃ (gs : List Value), (gs.length = 109) ∧ (gs[0]? = some (.int 1)) ∧ va_P D vwCl [(h0, .inr (12, gs))] t.heap ∧ va_D (va_A [(h0, .inr (12, fs))] sz) [(h0, .inr (12, gs))]) (va_A [(h0, .inr (12, fs))] sz)) 0 0 (va_A [(h0, .inr (12, fs))] sz) := by
  refine Met.ofW (cc := cX12_shoot) (maxL := 4) (ret := (some .int)) (by decide) rfl ?_
  intro p e s m args below meth c s₁ B hml hv
  obtain ⟨rfl, hsz, hP, hK, hD0, hG⟩ := hv
  have hx := B.exec
  have hb := B.bytes
  have hr := B.returns
  have hts := atoms_spec (ws := wsX12_shoot) B.pre
  have hown : s.vm.findClass RX12 = some m.cls := findClass_of_methodNamed B.named
  have hlocks := B.notSynchronized
  subst hsz
  have hD := hD0.self (sz := s.heap.size)
  generalize hAe : va_A [(h0, .inr (12, fs))] s.heap.size = A at hD ⊢
  have hA : ∀ q : Nat, s.heap.size ≤ q → A q := fun q h => by rw [← hAe]; exact Or.inr h
  have hS : va_S A s.heap s.heap [] := va_S.rf
  have hP : va_P D vwCl [(h0, .inr (12, fs))] s.heap := hP
  have hl := lv_entry ([.ref h0, .int p0, .int p1]) (n := 4) (Nat.le_of_ble_eq_true rfl)
  rw [lg_entry_eq]
  generalize (lg_sl ([.ref h0, .int p0, .int p1]) ++ List.replicate (4 - (lg_sl ([.ref h0, .int p0, .int p1])).length) Slot.unset).toArray = ls at hl ⊢
  have hl : lv_has ls 4 [(0, .ref h0), (1, .int p0), (2, .int p1)] := hl
  refine lv_aload_n hx hb dX12_shoot_0 rfl (lv_at hl 0 rfl) ?_
  refine lv_iconst (v := 0) hx hb dX12_shoot_1 (by decide) ?_
  refine va_put (D := D) (ci := 12) (v := .int 0) (ty := .int) (C := RX12) (T := TX12) (N := 109) hx hb hts (fun _ h => List.mem_cons_of_mem _ (List.mem_append_right _ h)) tyX12 tyX12_ok nmX12 hown hK hP hD hS 0 rfl rfl 0 (by decide) (hts (.fieldLink RX12 1 "PuppetFilmModel" "thrown" "I") (List.mem_of_getElem? (i := 1) (by decide +kernel))) (fun _ h9 => h9) rfl (by decide +kernel) rfl rfl (by simp only [List.length_set, hfs]; decide) dX12_shoot_2 (fun H locs hP hD hS => ?_)
  have hP : va_P D vwCl [(h0, .inr (12, (fs.set 0 (.int 0))))] _ := hP
  have hD : va_D A [(h0, .inr (12, (fs.set 0 (.int 0))))] := hD
  refine lv_aload_n hx hb dX12_shoot_5 rfl (lv_at hl 0 rfl) ?_
  refine lv_iload_n hx hb dX12_shoot_6 rfl (lv_at hl 1 rfl) ?_
  have hF := va_free (wc := [(h0, .inr (12, (fs.set 0 (.int 0))))]) hD hS hA [0] rfl
  refine va_calli (va_runV (As := [.int p0]) (rest := []) ⟨hx, hb, hml, hown, hts⟩ (c_X12_isShot l D cT h0 p0 (fs.set 0 (.int 0)) _ (by simp only [List.length_set]; exact hfs) (List.getElem?_set_self (by simp only [List.length_set, hfs]; decide)) ((List.getElem?_set_ne (by decide)).trans (hfs_38))) (cwV 1 hts gX12_shoot_X12_isShot rfl rfl rfl (by decide +kernel) ⟨Nat.le_of_ble_eq_true rfl, Nat.le_of_ble_eq_true rfl⟩) (pv_w hP hD hK hG [0] rfl rfl rfl 0 rfl rfl) rfl rfl hl.1 rfl (lv_room (Nat.le_of_ble_eq_true rfl)) dX12_shoot_7 ⟨Nat.le_of_ble_eq_true rfl, Nat.le_of_ble_eq_true rfl⟩) hS (fun q _ h => hF q h) hF (fun r_1 uu9 tt9 H locs ht hvm wr_1 hB hz1 hk1 hS => ?_)
  obtain ⟨hP1, hD1⟩ := hB
  rw [ht] at hP1
  obtain ⟨hP, hD⟩ := va_join (wr := []) (w1 := [(h0, .inr (12, ((fs.set 0 (.int 0)).set 0 (.int 1))))]) hP hD [0] [] rfl rfl (by decide) (by decide) hk1 hF hP1 hD1
  have hP : va_P D vwCl [(h0, .inr (12, ((fs.set 0 (.int 0)).set 0 (.int 1))))] _ := hP
  have hD : va_D A [(h0, .inr (12, ((fs.set 0 (.int 0)).set 0 (.int 1))))] := hD
  obtain rfl : r_1 = 0 := wr_1.trans (rfl)
  refine lv_if_eq (tgt := 29) hx hb dX12_shoot_10 (by decide) (fun _ => ?_) (fun c9 => absurd c9 (by decide))
  refine lv_iconst (v := 0) hx hb dX12_shoot_29 (by decide) ?_
  have hP9 := hP.sub (ws' := [(h0, .inr (12, ((fs.set 0 (.int 0)).set 0 (.int 1))))]) [0] rfl
  have hD9 := hD.sub (ws' := [(h0, .inr (12, ((fs.set 0 (.int 0)).set 0 (.int 1))))]) [0] (by decide) rfl
  exact W.iret (v := 0) hx hb hr (fun t ht hW => ⟨⟨0, (), rfl, trivial, ⟨((fs.set 0 (.int 0)).set 0 (.int 1)), by simp only [List.length_set]; exact hfs, List.getElem?_set_self (by simp only [List.length_set, hfs]; decide), by rw [ht]; exact hP9, hD9⟩⟩, hS.F ht⟩) hS.2.2 dX12_shoot_30
theorem dX12_when_0 : decode cX12_when 0 = .ok (.aload_n 0, 1) := by decide +kernel
theorem dX12_when_1 : decode cX12_when 1 = .ok (.iconst 0, 1) := by decide +kernel
theorem dX12_when_10 : decode cX12_when 10 = .ok (.ifCond .eq 17, 3) := by decide +kernel
theorem dX12_when_2 : decode cX12_when 2 = .ok (.putfield 1, 3) := by decide +kernel
theorem dX12_when_27 : decode cX12_when 27 = .ok (.iconst 0, 1) := by decide +kernel
theorem dX12_when_28 : decode cX12_when 28 = .ok (.ireturn, 1) := by decide +kernel
theorem dX12_when_5 : decode cX12_when 5 = .ok (.aload_n 0, 1) := by decide +kernel
theorem dX12_when_6 : decode cX12_when 6 = .ok (.iload_n 1, 1) := by decide +kernel
theorem dX12_when_7 : decode cX12_when 7 = .ok (.invokevirtual 436, 3) := by decide +kernel
set_option maxRecDepth 20000 in
theorem ggX12_when_X12_isShot : GoodIn wsX12_when wsX12_isShot := goodIn_r _ [8, 9, 10, 11, 7, 12, 13, 14, 15, 16, 1, 25, 26, 27, 28, 29, 30, 31, 32, 33, 34, 35, 36, 37, 38, 39, 40, 41, 42, 43, 44, 45, 46, 47, 48, 49, 50, 51, 52, 53, 54, 55, 56, 57, 58, 59, 60, 61, 62, 63, 64, 65, 66, 67, 68, 69, 70, 71, 72, 73, 74, 75, 76, 77, 78, 79, 80, 81, 82, 83, 84, 85, 86, 87, 88, 89, 90, 91, 92, 93, 94, 95, 96, 97, 98, 99, 100, 101, 102, 103, 104, 105, 106, 107, 108, 109, 110, 111, 112, 113, 114, 115, 116, 117, 118, 119, 120, 121, 122, 123, 124, 125, 126, 127, 128, 129, 130, 131, 132, 133] (by decide +kernel) (by decide +kernel)
set_option maxRecDepth 20000 in
theorem gX12_when_X12_isShot : GoodIn wsX12_when (wsV RX12 436 RX12 yX12_isShot wsX12_isShot) := goodIn_app (goodIn_of _ (by decide +kernel)) ggX12_when_X12_isShot
set_option maxHeartbeats 4000000 in
set_option maxRecDepth 100000 in
theorem c_X12_when (l : Launch) (D : va_G) (cT : Nat → ClassId) (h0 : Nat) (p0 : Int32) (p1 : Int32) (fs : List Value) (m_th : Int32) (sz : Nat) (hfs : fs.length = 109) (hfs_0 : fs[0]? = some (.int m_th)) (hfs_1 : fs[1]? = some (.int 0)) (hfs_38 : fs[38]? = some (.int 0)) : Met l yX12_when wsX12_when ({ frames := 10, cells := 0, slots := 0, locals := 280 }) (va_Pc [.ref h0, .int p0, .int p1] (PW D cT [(h0, .inr (12, fs))] sz)) (va_Qi (fun (r : Int32) (_ : Unit) => True) (fun (_ : Unit) (t : State) => ∃ (gs : List Value), (gs.length = 109) ∧ (gs[0]? = some (.int 1)) ∧ va_P D vwCl [(h0, .inr (12, gs))] t.heap ∧ va_D (va_A [(h0, .inr (12, fs))] sz) [(h0, .inr (12, gs))]) (va_A [(h0, .inr (12, fs))] sz)) 0 0 (va_A [(h0, .inr (12, fs))] sz) := by
  refine Met.ofW (cc := cX12_when) (maxL := 3) (ret := (some .int)) (by decide) rfl ?_
  intro p e s m args below meth c s₁ B hml hv
  obtain ⟨rfl, hsz, hP, hK, hD0, hG⟩ := hv
  have hx := B.exec
  have hb := B.bytes
  have hr := B.returns
  have hts := atoms_spec (ws := wsX12_when) B.pre
  have hown : s.vm.findClass RX12 = some m.cls := findClass_of_methodNamed B.named
  have hlocks := B.notSynchronized
  subst hsz
  have hD := hD0.self (sz := s.heap.size)
  generalize hAe : va_A [(h0, .inr (12, fs))] s.heap.size = A at hD ⊢
  have hA : ∀ q : Nat, s.heap.size ≤ q → A q := fun q h => by rw [← hAe]; exact Or.inr h
  have hS : va_S A s.heap s.heap [] := va_S.rf
  have hP : va_P D vwCl [(h0, .inr (12, fs))] s.heap := hP
  have hl := lv_entry ([.ref h0, .int p0, .int p1]) (n := 3) (Nat.le_of_ble_eq_true rfl)
  rw [lg_entry_eq]
  generalize (lg_sl ([.ref h0, .int p0, .int p1]) ++ List.replicate (3 - (lg_sl ([.ref h0, .int p0, .int p1])).length) Slot.unset).toArray = ls at hl ⊢
  have hl : lv_has ls 3 [(0, .ref h0), (1, .int p0), (2, .int p1)] := hl
  refine lv_aload_n hx hb dX12_when_0 rfl (lv_at hl 0 rfl) ?_
  refine lv_iconst (v := 0) hx hb dX12_when_1 (by decide) ?_
  refine va_put (D := D) (ci := 12) (v := .int 0) (ty := .int) (C := RX12) (T := TX12) (N := 109) hx hb hts (fun _ h => List.mem_cons_of_mem _ (List.mem_append_right _ h)) tyX12 tyX12_ok nmX12 hown hK hP hD hS 0 rfl rfl 0 (by decide) (hts (.fieldLink RX12 1 "PuppetFilmModel" "thrown" "I") (List.mem_of_getElem? (i := 1) (by decide +kernel))) (fun _ h9 => h9) rfl (by decide +kernel) rfl rfl (by simp only [List.length_set, hfs]; decide) dX12_when_2 (fun H locs hP hD hS => ?_)
  have hP : va_P D vwCl [(h0, .inr (12, (fs.set 0 (.int 0))))] _ := hP
  have hD : va_D A [(h0, .inr (12, (fs.set 0 (.int 0))))] := hD
  refine lv_aload_n hx hb dX12_when_5 rfl (lv_at hl 0 rfl) ?_
  refine lv_iload_n hx hb dX12_when_6 rfl (lv_at hl 1 rfl) ?_
  have hF := va_free (wc := [(h0, .inr (12, (fs.set 0 (.int 0))))]) hD hS hA [0] rfl
  refine va_calli (va_runV (As := [.int p0]) (rest := []) ⟨hx, hb, hml, hown, hts⟩ (c_X12_isShot l D cT h0 p0 (fs.set 0 (.int 0)) _ (by simp only [List.length_set]; exact hfs) (List.getElem?_set_self (by simp only [List.length_set, hfs]; decide)) ((List.getElem?_set_ne (by decide)).trans (hfs_38))) (cwV 1 hts gX12_when_X12_isShot rfl rfl rfl (by decide +kernel) ⟨Nat.le_of_ble_eq_true rfl, Nat.le_of_ble_eq_true rfl⟩) (pv_w hP hD hK hG [0] rfl rfl rfl 0 rfl rfl) rfl rfl hl.1 rfl (lv_room (Nat.le_of_ble_eq_true rfl)) dX12_when_7 ⟨Nat.le_of_ble_eq_true rfl, Nat.le_of_ble_eq_true rfl⟩) hS (fun q _ h => hF q h) hF (fun r_1 uu9 tt9 H locs ht hvm wr_1 hB hz1 hk1 hS => ?_)
  obtain ⟨hP1, hD1⟩ := hB
  rw [ht] at hP1
  obtain ⟨hP, hD⟩ := va_join (wr := []) (w1 := [(h0, .inr (12, ((fs.set 0 (.int 0)).set 0 (.int 1))))]) hP hD [0] [] rfl rfl (by decide) (by decide) hk1 hF hP1 hD1
  have hP : va_P D vwCl [(h0, .inr (12, ((fs.set 0 (.int 0)).set 0 (.int 1))))] _ := hP
  have hD : va_D A [(h0, .inr (12, ((fs.set 0 (.int 0)).set 0 (.int 1))))] := hD
  obtain rfl : r_1 = 0 := wr_1.trans (rfl)
  refine lv_if_eq (tgt := 27) hx hb dX12_when_10 (by decide) (fun _ => ?_) (fun c9 => absurd c9 (by decide))
  refine lv_iconst (v := 0) hx hb dX12_when_27 (by decide) ?_
  have hP9 := hP.sub (ws' := [(h0, .inr (12, ((fs.set 0 (.int 0)).set 0 (.int 1))))]) [0] rfl
  have hD9 := hD.sub (ws' := [(h0, .inr (12, ((fs.set 0 (.int 0)).set 0 (.int 1))))]) [0] (by decide) rfl
  exact W.iret (v := 0) hx hb hr (fun t ht hW => ⟨⟨0, (), rfl, trivial, ⟨((fs.set 0 (.int 0)).set 0 (.int 1)), by simp only [List.length_set]; exact hfs, List.getElem?_set_self (by simp only [List.length_set, hfs]; decide), by rw [ht]; exact hP9, hD9⟩⟩, hS.F ht⟩) hS.2.2 dX12_when_28
theorem dX12_measure_0 : decode cX12_measure 0 = .ok (.aload_n 0, 1) := by decide +kernel
theorem dX12_measure_1 : decode cX12_measure 1 = .ok (.iconst 0, 1) := by decide +kernel
theorem dX12_measure_10 : decode cX12_measure 10 = .ok (.ifCond .eq 35, 3) := by decide +kernel
theorem dX12_measure_2 : decode cX12_measure 2 = .ok (.putfield 1, 3) := by decide +kernel
theorem dX12_measure_45 : decode cX12_measure 45 = .ok (.iconst 0, 1) := by decide +kernel
theorem dX12_measure_46 : decode cX12_measure 46 = .ok (.ireturn, 1) := by decide +kernel
theorem dX12_measure_5 : decode cX12_measure 5 = .ok (.aload_n 0, 1) := by decide +kernel
theorem dX12_measure_6 : decode cX12_measure 6 = .ok (.iload_n 1, 1) := by decide +kernel
theorem dX12_measure_7 : decode cX12_measure 7 = .ok (.invokevirtual 436, 3) := by decide +kernel
set_option maxRecDepth 20000 in
theorem ggX12_measure_X12_isShot : GoodIn wsX12_measure wsX12_isShot := goodIn_r _ [13, 14, 15, 16, 12, 17, 18, 19, 20, 21, 1, 27, 28, 29, 30, 31, 32, 33, 34, 35, 36, 37, 38, 39, 40, 41, 42, 43, 44, 45, 46, 47, 48, 49, 50, 51, 52, 53, 54, 55, 56, 57, 58, 59, 60, 61, 62, 63, 64, 65, 66, 67, 68, 69, 70, 71, 72, 73, 74, 75, 76, 77, 78, 79, 80, 81, 82, 83, 84, 85, 86, 87, 88, 89, 90, 91, 92, 93, 94, 95, 96, 97, 98, 99, 100, 101, 102, 103, 104, 105, 106, 107, 108, 109, 110, 111, 112, 113, 114, 115, 116, 117, 118, 119, 120, 121, 122, 123, 124, 125, 126, 127, 128, 129, 130, 131, 132, 133, 134, 135] (by decide +kernel) (by decide +kernel)
set_option maxRecDepth 20000 in
theorem gX12_measure_X12_isShot : GoodIn wsX12_measure (wsV RX12 436 RX12 yX12_isShot wsX12_isShot) := goodIn_app (goodIn_of _ (by decide +kernel)) ggX12_measure_X12_isShot
set_option maxHeartbeats 4000000 in
set_option maxRecDepth 100000 in
theorem c_X12_measure (l : Launch) (D : va_G) (cT : Nat → ClassId) (h0 : Nat) (p0 : Int32) (p1 : Int32) (p2 : Int32) (fs : List Value) (m_th : Int32) (sz : Nat) (hfs : fs.length = 109) (hfs_0 : fs[0]? = some (.int m_th)) (hfs_1 : fs[1]? = some (.int 0)) (hfs_38 : fs[38]? = some (.int 0)) : Met l yX12_measure wsX12_measure ({ frames := 10, cells := 0, slots := 0, locals := 280 }) (va_Pc [.ref h0, .int p0, .int p1, .int p2] (PW D cT [(h0, .inr (12, fs))] sz)) (va_Qi (fun (r : Int32) (_ : Unit) => True) (fun (_ : Unit) (t : State) => ∃ (gs : List Value), (gs.length = 109) ∧ (gs[0]? = some (.int 1)) ∧ va_P D vwCl [(h0, .inr (12, gs))] t.heap ∧ va_D (va_A [(h0, .inr (12, fs))] sz) [(h0, .inr (12, gs))]) (va_A [(h0, .inr (12, fs))] sz)) 0 0 (va_A [(h0, .inr (12, fs))] sz) := by
  refine Met.ofW (cc := cX12_measure) (maxL := 4) (ret := (some .int)) (by decide) rfl ?_
  intro p e s m args below meth c s₁ B hml hv
  obtain ⟨rfl, hsz, hP, hK, hD0, hG⟩ := hv
  have hx := B.exec
  have hb := B.bytes
  have hr := B.returns
  have hts := atoms_spec (ws := wsX12_measure) B.pre
  have hown : s.vm.findClass RX12 = some m.cls := findClass_of_methodNamed B.named
  have hlocks := B.notSynchronized
  subst hsz
  have hD := hD0.self (sz := s.heap.size)
  generalize hAe : va_A [(h0, .inr (12, fs))] s.heap.size = A at hD ⊢
  have hA : ∀ q : Nat, s.heap.size ≤ q → A q := fun q h => by rw [← hAe]; exact Or.inr h
  have hS : va_S A s.heap s.heap [] := va_S.rf
  have hP : va_P D vwCl [(h0, .inr (12, fs))] s.heap := hP
  have hl := lv_entry ([.ref h0, .int p0, .int p1, .int p2]) (n := 4) (Nat.le_of_ble_eq_true rfl)
  rw [lg_entry_eq]
  generalize (lg_sl ([.ref h0, .int p0, .int p1, .int p2]) ++ List.replicate (4 - (lg_sl ([.ref h0, .int p0, .int p1, .int p2])).length) Slot.unset).toArray = ls at hl ⊢
  have hl : lv_has ls 4 [(0, .ref h0), (1, .int p0), (2, .int p1), (3, .int p2)] := hl
  refine lv_aload_n hx hb dX12_measure_0 rfl (lv_at hl 0 rfl) ?_
  refine lv_iconst (v := 0) hx hb dX12_measure_1 (by decide) ?_
  refine va_put (D := D) (ci := 12) (v := .int 0) (ty := .int) (C := RX12) (T := TX12) (N := 109) hx hb hts (fun _ h => List.mem_cons_of_mem _ (List.mem_append_right _ h)) tyX12 tyX12_ok nmX12 hown hK hP hD hS 0 rfl rfl 0 (by decide) (hts (.fieldLink RX12 1 "PuppetFilmModel" "thrown" "I") (List.mem_of_getElem? (i := 1) (by decide +kernel))) (fun _ h9 => h9) rfl (by decide +kernel) rfl rfl (by simp only [List.length_set, hfs]; decide) dX12_measure_2 (fun H locs hP hD hS => ?_)
  have hP : va_P D vwCl [(h0, .inr (12, (fs.set 0 (.int 0))))] _ := hP
  have hD : va_D A [(h0, .inr (12, (fs.set 0 (.int 0))))] := hD
  refine lv_aload_n hx hb dX12_measure_5 rfl (lv_at hl 0 rfl) ?_
  refine lv_iload_n hx hb dX12_measure_6 rfl (lv_at hl 1 rfl) ?_
  have hF := va_free (wc := [(h0, .inr (12, (fs.set 0 (.int 0))))]) hD hS hA [0] rfl
  refine va_calli (va_runV (As := [.int p0]) (rest := []) ⟨hx, hb, hml, hown, hts⟩ (c_X12_isShot l D cT h0 p0 (fs.set 0 (.int 0)) _ (by simp only [List.length_set]; exact hfs) (List.getElem?_set_self (by simp only [List.length_set, hfs]; decide)) ((List.getElem?_set_ne (by decide)).trans (hfs_38))) (cwV 1 hts gX12_measure_X12_isShot rfl rfl rfl (by decide +kernel) ⟨Nat.le_of_ble_eq_true rfl, Nat.le_of_ble_eq_true rfl⟩) (pv_w hP hD hK hG [0] rfl rfl rfl 0 rfl rfl) rfl rfl hl.1 rfl (lv_room (Nat.le_of_ble_eq_true rfl)) dX12_measure_7 ⟨Nat.le_of_ble_eq_true rfl, Nat.le_of_ble_eq_true rfl⟩) hS (fun q _ h => hF q h) hF (fun r_1 uu9 tt9 H locs ht hvm wr_1 hB hz1 hk1 hS => ?_)
  obtain ⟨hP1, hD1⟩ := hB
  rw [ht] at hP1
  obtain ⟨hP, hD⟩ := va_join (wr := []) (w1 := [(h0, .inr (12, ((fs.set 0 (.int 0)).set 0 (.int 1))))]) hP hD [0] [] rfl rfl (by decide) (by decide) hk1 hF hP1 hD1
  have hP : va_P D vwCl [(h0, .inr (12, ((fs.set 0 (.int 0)).set 0 (.int 1))))] _ := hP
  have hD : va_D A [(h0, .inr (12, ((fs.set 0 (.int 0)).set 0 (.int 1))))] := hD
  obtain rfl : r_1 = 0 := wr_1.trans (rfl)
  refine lv_if_eq (tgt := 45) hx hb dX12_measure_10 (by decide) (fun _ => ?_) (fun c9 => absurd c9 (by decide))
  refine lv_iconst (v := 0) hx hb dX12_measure_45 (by decide) ?_
  have hP9 := hP.sub (ws' := [(h0, .inr (12, ((fs.set 0 (.int 0)).set 0 (.int 1))))]) [0] rfl
  have hD9 := hD.sub (ws' := [(h0, .inr (12, ((fs.set 0 (.int 0)).set 0 (.int 1))))]) [0] (by decide) rfl
  exact W.iret (v := 0) hx hb hr (fun t ht hW => ⟨⟨0, (), rfl, trivial, ⟨((fs.set 0 (.int 0)).set 0 (.int 1)), by simp only [List.length_set]; exact hfs, List.getElem?_set_self (by simp only [List.length_set, hfs]; decide), by rw [ht]; exact hP9, hD9⟩⟩, hS.F ht⟩) hS.2.2 dX12_measure_46
theorem dX12_mended_0 : decode cX12_mended 0 = .ok (.aload_n 0, 1) := by decide +kernel
theorem dX12_mended_1 : decode cX12_mended 1 = .ok (.iconst 0, 1) := by decide +kernel
theorem dX12_mended_10 : decode cX12_mended 10 = .ok (.ifCond .eq 17, 3) := by decide +kernel
theorem dX12_mended_2 : decode cX12_mended 2 = .ok (.putfield 1, 3) := by decide +kernel
theorem dX12_mended_27 : decode cX12_mended 27 = .ok (.iconst 0, 1) := by decide +kernel
theorem dX12_mended_28 : decode cX12_mended 28 = .ok (.ireturn, 1) := by decide +kernel
theorem dX12_mended_5 : decode cX12_mended 5 = .ok (.aload_n 0, 1) := by decide +kernel
theorem dX12_mended_6 : decode cX12_mended 6 = .ok (.iload_n 1, 1) := by decide +kernel
theorem dX12_mended_7 : decode cX12_mended 7 = .ok (.invokevirtual 436, 3) := by decide +kernel
set_option maxRecDepth 20000 in
theorem ggX12_mended_X12_isShot : GoodIn wsX12_mended wsX12_isShot := goodIn_r _ [6, 7, 8, 9, 5, 10, 11, 12, 13, 14, 1, 33, 34, 35, 36, 37, 38, 39, 40, 41, 42, 43, 44, 45, 46, 47, 48, 49, 50, 51, 52, 53, 54, 55, 56, 57, 58, 59, 60, 61, 62, 63, 64, 65, 66, 67, 68, 69, 70, 71, 72, 73, 74, 75, 76, 77, 78, 79, 80, 81, 82, 83, 84, 85, 86, 87, 88, 89, 90, 91, 92, 93, 94, 95, 96, 97, 98, 99, 100, 101, 102, 103, 104, 105, 106, 107, 108, 109, 110, 111, 112, 113, 114, 115, 116, 117, 118, 119, 120, 121, 122, 123, 124, 125, 126, 127, 128, 129, 130, 131, 132, 133, 134, 135, 136, 137, 138, 139, 140, 141] (by decide +kernel) (by decide +kernel)
set_option maxRecDepth 20000 in
theorem gX12_mended_X12_isShot : GoodIn wsX12_mended (wsV RX12 436 RX12 yX12_isShot wsX12_isShot) := goodIn_app (goodIn_of _ (by decide +kernel)) ggX12_mended_X12_isShot
set_option maxHeartbeats 4000000 in
set_option maxRecDepth 100000 in
theorem c_X12_mended (l : Launch) (D : va_G) (cT : Nat → ClassId) (h0 : Nat) (p0 : Int32) (p1 : Int32) (p2 : Int32) (fs : List Value) (m_th : Int32) (sz : Nat) (hfs : fs.length = 109) (hfs_0 : fs[0]? = some (.int m_th)) (hfs_1 : fs[1]? = some (.int 0)) (hfs_38 : fs[38]? = some (.int 0)) : Met l yX12_mended wsX12_mended ({ frames := 10, cells := 0, slots := 0, locals := 280 }) (va_Pc [.ref h0, .int p0, .int p1, .int p2] (PW D cT [(h0, .inr (12, fs))] sz)) (va_Qi (fun (r : Int32) (_ : Unit) => True) (fun (_ : Unit) (t : State) => ∃ (gs : List Value), (gs.length = 109) ∧ (gs[0]? = some (.int 1)) ∧ va_P D vwCl [(h0, .inr (12, gs))] t.heap ∧ va_D (va_A [(h0, .inr (12, fs))] sz) [(h0, .inr (12, gs))]) (va_A [(h0, .inr (12, fs))] sz)) 0 0 (va_A [(h0, .inr (12, fs))] sz) := by
  refine Met.ofW (cc := cX12_mended) (maxL := 4) (ret := (some .int)) (by decide) rfl ?_
  intro p e s m args below meth c s₁ B hml hv
  obtain ⟨rfl, hsz, hP, hK, hD0, hG⟩ := hv
  have hx := B.exec
  have hb := B.bytes
  have hr := B.returns
  have hts := atoms_spec (ws := wsX12_mended) B.pre
  have hown : s.vm.findClass RX12 = some m.cls := findClass_of_methodNamed B.named
  have hlocks := B.notSynchronized
  subst hsz
  have hD := hD0.self (sz := s.heap.size)
  generalize hAe : va_A [(h0, .inr (12, fs))] s.heap.size = A at hD ⊢
  have hA : ∀ q : Nat, s.heap.size ≤ q → A q := fun q h => by rw [← hAe]; exact Or.inr h
  have hS : va_S A s.heap s.heap [] := va_S.rf
  have hP : va_P D vwCl [(h0, .inr (12, fs))] s.heap := hP
  have hl := lv_entry ([.ref h0, .int p0, .int p1, .int p2]) (n := 4) (Nat.le_of_ble_eq_true rfl)
  rw [lg_entry_eq]
  generalize (lg_sl ([.ref h0, .int p0, .int p1, .int p2]) ++ List.replicate (4 - (lg_sl ([.ref h0, .int p0, .int p1, .int p2])).length) Slot.unset).toArray = ls at hl ⊢
  have hl : lv_has ls 4 [(0, .ref h0), (1, .int p0), (2, .int p1), (3, .int p2)] := hl
  refine lv_aload_n hx hb dX12_mended_0 rfl (lv_at hl 0 rfl) ?_
  refine lv_iconst (v := 0) hx hb dX12_mended_1 (by decide) ?_
  refine va_put (D := D) (ci := 12) (v := .int 0) (ty := .int) (C := RX12) (T := TX12) (N := 109) hx hb hts (fun _ h => List.mem_cons_of_mem _ (List.mem_append_right _ h)) tyX12 tyX12_ok nmX12 hown hK hP hD hS 0 rfl rfl 0 (by decide) (hts (.fieldLink RX12 1 "PuppetFilmModel" "thrown" "I") (List.mem_of_getElem? (i := 1) (by decide +kernel))) (fun _ h9 => h9) rfl (by decide +kernel) rfl rfl (by simp only [List.length_set, hfs]; decide) dX12_mended_2 (fun H locs hP hD hS => ?_)
  have hP : va_P D vwCl [(h0, .inr (12, (fs.set 0 (.int 0))))] _ := hP
  have hD : va_D A [(h0, .inr (12, (fs.set 0 (.int 0))))] := hD
  refine lv_aload_n hx hb dX12_mended_5 rfl (lv_at hl 0 rfl) ?_
  refine lv_iload_n hx hb dX12_mended_6 rfl (lv_at hl 1 rfl) ?_
  have hF := va_free (wc := [(h0, .inr (12, (fs.set 0 (.int 0))))]) hD hS hA [0] rfl
  refine va_calli (va_runV (As := [.int p0]) (rest := []) ⟨hx, hb, hml, hown, hts⟩ (c_X12_isShot l D cT h0 p0 (fs.set 0 (.int 0)) _ (by simp only [List.length_set]; exact hfs) (List.getElem?_set_self (by simp only [List.length_set, hfs]; decide)) ((List.getElem?_set_ne (by decide)).trans (hfs_38))) (cwV 1 hts gX12_mended_X12_isShot rfl rfl rfl (by decide +kernel) ⟨Nat.le_of_ble_eq_true rfl, Nat.le_of_ble_eq_true rfl⟩) (pv_w hP hD hK hG [0] rfl rfl rfl 0 rfl rfl) rfl rfl hl.1 rfl (lv_room (Nat.le_of_ble_eq_true rfl)) dX12_mended_7 ⟨Nat.le_of_ble_eq_true rfl, Nat.le_of_ble_eq_true rfl⟩) hS (fun q _ h => hF q h) hF (fun r_1 uu9 tt9 H locs ht hvm wr_1 hB hz1 hk1 hS => ?_)
  obtain ⟨hP1, hD1⟩ := hB
  rw [ht] at hP1
  obtain ⟨hP, hD⟩ := va_join (wr := []) (w1 := [(h0, .inr (12, ((fs.set 0 (.int 0)).set 0 (.int 1))))]) hP hD [0] [] rfl rfl (by decide) (by decide) hk1 hF hP1 hD1
  have hP : va_P D vwCl [(h0, .inr (12, ((fs.set 0 (.int 0)).set 0 (.int 1))))] _ := hP
  have hD : va_D A [(h0, .inr (12, ((fs.set 0 (.int 0)).set 0 (.int 1))))] := hD
  obtain rfl : r_1 = 0 := wr_1.trans (rfl)
  refine lv_if_eq (tgt := 27) hx hb dX12_mended_10 (by decide) (fun _ => ?_) (fun c9 => absurd c9 (by decide))
  refine lv_iconst (v := 0) hx hb dX12_mended_27 (by decide) ?_
  have hP9 := hP.sub (ws' := [(h0, .inr (12, ((fs.set 0 (.int 0)).set 0 (.int 1))))]) [0] rfl
  have hD9 := hD.sub (ws' := [(h0, .inr (12, ((fs.set 0 (.int 0)).set 0 (.int 1))))]) [0] (by decide) rfl
  exact W.iret (v := 0) hx hb hr (fun t ht hW => ⟨⟨0, (), rfl, trivial, ⟨((fs.set 0 (.int 0)).set 0 (.int 1)), by simp only [List.length_set]; exact hfs, List.getElem?_set_self (by simp only [List.length_set, hfs]; decide), by rw [ht]; exact hP9, hD9⟩⟩, hS.F ht⟩) hS.2.2 dX12_mended_28
theorem dX12_leap_0 : decode cX12_leap 0 = .ok (.aload_n 0, 1) := by decide +kernel
theorem dX12_leap_1 : decode cX12_leap 1 = .ok (.iconst 0, 1) := by decide +kernel
theorem dX12_leap_10 : decode cX12_leap 10 = .ok (.ifCond .ne 5, 3) := by decide +kernel
theorem dX12_leap_13 : decode cX12_leap 13 = .ok (.iconst 0, 1) := by decide +kernel
theorem dX12_leap_14 : decode cX12_leap 14 = .ok (.ireturn, 1) := by decide +kernel
theorem dX12_leap_2 : decode cX12_leap 2 = .ok (.putfield 1, 3) := by decide +kernel
theorem dX12_leap_5 : decode cX12_leap 5 = .ok (.aload_n 0, 1) := by decide +kernel
theorem dX12_leap_6 : decode cX12_leap 6 = .ok (.iload_n 1, 1) := by decide +kernel
theorem dX12_leap_7 : decode cX12_leap 7 = .ok (.invokevirtual 436, 3) := by decide +kernel
set_option maxRecDepth 20000 in
theorem ggX12_leap_X12_isShot : GoodIn wsX12_leap wsX12_isShot := goodIn_r _ [7, 8, 9, 10, 6, 11, 12, 13, 14, 15, 1, 30, 31, 32, 33, 34, 35, 36, 37, 38, 39, 40, 41, 42, 43, 44, 45, 46, 47, 48, 49, 50, 51, 52, 53, 54, 55, 56, 57, 58, 59, 60, 61, 62, 63, 64, 65, 66, 67, 68, 69, 70, 71, 72, 73, 74, 75, 76, 77, 78, 79, 80, 81, 82, 83, 84, 85, 86, 87, 88, 89, 90, 91, 92, 93, 94, 95, 96, 97, 98, 99, 100, 101, 102, 103, 104, 105, 106, 107, 108, 109, 110, 111, 112, 113, 114, 115, 116, 117, 118, 119, 120, 121, 122, 123, 124, 125, 126, 127, 128, 129, 130, 131, 132, 133, 134, 135, 136, 137, 138] (by decide +kernel) (by decide +kernel)
set_option maxRecDepth 20000 in
theorem gX12_leap_X12_isShot : GoodIn wsX12_leap (wsV RX12 436 RX12 yX12_isShot wsX12_isShot) := goodIn_app (goodIn_of _ (by decide +kernel)) ggX12_leap_X12_isShot
set_option maxHeartbeats 4000000 in
set_option maxRecDepth 100000 in
theorem c_X12_leap (l : Launch) (D : va_G) (cT : Nat → ClassId) (h0 : Nat) (p0 : Int32) (p1 : Int32) (fs : List Value) (m_th : Int32) (sz : Nat) (hfs : fs.length = 109) (hfs_0 : fs[0]? = some (.int m_th)) (hfs_1 : fs[1]? = some (.int 0)) (hfs_38 : fs[38]? = some (.int 0)) : Met l yX12_leap wsX12_leap ({ frames := 10, cells := 0, slots := 0, locals := 280 }) (va_Pc [.ref h0, .int p0, .int p1] (PW D cT [(h0, .inr (12, fs))] sz)) (va_Qi (fun (r : Int32) (_ : Unit) => True) (fun (_ : Unit) (t : State) => ∃ (gs : List Value), (gs.length = 109) ∧ (gs[0]? = some (.int 1)) ∧ va_P D vwCl [(h0, .inr (12, gs))] t.heap ∧ va_D (va_A [(h0, .inr (12, fs))] sz) [(h0, .inr (12, gs))]) (va_A [(h0, .inr (12, fs))] sz)) 0 0 (va_A [(h0, .inr (12, fs))] sz) := by
  refine Met.ofW (cc := cX12_leap) (maxL := 6) (ret := (some .int)) (by decide) rfl ?_
  intro p e s m args below meth c s₁ B hml hv
  obtain ⟨rfl, hsz, hP, hK, hD0, hG⟩ := hv
  have hx := B.exec
  have hb := B.bytes
  have hr := B.returns
  have hts := atoms_spec (ws := wsX12_leap) B.pre
  have hown : s.vm.findClass RX12 = some m.cls := findClass_of_methodNamed B.named
  have hlocks := B.notSynchronized
  subst hsz
  have hD := hD0.self (sz := s.heap.size)
  generalize hAe : va_A [(h0, .inr (12, fs))] s.heap.size = A at hD ⊢
  have hA : ∀ q : Nat, s.heap.size ≤ q → A q := fun q h => by rw [← hAe]; exact Or.inr h
  have hS : va_S A s.heap s.heap [] := va_S.rf
  have hP : va_P D vwCl [(h0, .inr (12, fs))] s.heap := hP
  have hl := lv_entry ([.ref h0, .int p0, .int p1]) (n := 6) (Nat.le_of_ble_eq_true rfl)
  rw [lg_entry_eq]
  generalize (lg_sl ([.ref h0, .int p0, .int p1]) ++ List.replicate (6 - (lg_sl ([.ref h0, .int p0, .int p1])).length) Slot.unset).toArray = ls at hl ⊢
  have hl : lv_has ls 6 [(0, .ref h0), (1, .int p0), (2, .int p1)] := hl
  refine lv_aload_n hx hb dX12_leap_0 rfl (lv_at hl 0 rfl) ?_
  refine lv_iconst (v := 0) hx hb dX12_leap_1 (by decide) ?_
  refine va_put (D := D) (ci := 12) (v := .int 0) (ty := .int) (C := RX12) (T := TX12) (N := 109) hx hb hts (fun _ h => List.mem_cons_of_mem _ (List.mem_append_right _ h)) tyX12 tyX12_ok nmX12 hown hK hP hD hS 0 rfl rfl 0 (by decide) (hts (.fieldLink RX12 1 "PuppetFilmModel" "thrown" "I") (List.mem_of_getElem? (i := 1) (by decide +kernel))) (fun _ h9 => h9) rfl (by decide +kernel) rfl rfl (by simp only [List.length_set, hfs]; decide) dX12_leap_2 (fun H locs hP hD hS => ?_)
  have hP : va_P D vwCl [(h0, .inr (12, (fs.set 0 (.int 0))))] _ := hP
  have hD : va_D A [(h0, .inr (12, (fs.set 0 (.int 0))))] := hD
  refine lv_aload_n hx hb dX12_leap_5 rfl (lv_at hl 0 rfl) ?_
  refine lv_iload_n hx hb dX12_leap_6 rfl (lv_at hl 1 rfl) ?_
  have hF := va_free (wc := [(h0, .inr (12, (fs.set 0 (.int 0))))]) hD hS hA [0] rfl
  refine va_calli (va_runV (As := [.int p0]) (rest := []) ⟨hx, hb, hml, hown, hts⟩ (c_X12_isShot l D cT h0 p0 (fs.set 0 (.int 0)) _ (by simp only [List.length_set]; exact hfs) (List.getElem?_set_self (by simp only [List.length_set, hfs]; decide)) ((List.getElem?_set_ne (by decide)).trans (hfs_38))) (cwV 1 hts gX12_leap_X12_isShot rfl rfl rfl (by decide +kernel) ⟨Nat.le_of_ble_eq_true rfl, Nat.le_of_ble_eq_true rfl⟩) (pv_w hP hD hK hG [0] rfl rfl rfl 0 rfl rfl) rfl rfl hl.1 rfl (lv_room (Nat.le_of_ble_eq_true rfl)) dX12_leap_7 ⟨Nat.le_of_ble_eq_true rfl, Nat.le_of_ble_eq_true rfl⟩) hS (fun q _ h => hF q h) hF (fun r_1 uu9 tt9 H locs ht hvm wr_1 hB hz1 hk1 hS => ?_)
  obtain ⟨hP1, hD1⟩ := hB
  rw [ht] at hP1
  obtain ⟨hP, hD⟩ := va_join (wr := []) (w1 := [(h0, .inr (12, ((fs.set 0 (.int 0)).set 0 (.int 1))))]) hP hD [0] [] rfl rfl (by decide) (by decide) hk1 hF hP1 hD1
  have hP : va_P D vwCl [(h0, .inr (12, ((fs.set 0 (.int 0)).set 0 (.int 1))))] _ := hP
  have hD : va_D A [(h0, .inr (12, ((fs.set 0 (.int 0)).set 0 (.int 1))))] := hD
  obtain rfl : r_1 = 0 := wr_1.trans (rfl)
  refine lv_if_ne (tgt := 15) hx hb dX12_leap_10 (by decide) (fun c9 => absurd c9 (by decide)) (fun _ => ?_)
  refine lv_iconst (v := 0) hx hb dX12_leap_13 (by decide) ?_
  have hP9 := hP.sub (ws' := [(h0, .inr (12, ((fs.set 0 (.int 0)).set 0 (.int 1))))]) [0] rfl
  have hD9 := hD.sub (ws' := [(h0, .inr (12, ((fs.set 0 (.int 0)).set 0 (.int 1))))]) [0] (by decide) rfl
  exact W.iret (v := 0) hx hb hr (fun t ht hW => ⟨⟨0, (), rfl, trivial, ⟨((fs.set 0 (.int 0)).set 0 (.int 1)), by simp only [List.length_set]; exact hfs, List.getElem?_set_self (by simp only [List.length_set, hfs]; decide), by rw [ht]; exact hP9, hD9⟩⟩, hS.F ht⟩) hS.2.2 dX12_leap_14
theorem dX12_paint_0 : decode cX12_paint 0 = .ok (.aload_n 0, 1) := by decide +kernel
theorem dX12_paint_1 : decode cX12_paint 1 = .ok (.iconst 0, 1) := by decide +kernel
theorem dX12_paint_10 : decode cX12_paint 10 = .ok (.ifCond .eq 39, 3) := by decide +kernel
theorem dX12_paint_2 : decode cX12_paint 2 = .ok (.putfield 1, 3) := by decide +kernel
theorem dX12_paint_49 : decode cX12_paint 49 = .ok (.iconst 0, 1) := by decide +kernel
theorem dX12_paint_5 : decode cX12_paint 5 = .ok (.aload_n 0, 1) := by decide +kernel
theorem dX12_paint_50 : decode cX12_paint 50 = .ok (.ireturn, 1) := by decide +kernel
theorem dX12_paint_6 : decode cX12_paint 6 = .ok (.iload_n 1, 1) := by decide +kernel
theorem dX12_paint_7 : decode cX12_paint 7 = .ok (.invokevirtual 436, 3) := by decide +kernel
set_option maxRecDepth 20000 in
theorem ggX12_paint_X12_isShot : GoodIn wsX12_paint wsX12_isShot := goodIn_r _ [7, 8, 9, 10, 6, 11, 12, 13, 14, 15, 1, 24, 25, 26, 27, 28, 29, 30, 31, 32, 33, 34, 35, 36, 37, 38, 39, 40, 41, 42, 43, 44, 45, 46, 47, 48, 49, 50, 51, 52, 53, 54, 55, 56, 57, 58, 59, 60, 61, 62, 63, 64, 65, 66, 67, 68, 69, 70, 71, 72, 73, 74, 75, 76, 77, 78, 79, 80, 81, 82, 83, 84, 85, 86, 87, 88, 89, 90, 91, 92, 93, 94, 95, 96, 97, 98, 99, 100, 101, 102, 103, 104, 105, 106, 107, 108, 109, 110, 111, 112, 113, 114, 115, 116, 117, 118, 119, 120, 121, 122, 123, 124, 125, 126, 127, 128, 129, 130, 131, 132] (by decide +kernel) (by decide +kernel)
set_option maxRecDepth 20000 in
theorem gX12_paint_X12_isShot : GoodIn wsX12_paint (wsV RX12 436 RX12 yX12_isShot wsX12_isShot) := goodIn_app (goodIn_of _ (by decide +kernel)) ggX12_paint_X12_isShot
set_option maxHeartbeats 4000000 in
set_option maxRecDepth 100000 in
theorem c_X12_paint (l : Launch) (D : va_G) (cT : Nat → ClassId) (h0 : Nat) (p0 : Int32) (p1 : Int32) (p2 : Int32) (p3 : Int32) (fs : List Value) (m_th : Int32) (sz : Nat) (hfs : fs.length = 109) (hfs_0 : fs[0]? = some (.int m_th)) (hfs_1 : fs[1]? = some (.int 0)) (hfs_38 : fs[38]? = some (.int 0)) : Met l yX12_paint wsX12_paint ({ frames := 10, cells := 0, slots := 0, locals := 280 }) (va_Pc [.ref h0, .int p0, .int p1, .int p2, .int p3] (PW D cT [(h0, .inr (12, fs))] sz)) (va_Qi (fun (r : Int32) (_ : Unit) => True) (fun (_ : Unit) (t : State) => ∃ (gs : List Value), (gs.length = 109) ∧ (gs[0]? = some (.int 1)) ∧ va_P D vwCl [(h0, .inr (12, gs))] t.heap ∧ va_D (va_A [(h0, .inr (12, fs))] sz) [(h0, .inr (12, gs))]) (va_A [(h0, .inr (12, fs))] sz)) 0 0 (va_A [(h0, .inr (12, fs))] sz) := by
  refine Met.ofW (cc := cX12_paint) (maxL := 7) (ret := (some .int)) (by decide) rfl ?_
  intro p e s m args below meth c s₁ B hml hv
  obtain ⟨rfl, hsz, hP, hK, hD0, hG⟩ := hv
  have hx := B.exec
  have hb := B.bytes
  have hr := B.returns
  have hts := atoms_spec (ws := wsX12_paint) B.pre
  have hown : s.vm.findClass RX12 = some m.cls := findClass_of_methodNamed B.named
  have hlocks := B.notSynchronized
  subst hsz
  have hD := hD0.self (sz := s.heap.size)
  generalize hAe : va_A [(h0, .inr (12, fs))] s.heap.size = A at hD ⊢
  have hA : ∀ q : Nat, s.heap.size ≤ q → A q := fun q h => by rw [← hAe]; exact Or.inr h
  have hS : va_S A s.heap s.heap [] := va_S.rf
  have hP : va_P D vwCl [(h0, .inr (12, fs))] s.heap := hP
  have hl := lv_entry ([.ref h0, .int p0, .int p1, .int p2, .int p3]) (n := 7) (Nat.le_of_ble_eq_true rfl)
  rw [lg_entry_eq]
  generalize (lg_sl ([.ref h0, .int p0, .int p1, .int p2, .int p3]) ++ List.replicate (7 - (lg_sl ([.ref h0, .int p0, .int p1, .int p2, .int p3])).length) Slot.unset).toArray = ls at hl ⊢
  have hl : lv_has ls 7 [(0, .ref h0), (1, .int p0), (2, .int p1), (3, .int p2), (4, .int p3)] := hl
  refine lv_aload_n hx hb dX12_paint_0 rfl (lv_at hl 0 rfl) ?_
  refine lv_iconst (v := 0) hx hb dX12_paint_1 (by decide) ?_
  refine va_put (D := D) (ci := 12) (v := .int 0) (ty := .int) (C := RX12) (T := TX12) (N := 109) hx hb hts (fun _ h => List.mem_cons_of_mem _ (List.mem_append_right _ h)) tyX12 tyX12_ok nmX12 hown hK hP hD hS 0 rfl rfl 0 (by decide) (hts (.fieldLink RX12 1 "PuppetFilmModel" "thrown" "I") (List.mem_of_getElem? (i := 1) (by decide +kernel))) (fun _ h9 => h9) rfl (by decide +kernel) rfl rfl (by simp only [List.length_set, hfs]; decide) dX12_paint_2 (fun H locs hP hD hS => ?_)
  have hP : va_P D vwCl [(h0, .inr (12, (fs.set 0 (.int 0))))] _ := hP
  have hD : va_D A [(h0, .inr (12, (fs.set 0 (.int 0))))] := hD
  refine lv_aload_n hx hb dX12_paint_5 rfl (lv_at hl 0 rfl) ?_
  refine lv_iload_n hx hb dX12_paint_6 rfl (lv_at hl 1 rfl) ?_
  have hF := va_free (wc := [(h0, .inr (12, (fs.set 0 (.int 0))))]) hD hS hA [0] rfl
  refine va_calli (va_runV (As := [.int p0]) (rest := []) ⟨hx, hb, hml, hown, hts⟩ (c_X12_isShot l D cT h0 p0 (fs.set 0 (.int 0)) _ (by simp only [List.length_set]; exact hfs) (List.getElem?_set_self (by simp only [List.length_set, hfs]; decide)) ((List.getElem?_set_ne (by decide)).trans (hfs_38))) (cwV 1 hts gX12_paint_X12_isShot rfl rfl rfl (by decide +kernel) ⟨Nat.le_of_ble_eq_true rfl, Nat.le_of_ble_eq_true rfl⟩) (pv_w hP hD hK hG [0] rfl rfl rfl 0 rfl rfl) rfl rfl hl.1 rfl (lv_room (Nat.le_of_ble_eq_true rfl)) dX12_paint_7 ⟨Nat.le_of_ble_eq_true rfl, Nat.le_of_ble_eq_true rfl⟩) hS (fun q _ h => hF q h) hF (fun r_1 uu9 tt9 H locs ht hvm wr_1 hB hz1 hk1 hS => ?_)
  obtain ⟨hP1, hD1⟩ := hB
  rw [ht] at hP1
  obtain ⟨hP, hD⟩ := va_join (wr := []) (w1 := [(h0, .inr (12, ((fs.set 0 (.int 0)).set 0 (.int 1))))]) hP hD [0] [] rfl rfl (by decide) (by decide) hk1 hF hP1 hD1
  have hP : va_P D vwCl [(h0, .inr (12, ((fs.set 0 (.int 0)).set 0 (.int 1))))] _ := hP
  have hD : va_D A [(h0, .inr (12, ((fs.set 0 (.int 0)).set 0 (.int 1))))] := hD
  obtain rfl : r_1 = 0 := wr_1.trans (rfl)
  refine lv_if_eq (tgt := 49) hx hb dX12_paint_10 (by decide) (fun _ => ?_) (fun c9 => absurd c9 (by decide))
  refine lv_iconst (v := 0) hx hb dX12_paint_49 (by decide) ?_
  have hP9 := hP.sub (ws' := [(h0, .inr (12, ((fs.set 0 (.int 0)).set 0 (.int 1))))]) [0] rfl
  have hD9 := hD.sub (ws' := [(h0, .inr (12, ((fs.set 0 (.int 0)).set 0 (.int 1))))]) [0] (by decide) rfl
  exact W.iret (v := 0) hx hb hr (fun t ht hW => ⟨⟨0, (), rfl, trivial, ⟨((fs.set 0 (.int 0)).set 0 (.int 1)), by simp only [List.length_set]; exact hfs, List.getElem?_set_self (by simp only [List.length_set, hfs]; decide), by rw [ht]; exact hP9, hD9⟩⟩, hS.F ht⟩) hS.2.2 dX12_paint_50
theorem dX12_dirty_0 : decode cX12_dirty 0 = .ok (.aload_n 0, 1) := by decide +kernel
theorem dX12_dirty_1 : decode cX12_dirty 1 = .ok (.iconst 0, 1) := by decide +kernel
theorem dX12_dirty_10 : decode cX12_dirty 10 = .ok (.ifCond .ne 5, 3) := by decide +kernel
theorem dX12_dirty_13 : decode cX12_dirty 13 = .ok (.iconst 0, 1) := by decide +kernel
theorem dX12_dirty_14 : decode cX12_dirty 14 = .ok (.ireturn, 1) := by decide +kernel
theorem dX12_dirty_2 : decode cX12_dirty 2 = .ok (.putfield 1, 3) := by decide +kernel
theorem dX12_dirty_5 : decode cX12_dirty 5 = .ok (.aload_n 0, 1) := by decide +kernel
theorem dX12_dirty_6 : decode cX12_dirty 6 = .ok (.iload_n 1, 1) := by decide +kernel
theorem dX12_dirty_7 : decode cX12_dirty 7 = .ok (.invokevirtual 436, 3) := by decide +kernel
set_option maxRecDepth 20000 in
theorem ggX12_dirty_X12_isShot : GoodIn wsX12_dirty wsX12_isShot := goodIn_r _ [7, 8, 9, 10, 6, 11, 12, 13, 14, 15, 1, 25, 26, 27, 28, 29, 30, 31, 32, 33, 34, 35, 36, 37, 38, 39, 40, 41, 42, 43, 44, 45, 46, 47, 48, 49, 50, 51, 52, 53, 54, 55, 56, 57, 58, 59, 60, 61, 62, 63, 64, 65, 66, 67, 68, 69, 70, 71, 72, 73, 74, 75, 76, 77, 78, 79, 80, 81, 82, 83, 84, 85, 86, 87, 88, 89, 90, 91, 92, 93, 94, 95, 96, 97, 98, 99, 100, 101, 102, 103, 104, 105, 106, 107, 108, 109, 110, 111, 112, 113, 114, 115, 116, 117, 118, 119, 120, 121, 122, 123, 124, 125, 126, 127, 128, 129, 130, 131, 132, 133] (by decide +kernel) (by decide +kernel)
set_option maxRecDepth 20000 in
theorem gX12_dirty_X12_isShot : GoodIn wsX12_dirty (wsV RX12 436 RX12 yX12_isShot wsX12_isShot) := goodIn_app (goodIn_of _ (by decide +kernel)) ggX12_dirty_X12_isShot
set_option maxHeartbeats 4000000 in
set_option maxRecDepth 100000 in
theorem c_X12_dirty (l : Launch) (D : va_G) (cT : Nat → ClassId) (h0 : Nat) (p0 : Int32) (p1 : Int32) (fs : List Value) (m_th : Int32) (sz : Nat) (hfs : fs.length = 109) (hfs_0 : fs[0]? = some (.int m_th)) (hfs_1 : fs[1]? = some (.int 0)) (hfs_38 : fs[38]? = some (.int 0)) : Met l yX12_dirty wsX12_dirty ({ frames := 10, cells := 0, slots := 0, locals := 280 }) (va_Pc [.ref h0, .int p0, .int p1] (PW D cT [(h0, .inr (12, fs))] sz)) (va_Qi (fun (r : Int32) (_ : Unit) => True) (fun (_ : Unit) (t : State) => ∃ (gs : List Value), (gs.length = 109) ∧ (gs[0]? = some (.int 1)) ∧ va_P D vwCl [(h0, .inr (12, gs))] t.heap ∧ va_D (va_A [(h0, .inr (12, fs))] sz) [(h0, .inr (12, gs))]) (va_A [(h0, .inr (12, fs))] sz)) 0 0 (va_A [(h0, .inr (12, fs))] sz) := by
  refine Met.ofW (cc := cX12_dirty) (maxL := 4) (ret := (some .int)) (by decide) rfl ?_
  intro p e s m args below meth c s₁ B hml hv
  obtain ⟨rfl, hsz, hP, hK, hD0, hG⟩ := hv
  have hx := B.exec
  have hb := B.bytes
  have hr := B.returns
  have hts := atoms_spec (ws := wsX12_dirty) B.pre
  have hown : s.vm.findClass RX12 = some m.cls := findClass_of_methodNamed B.named
  have hlocks := B.notSynchronized
  subst hsz
  have hD := hD0.self (sz := s.heap.size)
  generalize hAe : va_A [(h0, .inr (12, fs))] s.heap.size = A at hD ⊢
  have hA : ∀ q : Nat, s.heap.size ≤ q → A q := fun q h => by rw [← hAe]; exact Or.inr h
  have hS : va_S A s.heap s.heap [] := va_S.rf
  have hP : va_P D vwCl [(h0, .inr (12, fs))] s.heap := hP
  have hl := lv_entry ([.ref h0, .int p0, .int p1]) (n := 4) (Nat.le_of_ble_eq_true rfl)
  rw [lg_entry_eq]
  generalize (lg_sl ([.ref h0, .int p0, .int p1]) ++ List.replicate (4 - (lg_sl ([.ref h0, .int p0, .int p1])).length) Slot.unset).toArray = ls at hl ⊢
  have hl : lv_has ls 4 [(0, .ref h0), (1, .int p0), (2, .int p1)] := hl
  refine lv_aload_n hx hb dX12_dirty_0 rfl (lv_at hl 0 rfl) ?_
  refine lv_iconst (v := 0) hx hb dX12_dirty_1 (by decide) ?_
  refine va_put (D := D) (ci := 12) (v := .int 0) (ty := .int) (C := RX12) (T := TX12) (N := 109) hx hb hts (fun _ h => List.mem_cons_of_mem _ (List.mem_append_right _ h)) tyX12 tyX12_ok nmX12 hown hK hP hD hS 0 rfl rfl 0 (by decide) (hts (.fieldLink RX12 1 "PuppetFilmModel" "thrown" "I") (List.mem_of_getElem? (i := 1) (by decide +kernel))) (fun _ h9 => h9) rfl (by decide +kernel) rfl rfl (by simp only [List.length_set, hfs]; decide) dX12_dirty_2 (fun H locs hP hD hS => ?_)
  have hP : va_P D vwCl [(h0, .inr (12, (fs.set 0 (.int 0))))] _ := hP
  have hD : va_D A [(h0, .inr (12, (fs.set 0 (.int 0))))] := hD
  refine lv_aload_n hx hb dX12_dirty_5 rfl (lv_at hl 0 rfl) ?_
  refine lv_iload_n hx hb dX12_dirty_6 rfl (lv_at hl 1 rfl) ?_
  have hF := va_free (wc := [(h0, .inr (12, (fs.set 0 (.int 0))))]) hD hS hA [0] rfl
  refine va_calli (va_runV (As := [.int p0]) (rest := []) ⟨hx, hb, hml, hown, hts⟩ (c_X12_isShot l D cT h0 p0 (fs.set 0 (.int 0)) _ (by simp only [List.length_set]; exact hfs) (List.getElem?_set_self (by simp only [List.length_set, hfs]; decide)) ((List.getElem?_set_ne (by decide)).trans (hfs_38))) (cwV 1 hts gX12_dirty_X12_isShot rfl rfl rfl (by decide +kernel) ⟨Nat.le_of_ble_eq_true rfl, Nat.le_of_ble_eq_true rfl⟩) (pv_w hP hD hK hG [0] rfl rfl rfl 0 rfl rfl) rfl rfl hl.1 rfl (lv_room (Nat.le_of_ble_eq_true rfl)) dX12_dirty_7 ⟨Nat.le_of_ble_eq_true rfl, Nat.le_of_ble_eq_true rfl⟩) hS (fun q _ h => hF q h) hF (fun r_1 uu9 tt9 H locs ht hvm wr_1 hB hz1 hk1 hS => ?_)
  obtain ⟨hP1, hD1⟩ := hB
  rw [ht] at hP1
  obtain ⟨hP, hD⟩ := va_join (wr := []) (w1 := [(h0, .inr (12, ((fs.set 0 (.int 0)).set 0 (.int 1))))]) hP hD [0] [] rfl rfl (by decide) (by decide) hk1 hF hP1 hD1
  have hP : va_P D vwCl [(h0, .inr (12, ((fs.set 0 (.int 0)).set 0 (.int 1))))] _ := hP
  have hD : va_D A [(h0, .inr (12, ((fs.set 0 (.int 0)).set 0 (.int 1))))] := hD
  obtain rfl : r_1 = 0 := wr_1.trans (rfl)
  refine lv_if_ne (tgt := 15) hx hb dX12_dirty_10 (by decide) (fun c9 => absurd c9 (by decide)) (fun _ => ?_)
  refine lv_iconst (v := 0) hx hb dX12_dirty_13 (by decide) ?_
  have hP9 := hP.sub (ws' := [(h0, .inr (12, ((fs.set 0 (.int 0)).set 0 (.int 1))))]) [0] rfl
  have hD9 := hD.sub (ws' := [(h0, .inr (12, ((fs.set 0 (.int 0)).set 0 (.int 1))))]) [0] (by decide) rfl
  exact W.iret (v := 0) hx hb hr (fun t ht hW => ⟨⟨0, (), rfl, trivial, ⟨((fs.set 0 (.int 0)).set 0 (.int 1)), by simp only [List.length_set]; exact hfs, List.getElem?_set_self (by simp only [List.length_set, hfs]; decide), by rw [ht]; exact hP9, hD9⟩⟩, hS.F ht⟩) hS.2.2 dX12_dirty_14
theorem dX12_queue_0 : decode cX12_queue 0 = .ok (.aload_n 0, 1) := by decide +kernel
theorem dX12_queue_1 : decode cX12_queue 1 = .ok (.iconst 0, 1) := by decide +kernel
theorem dX12_queue_10 : decode cX12_queue 10 = .ok (.ifCond .eq 17, 3) := by decide +kernel
theorem dX12_queue_2 : decode cX12_queue 2 = .ok (.putfield 1, 3) := by decide +kernel
theorem dX12_queue_27 : decode cX12_queue 27 = .ok (.iconst 0, 1) := by decide +kernel
theorem dX12_queue_28 : decode cX12_queue 28 = .ok (.ireturn, 1) := by decide +kernel
theorem dX12_queue_5 : decode cX12_queue 5 = .ok (.aload_n 0, 1) := by decide +kernel
theorem dX12_queue_6 : decode cX12_queue 6 = .ok (.iload_n 2, 1) := by decide +kernel
theorem dX12_queue_7 : decode cX12_queue 7 = .ok (.invokevirtual 436, 3) := by decide +kernel
set_option maxRecDepth 20000 in
theorem ggX12_queue_X12_isShot : GoodIn wsX12_queue wsX12_isShot := goodIn_r _ [8, 9, 10, 11, 7, 12, 13, 14, 15, 16, 1, 28, 29, 30, 31, 32, 33, 34, 35, 36, 37, 38, 39, 40, 41, 42, 43, 44, 45, 46, 47, 48, 49, 50, 51, 52, 53, 54, 55, 56, 57, 58, 59, 60, 61, 62, 63, 64, 65, 66, 67, 68, 69, 70, 71, 72, 73, 74, 75, 76, 77, 78, 79, 80, 81, 82, 83, 84, 85, 86, 87, 88, 89, 90, 91, 92, 93, 94, 95, 96, 97, 98, 99, 100, 101, 102, 103, 104, 105, 106, 107, 108, 109, 110, 111, 112, 113, 114, 115, 116, 117, 118, 119, 120, 121, 122, 123, 124, 125, 126, 127, 128, 129, 130, 131, 132, 133, 134, 135, 136] (by decide +kernel) (by decide +kernel)
set_option maxRecDepth 20000 in
theorem gX12_queue_X12_isShot : GoodIn wsX12_queue (wsV RX12 436 RX12 yX12_isShot wsX12_isShot) := goodIn_app (goodIn_of _ (by decide +kernel)) ggX12_queue_X12_isShot
set_option maxHeartbeats 4000000 in
set_option maxRecDepth 100000 in
theorem c_X12_queue (l : Launch) (D : va_G) (cT : Nat → ClassId) (h0 : Nat) (p0 : Int32) (p1 : Int32) (fs : List Value) (m_th : Int32) (sz : Nat) (hfs : fs.length = 109) (hfs_0 : fs[0]? = some (.int m_th)) (hfs_1 : fs[1]? = some (.int 0)) (hfs_38 : fs[38]? = some (.int 0)) : Met l yX12_queue wsX12_queue ({ frames := 10, cells := 0, slots := 0, locals := 280 }) (va_Pc [.ref h0, .int p0, .int p1] (PW D cT [(h0, .inr (12, fs))] sz)) (va_Qi (fun (r : Int32) (_ : Unit) => True) (fun (_ : Unit) (t : State) => ∃ (gs : List Value), (gs.length = 109) ∧ (gs[0]? = some (.int 1)) ∧ va_P D vwCl [(h0, .inr (12, gs))] t.heap ∧ va_D (va_A [(h0, .inr (12, fs))] sz) [(h0, .inr (12, gs))]) (va_A [(h0, .inr (12, fs))] sz)) 0 0 (va_A [(h0, .inr (12, fs))] sz) := by
  refine Met.ofW (cc := cX12_queue) (maxL := 3) (ret := (some .int)) (by decide) rfl ?_
  intro p e s m args below meth c s₁ B hml hv
  obtain ⟨rfl, hsz, hP, hK, hD0, hG⟩ := hv
  have hx := B.exec
  have hb := B.bytes
  have hr := B.returns
  have hts := atoms_spec (ws := wsX12_queue) B.pre
  have hown : s.vm.findClass RX12 = some m.cls := findClass_of_methodNamed B.named
  have hlocks := B.notSynchronized
  subst hsz
  have hD := hD0.self (sz := s.heap.size)
  generalize hAe : va_A [(h0, .inr (12, fs))] s.heap.size = A at hD ⊢
  have hA : ∀ q : Nat, s.heap.size ≤ q → A q := fun q h => by rw [← hAe]; exact Or.inr h
  have hS : va_S A s.heap s.heap [] := va_S.rf
  have hP : va_P D vwCl [(h0, .inr (12, fs))] s.heap := hP
  have hl := lv_entry ([.ref h0, .int p0, .int p1]) (n := 3) (Nat.le_of_ble_eq_true rfl)
  rw [lg_entry_eq]
  generalize (lg_sl ([.ref h0, .int p0, .int p1]) ++ List.replicate (3 - (lg_sl ([.ref h0, .int p0, .int p1])).length) Slot.unset).toArray = ls at hl ⊢
  have hl : lv_has ls 3 [(0, .ref h0), (1, .int p0), (2, .int p1)] := hl
  refine lv_aload_n hx hb dX12_queue_0 rfl (lv_at hl 0 rfl) ?_
  refine lv_iconst (v := 0) hx hb dX12_queue_1 (by decide) ?_
  refine va_put (D := D) (ci := 12) (v := .int 0) (ty := .int) (C := RX12) (T := TX12) (N := 109) hx hb hts (fun _ h => List.mem_cons_of_mem _ (List.mem_append_right _ h)) tyX12 tyX12_ok nmX12 hown hK hP hD hS 0 rfl rfl 0 (by decide) (hts (.fieldLink RX12 1 "PuppetFilmModel" "thrown" "I") (List.mem_of_getElem? (i := 1) (by decide +kernel))) (fun _ h9 => h9) rfl (by decide +kernel) rfl rfl (by simp only [List.length_set, hfs]; decide) dX12_queue_2 (fun H locs hP hD hS => ?_)
  have hP : va_P D vwCl [(h0, .inr (12, (fs.set 0 (.int 0))))] _ := hP
  have hD : va_D A [(h0, .inr (12, (fs.set 0 (.int 0))))] := hD
  refine lv_aload_n hx hb dX12_queue_5 rfl (lv_at hl 0 rfl) ?_
  refine lv_iload_n hx hb dX12_queue_6 rfl (lv_at hl 2 rfl) ?_
  have hF := va_free (wc := [(h0, .inr (12, (fs.set 0 (.int 0))))]) hD hS hA [0] rfl
  refine va_calli (va_runV (As := [.int p1]) (rest := []) ⟨hx, hb, hml, hown, hts⟩ (c_X12_isShot l D cT h0 p1 (fs.set 0 (.int 0)) _ (by simp only [List.length_set]; exact hfs) (List.getElem?_set_self (by simp only [List.length_set, hfs]; decide)) ((List.getElem?_set_ne (by decide)).trans (hfs_38))) (cwV 1 hts gX12_queue_X12_isShot rfl rfl rfl (by decide +kernel) ⟨Nat.le_of_ble_eq_true rfl, Nat.le_of_ble_eq_true rfl⟩) (pv_w hP hD hK hG [0] rfl rfl rfl 0 rfl rfl) rfl rfl hl.1 rfl (lv_room (Nat.le_of_ble_eq_true rfl)) dX12_queue_7 ⟨Nat.le_of_ble_eq_true rfl, Nat.le_of_ble_eq_true rfl⟩) hS (fun q _ h => hF q h) hF (fun r_1 uu9 tt9 H locs ht hvm wr_1 hB hz1 hk1 hS => ?_)
  obtain ⟨hP1, hD1⟩ := hB
  rw [ht] at hP1
  obtain ⟨hP, hD⟩ := va_join (wr := []) (w1 := [(h0, .inr (12, ((fs.set 0 (.int 0)).set 0 (.int 1))))]) hP hD [0] [] rfl rfl (by decide) (by decide) hk1 hF hP1 hD1
  have hP : va_P D vwCl [(h0, .inr (12, ((fs.set 0 (.int 0)).set 0 (.int 1))))] _ := hP
  have hD : va_D A [(h0, .inr (12, ((fs.set 0 (.int 0)).set 0 (.int 1))))] := hD
  obtain rfl : r_1 = 0 := wr_1.trans (rfl)
  refine lv_if_eq (tgt := 27) hx hb dX12_queue_10 (by decide) (fun _ => ?_) (fun c9 => absurd c9 (by decide))
  refine lv_iconst (v := 0) hx hb dX12_queue_27 (by decide) ?_
  have hP9 := hP.sub (ws' := [(h0, .inr (12, ((fs.set 0 (.int 0)).set 0 (.int 1))))]) [0] rfl
  have hD9 := hD.sub (ws' := [(h0, .inr (12, ((fs.set 0 (.int 0)).set 0 (.int 1))))]) [0] (by decide) rfl
  exact W.iret (v := 0) hx hb hr (fun t ht hW => ⟨⟨0, (), rfl, trivial, ⟨((fs.set 0 (.int 0)).set 0 (.int 1)), by simp only [List.length_set]; exact hfs, List.getElem?_set_self (by simp only [List.length_set, hfs]; decide), by rw [ht]; exact hP9, hD9⟩⟩, hS.F ht⟩) hS.2.2 dX12_queue_28
theorem dX12_joint_0 : decode cX12_joint 0 = .ok (.aload_n 0, 1) := by decide +kernel
theorem dX12_joint_1 : decode cX12_joint 1 = .ok (.iconst 0, 1) := by decide +kernel
theorem dX12_joint_11 : decode cX12_joint 11 = .ok (.ifCond .eq 75, 3) := by decide +kernel
theorem dX12_joint_2 : decode cX12_joint 2 = .ok (.putfield 1, 3) := by decide +kernel
theorem dX12_joint_5 : decode cX12_joint 5 = .ok (.aload_n 0, 1) := by decide +kernel
theorem dX12_joint_6 : decode cX12_joint 6 = .ok (.iload_n 1, 1) := by decide +kernel
theorem dX12_joint_7 : decode cX12_joint 7 = .ok (.iconst 1, 1) := by decide +kernel
theorem dX12_joint_8 : decode cX12_joint 8 = .ok (.invokevirtual 275, 3) := by decide +kernel
theorem dX12_joint_86 : decode cX12_joint 86 = .ok (.iconst 0, 1) := by decide +kernel
theorem dX12_joint_87 : decode cX12_joint 87 = .ok (.ireturn, 1) := by decide +kernel
set_option maxRecDepth 20000 in
theorem ggX12_joint_X12_isPuppet : GoodIn wsX12_joint wsX12_isPuppet := goodIn_r _ [12, 13, 14, 15, 11, 16, 17, 18, 19, 20, 1, 21, 22, 23, 24, 25, 26, 27, 28, 29, 30, 31, 32, 33, 34, 35, 36, 37, 38, 39, 40, 41, 42, 43, 44, 45, 46, 47, 48, 49, 50, 51, 52, 53, 54, 55, 56, 57, 58, 59, 60, 61, 62, 63, 64, 65, 66, 67, 68, 69, 70, 71, 72, 73, 74, 75, 76, 77, 78, 79, 80, 81, 82, 83, 84, 85, 86, 87, 88, 89, 90, 91, 92, 93, 94, 95, 96, 97, 98, 99, 100, 101, 102, 103, 104, 105, 106, 107, 108, 109, 110, 111, 112, 113, 114, 115, 116, 117, 118, 119, 120, 121, 122, 123, 124, 125, 126, 127, 128, 129] (by decide +kernel) (by decide +kernel)
set_option maxRecDepth 20000 in
theorem gX12_joint_X12_isPuppet : GoodIn wsX12_joint (wsV RX12 275 RX12 yX12_isPuppet wsX12_isPuppet) := goodIn_app (goodIn_of _ (by decide +kernel)) ggX12_joint_X12_isPuppet
set_option maxHeartbeats 4000000 in
set_option maxRecDepth 100000 in
theorem c_X12_joint (l : Launch) (D : va_G) (cT : Nat → ClassId) (h0 : Nat) (p0 : Int32) (p1 : Int32) (p2 : Int32) (p3 : Int32) (p4 : Int32) (p5 : Int32) (fs : List Value) (m_th : Int32) (sz : Nat) (hfs : fs.length = 109) (hfs_0 : fs[0]? = some (.int m_th)) (hfs_1 : fs[1]? = some (.int 0)) (hfs_38 : fs[38]? = some (.int 0)) : Met l yX12_joint wsX12_joint ({ frames := 10, cells := 0, slots := 0, locals := 280 }) (va_Pc [.ref h0, .int p0, .int p1, .int p2, .int p3, .int p4, .int p5] (PW D cT [(h0, .inr (12, fs))] sz)) (va_Qi (fun (r : Int32) (_ : Unit) => True) (fun (_ : Unit) (t : State) => ∃ (gs : List Value), (gs.length = 109) ∧ (gs[0]? = some (.int 1)) ∧ va_P D vwCl [(h0, .inr (12, gs))] t.heap ∧ va_D (va_A [(h0, .inr (12, fs))] sz) [(h0, .inr (12, gs))]) (va_A [(h0, .inr (12, fs))] sz)) 0 0 (va_A [(h0, .inr (12, fs))] sz) := by
  refine Met.ofW (cc := cX12_joint) (maxL := 8) (ret := (some .int)) (by decide) rfl ?_
  intro p e s m args below meth c s₁ B hml hv
  obtain ⟨rfl, hsz, hP, hK, hD0, hG⟩ := hv
  have hx := B.exec
  have hb := B.bytes
  have hr := B.returns
  have hts := atoms_spec (ws := wsX12_joint) B.pre
  have hown : s.vm.findClass RX12 = some m.cls := findClass_of_methodNamed B.named
  have hlocks := B.notSynchronized
  subst hsz
  have hD := hD0.self (sz := s.heap.size)
  generalize hAe : va_A [(h0, .inr (12, fs))] s.heap.size = A at hD ⊢
  have hA : ∀ q : Nat, s.heap.size ≤ q → A q := fun q h => by rw [← hAe]; exact Or.inr h
  have hS : va_S A s.heap s.heap [] := va_S.rf
  have hP : va_P D vwCl [(h0, .inr (12, fs))] s.heap := hP
  have hl := lv_entry ([.ref h0, .int p0, .int p1, .int p2, .int p3, .int p4, .int p5]) (n := 8) (Nat.le_of_ble_eq_true rfl)
  rw [lg_entry_eq]
  generalize (lg_sl ([.ref h0, .int p0, .int p1, .int p2, .int p3, .int p4, .int p5]) ++ List.replicate (8 - (lg_sl ([.ref h0, .int p0, .int p1, .int p2, .int p3, .int p4, .int p5])).length) Slot.unset).toArray = ls at hl ⊢
  have hl : lv_has ls 8 [(0, .ref h0), (1, .int p0), (2, .int p1), (3, .int p2), (4, .int p3), (5, .int p4), (6, .int p5)] := hl
  refine lv_aload_n hx hb dX12_joint_0 rfl (lv_at hl 0 rfl) ?_
  refine lv_iconst (v := 0) hx hb dX12_joint_1 (by decide) ?_
  refine va_put (D := D) (ci := 12) (v := .int 0) (ty := .int) (C := RX12) (T := TX12) (N := 109) hx hb hts (fun _ h => List.mem_cons_of_mem _ (List.mem_append_right _ h)) tyX12 tyX12_ok nmX12 hown hK hP hD hS 0 rfl rfl 0 (by decide) (hts (.fieldLink RX12 1 "PuppetFilmModel" "thrown" "I") (List.mem_of_getElem? (i := 1) (by decide +kernel))) (fun _ h9 => h9) rfl (by decide +kernel) rfl rfl (by simp only [List.length_set, hfs]; decide) dX12_joint_2 (fun H locs hP hD hS => ?_)
  have hP : va_P D vwCl [(h0, .inr (12, (fs.set 0 (.int 0))))] _ := hP
  have hD : va_D A [(h0, .inr (12, (fs.set 0 (.int 0))))] := hD
  refine lv_aload_n hx hb dX12_joint_5 rfl (lv_at hl 0 rfl) ?_
  refine lv_iload_n hx hb dX12_joint_6 rfl (lv_at hl 1 rfl) ?_
  refine lv_iconst (v := 1) hx hb dX12_joint_7 (by decide) ?_
  have hF := va_free (wc := [(h0, .inr (12, (fs.set 0 (.int 0))))]) hD hS hA [0] rfl
  refine va_calli (va_runV (As := [.int p0, .int 1]) (rest := []) ⟨hx, hb, hml, hown, hts⟩ (c_X12_isPuppet l D cT h0 p0 (fs.set 0 (.int 0)) _ (by simp only [List.length_set]; exact hfs) (List.getElem?_set_self (by simp only [List.length_set, hfs]; decide)) ((List.getElem?_set_ne (by decide)).trans (hfs_1))) (cwV 2 hts gX12_joint_X12_isPuppet rfl rfl rfl (by decide +kernel) ⟨Nat.le_of_ble_eq_true rfl, Nat.le_of_ble_eq_true rfl⟩) (pv_w hP hD hK hG [0] rfl rfl rfl 0 rfl rfl) rfl rfl hl.1 rfl (lv_room (Nat.le_of_ble_eq_true rfl)) dX12_joint_8 ⟨Nat.le_of_ble_eq_true rfl, Nat.le_of_ble_eq_true rfl⟩) hS (fun q _ h => hF q h) hF (fun r_1 uu9 tt9 H locs ht hvm wr_1 hB hz1 hk1 hS => ?_)
  obtain ⟨hP1, hD1⟩ := hB
  rw [ht] at hP1
  obtain ⟨hP, hD⟩ := va_join (wr := []) (w1 := [(h0, .inr (12, ((fs.set 0 (.int 0)).set 0 (.int 1))))]) hP hD [0] [] rfl rfl (by decide) (by decide) hk1 hF hP1 hD1
  have hP : va_P D vwCl [(h0, .inr (12, ((fs.set 0 (.int 0)).set 0 (.int 1))))] _ := hP
  have hD : va_D A [(h0, .inr (12, ((fs.set 0 (.int 0)).set 0 (.int 1))))] := hD
  obtain rfl : r_1 = 0 := wr_1.trans (rfl)
  refine lv_if_eq (tgt := 86) hx hb dX12_joint_11 (by decide) (fun _ => ?_) (fun c9 => absurd c9 (by decide))
  refine lv_iconst (v := 0) hx hb dX12_joint_86 (by decide) ?_
  have hP9 := hP.sub (ws' := [(h0, .inr (12, ((fs.set 0 (.int 0)).set 0 (.int 1))))]) [0] rfl
  have hD9 := hD.sub (ws' := [(h0, .inr (12, ((fs.set 0 (.int 0)).set 0 (.int 1))))]) [0] (by decide) rfl
  exact W.iret (v := 0) hx hb hr (fun t ht hW => ⟨⟨0, (), rfl, trivial, ⟨((fs.set 0 (.int 0)).set 0 (.int 1)), by simp only [List.length_set]; exact hfs, List.getElem?_set_self (by simp only [List.length_set, hfs]; decide), by rw [ht]; exact hP9, hD9⟩⟩, hS.F ht⟩) hS.2.2 dX12_joint_87
theorem dX12_feet_0 : decode cX12_feet 0 = .ok (.aload_n 0, 1) := by decide +kernel
theorem dX12_feet_1 : decode cX12_feet 1 = .ok (.iconst 0, 1) := by decide +kernel
theorem dX12_feet_11 : decode cX12_feet 11 = .ok (.ifCond .eq 40, 3) := by decide +kernel
theorem dX12_feet_2 : decode cX12_feet 2 = .ok (.putfield 1, 3) := by decide +kernel
theorem dX12_feet_5 : decode cX12_feet 5 = .ok (.aload_n 0, 1) := by decide +kernel
theorem dX12_feet_51 : decode cX12_feet 51 = .ok (.return_, 1) := by decide +kernel
theorem dX12_feet_6 : decode cX12_feet 6 = .ok (.iload_n 1, 1) := by decide +kernel
theorem dX12_feet_7 : decode cX12_feet 7 = .ok (.iconst 1, 1) := by decide +kernel
theorem dX12_feet_8 : decode cX12_feet 8 = .ok (.invokevirtual 275, 3) := by decide +kernel
set_option maxRecDepth 20000 in
theorem ggX12_feet_X12_isPuppet : GoodIn wsX12_feet wsX12_isPuppet := goodIn_r _ [8, 9, 10, 11, 7, 12, 13, 14, 15, 16, 1, 17, 18, 19, 20, 21, 22, 23, 24, 25, 26, 27, 28, 29, 30, 31, 32, 33, 34, 35, 36, 37, 38, 39, 40, 41, 42, 43, 44, 45, 46, 47, 48, 49, 50, 51, 52, 53, 54, 55, 56, 57, 58, 59, 60, 61, 62, 63, 64, 65, 66, 67, 68, 69, 70, 71, 72, 73, 74, 75, 76, 77, 78, 79, 80, 81, 82, 83, 84, 85, 86, 87, 88, 89, 90, 91, 92, 93, 94, 95, 96, 97, 98, 99, 100, 101, 102, 103, 104, 105, 106, 107, 108, 109, 110, 111, 112, 113, 114, 115, 116, 117, 118, 119, 120, 121, 122, 123, 124, 125] (by decide +kernel) (by decide +kernel)
set_option maxRecDepth 20000 in
theorem gX12_feet_X12_isPuppet : GoodIn wsX12_feet (wsV RX12 275 RX12 yX12_isPuppet wsX12_isPuppet) := goodIn_app (goodIn_of _ (by decide +kernel)) ggX12_feet_X12_isPuppet
set_option maxHeartbeats 4000000 in
set_option maxRecDepth 100000 in
theorem c_X12_feet (l : Launch) (D : va_G) (cT : Nat → ClassId) (h0 : Nat) (p0 : Int32) (p1 : Int32) (p2 : Int32) (fs : List Value) (m_th : Int32) (sz : Nat) (hfs : fs.length = 109) (hfs_0 : fs[0]? = some (.int m_th)) (hfs_1 : fs[1]? = some (.int 0)) (hfs_38 : fs[38]? = some (.int 0)) : Met l yX12_feet wsX12_feet ({ frames := 10, cells := 0, slots := 0, locals := 280 }) (va_Pc [.ref h0, .int p0, .int p1, .int p2] (PW D cT [(h0, .inr (12, fs))] sz)) (va_Qv (fun _ : Unit => True) (fun (_ : Unit) (t : State) => ∃ (gs : List Value), (gs.length = 109) ∧ (gs[0]? = some (.int 1)) ∧ va_P D vwCl [(h0, .inr (12, gs))] t.heap ∧ va_D (va_A [(h0, .inr (12, fs))] sz) [(h0, .inr (12, gs))]) (va_A [(h0, .inr (12, fs))] sz)) 0 0 (va_A [(h0, .inr (12, fs))] sz) := by
  refine Met.ofW (cc := cX12_feet) (maxL := 4) (ret := none) (by decide) rfl ?_
  intro p e s m args below meth c s₁ B hml hv
  obtain ⟨rfl, hsz, hP, hK, hD0, hG⟩ := hv
  have hx := B.exec
  have hb := B.bytes
  have hr := B.returns
  have hts := atoms_spec (ws := wsX12_feet) B.pre
  have hown : s.vm.findClass RX12 = some m.cls := findClass_of_methodNamed B.named
  have hlocks := B.notSynchronized
  subst hsz
  have hD := hD0.self (sz := s.heap.size)
  generalize hAe : va_A [(h0, .inr (12, fs))] s.heap.size = A at hD ⊢
  have hA : ∀ q : Nat, s.heap.size ≤ q → A q := fun q h => by rw [← hAe]; exact Or.inr h
  have hS : va_S A s.heap s.heap [] := va_S.rf
  have hP : va_P D vwCl [(h0, .inr (12, fs))] s.heap := hP
  have hl := lv_entry ([.ref h0, .int p0, .int p1, .int p2]) (n := 4) (Nat.le_of_ble_eq_true rfl)
  rw [lg_entry_eq]
  generalize (lg_sl ([.ref h0, .int p0, .int p1, .int p2]) ++ List.replicate (4 - (lg_sl ([.ref h0, .int p0, .int p1, .int p2])).length) Slot.unset).toArray = ls at hl ⊢
  have hl : lv_has ls 4 [(0, .ref h0), (1, .int p0), (2, .int p1), (3, .int p2)] := hl
  refine lv_aload_n hx hb dX12_feet_0 rfl (lv_at hl 0 rfl) ?_
  refine lv_iconst (v := 0) hx hb dX12_feet_1 (by decide) ?_
  refine va_put (D := D) (ci := 12) (v := .int 0) (ty := .int) (C := RX12) (T := TX12) (N := 109) hx hb hts (fun _ h => List.mem_cons_of_mem _ (List.mem_append_right _ h)) tyX12 tyX12_ok nmX12 hown hK hP hD hS 0 rfl rfl 0 (by decide) (hts (.fieldLink RX12 1 "PuppetFilmModel" "thrown" "I") (List.mem_of_getElem? (i := 1) (by decide +kernel))) (fun _ h9 => h9) rfl (by decide +kernel) rfl rfl (by simp only [List.length_set, hfs]; decide) dX12_feet_2 (fun H locs hP hD hS => ?_)
  have hP : va_P D vwCl [(h0, .inr (12, (fs.set 0 (.int 0))))] _ := hP
  have hD : va_D A [(h0, .inr (12, (fs.set 0 (.int 0))))] := hD
  refine lv_aload_n hx hb dX12_feet_5 rfl (lv_at hl 0 rfl) ?_
  refine lv_iload_n hx hb dX12_feet_6 rfl (lv_at hl 1 rfl) ?_
  refine lv_iconst (v := 1) hx hb dX12_feet_7 (by decide) ?_
  have hF := va_free (wc := [(h0, .inr (12, (fs.set 0 (.int 0))))]) hD hS hA [0] rfl
  refine va_calli (va_runV (As := [.int p0, .int 1]) (rest := []) ⟨hx, hb, hml, hown, hts⟩ (c_X12_isPuppet l D cT h0 p0 (fs.set 0 (.int 0)) _ (by simp only [List.length_set]; exact hfs) (List.getElem?_set_self (by simp only [List.length_set, hfs]; decide)) ((List.getElem?_set_ne (by decide)).trans (hfs_1))) (cwV 2 hts gX12_feet_X12_isPuppet rfl rfl rfl (by decide +kernel) ⟨Nat.le_of_ble_eq_true rfl, Nat.le_of_ble_eq_true rfl⟩) (pv_w hP hD hK hG [0] rfl rfl rfl 0 rfl rfl) rfl rfl hl.1 rfl (lv_room (Nat.le_of_ble_eq_true rfl)) dX12_feet_8 ⟨Nat.le_of_ble_eq_true rfl, Nat.le_of_ble_eq_true rfl⟩) hS (fun q _ h => hF q h) hF (fun r_1 uu9 tt9 H locs ht hvm wr_1 hB hz1 hk1 hS => ?_)
  obtain ⟨hP1, hD1⟩ := hB
  rw [ht] at hP1
  obtain ⟨hP, hD⟩ := va_join (wr := []) (w1 := [(h0, .inr (12, ((fs.set 0 (.int 0)).set 0 (.int 1))))]) hP hD [0] [] rfl rfl (by decide) (by decide) hk1 hF hP1 hD1
  have hP : va_P D vwCl [(h0, .inr (12, ((fs.set 0 (.int 0)).set 0 (.int 1))))] _ := hP
  have hD : va_D A [(h0, .inr (12, ((fs.set 0 (.int 0)).set 0 (.int 1))))] := hD
  obtain rfl : r_1 = 0 := wr_1.trans (rfl)
  refine lv_if_eq (tgt := 51) hx hb dX12_feet_11 (by decide) (fun _ => ?_) (fun c9 => absurd c9 (by decide))
  have hP9 := hP.sub (ws' := [(h0, .inr (12, ((fs.set 0 (.int 0)).set 0 (.int 1))))]) [0] rfl
  have hD9 := hD.sub (ws' := [(h0, .inr (12, ((fs.set 0 (.int 0)).set 0 (.int 1))))]) [0] (by decide) rfl
  exact W.vret hx hb hr (fun t ht hW => ⟨⟨(), rfl, trivial, ⟨((fs.set 0 (.int 0)).set 0 (.int 1)), by simp only [List.length_set]; exact hfs, List.getElem?_set_self (by simp only [List.length_set, hfs]; decide), by rw [ht]; exact hP9, hD9⟩⟩, hS.F ht⟩) hS.2.2 dX12_feet_51
theorem dX12_kit_0 : decode cX12_kit 0 = .ok (.aload_n 0, 1) := by decide +kernel
theorem dX12_kit_1 : decode cX12_kit 1 = .ok (.iconst 0, 1) := by decide +kernel
theorem dX12_kit_11 : decode cX12_kit 11 = .ok (.ifCond .eq 17, 3) := by decide +kernel
theorem dX12_kit_2 : decode cX12_kit 2 = .ok (.putfield 1, 3) := by decide +kernel
theorem dX12_kit_28 : decode cX12_kit 28 = .ok (.iconst 0, 1) := by decide +kernel
theorem dX12_kit_29 : decode cX12_kit 29 = .ok (.ireturn, 1) := by decide +kernel
theorem dX12_kit_5 : decode cX12_kit 5 = .ok (.aload_n 0, 1) := by decide +kernel
theorem dX12_kit_6 : decode cX12_kit 6 = .ok (.iload_n 1, 1) := by decide +kernel
theorem dX12_kit_7 : decode cX12_kit 7 = .ok (.iconst 1, 1) := by decide +kernel
theorem dX12_kit_8 : decode cX12_kit 8 = .ok (.invokevirtual 275, 3) := by decide +kernel
set_option maxRecDepth 20000 in
theorem ggX12_kit_X12_isPuppet : GoodIn wsX12_kit wsX12_isPuppet := goodIn_r _ [7, 8, 9, 10, 6, 11, 12, 13, 14, 15, 1, 16, 17, 18, 19, 20, 21, 22, 23, 24, 25, 26, 27, 28, 29, 30, 31, 32, 33, 34, 35, 36, 37, 38, 39, 40, 41, 42, 43, 44, 45, 46, 47, 48, 49, 50, 51, 52, 53, 54, 55, 56, 57, 58, 59, 60, 61, 62, 63, 64, 65, 66, 67, 68, 69, 70, 71, 72, 73, 74, 75, 76, 77, 78, 79, 80, 81, 82, 83, 84, 85, 86, 87, 88, 89, 90, 91, 92, 93, 94, 95, 96, 97, 98, 99, 100, 101, 102, 103, 104, 105, 106, 107, 108, 109, 110, 111, 112, 113, 114, 115, 116, 117, 118, 119, 120, 121, 122, 123, 124] (by decide +kernel) (by decide +kernel)
set_option maxRecDepth 20000 in
theorem gX12_kit_X12_isPuppet : GoodIn wsX12_kit (wsV RX12 275 RX12 yX12_isPuppet wsX12_isPuppet) := goodIn_app (goodIn_of _ (by decide +kernel)) ggX12_kit_X12_isPuppet
set_option maxHeartbeats 4000000 in
set_option maxRecDepth 100000 in
theorem c_X12_kit (l : Launch) (D : va_G) (cT : Nat → ClassId) (h0 : Nat) (p0 : Int32) (p1 : Int32) (fs : List Value) (m_th : Int32) (sz : Nat) (hfs : fs.length = 109) (hfs_0 : fs[0]? = some (.int m_th)) (hfs_1 : fs[1]? = some (.int 0)) (hfs_38 : fs[38]? = some (.int 0)) : Met l yX12_kit wsX12_kit ({ frames := 10, cells := 0, slots := 0, locals := 280 }) (va_Pc [.ref h0, .int p0, .int p1] (PW D cT [(h0, .inr (12, fs))] sz)) (va_Qi (fun (r : Int32) (_ : Unit) => True) (fun (_ : Unit) (t : State) => ∃ (gs : List Value), (gs.length = 109) ∧ (gs[0]? = some (.int 1)) ∧ va_P D vwCl [(h0, .inr (12, gs))] t.heap ∧ va_D (va_A [(h0, .inr (12, fs))] sz) [(h0, .inr (12, gs))]) (va_A [(h0, .inr (12, fs))] sz)) 0 0 (va_A [(h0, .inr (12, fs))] sz) := by
  refine Met.ofW (cc := cX12_kit) (maxL := 4) (ret := (some .int)) (by decide) rfl ?_
  intro p e s m args below meth c s₁ B hml hv
  obtain ⟨rfl, hsz, hP, hK, hD0, hG⟩ := hv
  have hx := B.exec
  have hb := B.bytes
  have hr := B.returns
  have hts := atoms_spec (ws := wsX12_kit) B.pre
  have hown : s.vm.findClass RX12 = some m.cls := findClass_of_methodNamed B.named
  have hlocks := B.notSynchronized
  subst hsz
  have hD := hD0.self (sz := s.heap.size)
  generalize hAe : va_A [(h0, .inr (12, fs))] s.heap.size = A at hD ⊢
  have hA : ∀ q : Nat, s.heap.size ≤ q → A q := fun q h => by rw [← hAe]; exact Or.inr h
  have hS : va_S A s.heap s.heap [] := va_S.rf
  have hP : va_P D vwCl [(h0, .inr (12, fs))] s.heap := hP
  have hl := lv_entry ([.ref h0, .int p0, .int p1]) (n := 4) (Nat.le_of_ble_eq_true rfl)
  rw [lg_entry_eq]
  generalize (lg_sl ([.ref h0, .int p0, .int p1]) ++ List.replicate (4 - (lg_sl ([.ref h0, .int p0, .int p1])).length) Slot.unset).toArray = ls at hl ⊢
  have hl : lv_has ls 4 [(0, .ref h0), (1, .int p0), (2, .int p1)] := hl
  refine lv_aload_n hx hb dX12_kit_0 rfl (lv_at hl 0 rfl) ?_
  refine lv_iconst (v := 0) hx hb dX12_kit_1 (by decide) ?_
  refine va_put (D := D) (ci := 12) (v := .int 0) (ty := .int) (C := RX12) (T := TX12) (N := 109) hx hb hts (fun _ h => List.mem_cons_of_mem _ (List.mem_append_right _ h)) tyX12 tyX12_ok nmX12 hown hK hP hD hS 0 rfl rfl 0 (by decide) (hts (.fieldLink RX12 1 "PuppetFilmModel" "thrown" "I") (List.mem_of_getElem? (i := 1) (by decide +kernel))) (fun _ h9 => h9) rfl (by decide +kernel) rfl rfl (by simp only [List.length_set, hfs]; decide) dX12_kit_2 (fun H locs hP hD hS => ?_)
  have hP : va_P D vwCl [(h0, .inr (12, (fs.set 0 (.int 0))))] _ := hP
  have hD : va_D A [(h0, .inr (12, (fs.set 0 (.int 0))))] := hD
  refine lv_aload_n hx hb dX12_kit_5 rfl (lv_at hl 0 rfl) ?_
  refine lv_iload_n hx hb dX12_kit_6 rfl (lv_at hl 1 rfl) ?_
  refine lv_iconst (v := 1) hx hb dX12_kit_7 (by decide) ?_
  have hF := va_free (wc := [(h0, .inr (12, (fs.set 0 (.int 0))))]) hD hS hA [0] rfl
  refine va_calli (va_runV (As := [.int p0, .int 1]) (rest := []) ⟨hx, hb, hml, hown, hts⟩ (c_X12_isPuppet l D cT h0 p0 (fs.set 0 (.int 0)) _ (by simp only [List.length_set]; exact hfs) (List.getElem?_set_self (by simp only [List.length_set, hfs]; decide)) ((List.getElem?_set_ne (by decide)).trans (hfs_1))) (cwV 2 hts gX12_kit_X12_isPuppet rfl rfl rfl (by decide +kernel) ⟨Nat.le_of_ble_eq_true rfl, Nat.le_of_ble_eq_true rfl⟩) (pv_w hP hD hK hG [0] rfl rfl rfl 0 rfl rfl) rfl rfl hl.1 rfl (lv_room (Nat.le_of_ble_eq_true rfl)) dX12_kit_8 ⟨Nat.le_of_ble_eq_true rfl, Nat.le_of_ble_eq_true rfl⟩) hS (fun q _ h => hF q h) hF (fun r_1 uu9 tt9 H locs ht hvm wr_1 hB hz1 hk1 hS => ?_)
  obtain ⟨hP1, hD1⟩ := hB
  rw [ht] at hP1
  obtain ⟨hP, hD⟩ := va_join (wr := []) (w1 := [(h0, .inr (12, ((fs.set 0 (.int 0)).set 0 (.int 1))))]) hP hD [0] [] rfl rfl (by decide) (by decide) hk1 hF hP1 hD1
  have hP : va_P D vwCl [(h0, .inr (12, ((fs.set 0 (.int 0)).set 0 (.int 1))))] _ := hP
  have hD : va_D A [(h0, .inr (12, ((fs.set 0 (.int 0)).set 0 (.int 1))))] := hD
  obtain rfl : r_1 = 0 := wr_1.trans (rfl)
  refine lv_if_eq (tgt := 28) hx hb dX12_kit_11 (by decide) (fun _ => ?_) (fun c9 => absurd c9 (by decide))
  refine lv_iconst (v := 0) hx hb dX12_kit_28 (by decide) ?_
  have hP9 := hP.sub (ws' := [(h0, .inr (12, ((fs.set 0 (.int 0)).set 0 (.int 1))))]) [0] rfl
  have hD9 := hD.sub (ws' := [(h0, .inr (12, ((fs.set 0 (.int 0)).set 0 (.int 1))))]) [0] (by decide) rfl
  exact W.iret (v := 0) hx hb hr (fun t ht hW => ⟨⟨0, (), rfl, trivial, ⟨((fs.set 0 (.int 0)).set 0 (.int 1)), by simp only [List.length_set]; exact hfs, List.getElem?_set_self (by simp only [List.length_set, hfs]; decide), by rw [ht]; exact hP9, hD9⟩⟩, hS.F ht⟩) hS.2.2 dX12_kit_29
