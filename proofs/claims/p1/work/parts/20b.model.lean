theorem dX12_puppet_0 : decode cX12_puppet 0 = .ok (.aload_n 0, 1) := by decide +kernel
theorem dX12_puppet_1 : decode cX12_puppet 1 = .ok (.iconst 0, 1) := by decide +kernel
theorem dX12_puppet_11 : decode cX12_puppet 11 = .ok (.if_icmp .ne 5, 3) := by decide +kernel
theorem dX12_puppet_16 : decode cX12_puppet 16 = .ok (.aload_n 0, 1) := by decide +kernel
theorem dX12_puppet_17 : decode cX12_puppet 17 = .ok (.dup, 1) := by decide +kernel
theorem dX12_puppet_18 : decode cX12_puppet 18 = .ok (.getfield 264, 3) := by decide +kernel
theorem dX12_puppet_2 : decode cX12_puppet 2 = .ok (.putfield 1, 3) := by decide +kernel
theorem dX12_puppet_21 : decode cX12_puppet 21 = .ok (.iconst 1, 1) := by decide +kernel
theorem dX12_puppet_22 : decode cX12_puppet 22 = .ok (.iadd, 1) := by decide +kernel
theorem dX12_puppet_23 : decode cX12_puppet 23 = .ok (.putfield 264, 3) := by decide +kernel
theorem dX12_puppet_26 : decode cX12_puppet 26 = .ok (.aload_n 0, 1) := by decide +kernel
theorem dX12_puppet_27 : decode cX12_puppet 27 = .ok (.getfield 264, 3) := by decide +kernel
theorem dX12_puppet_30 : decode cX12_puppet 30 = .ok (.iconst 1, 1) := by decide +kernel
theorem dX12_puppet_31 : decode cX12_puppet 31 = .ok (.isub, 1) := by decide +kernel
theorem dX12_puppet_32 : decode cX12_puppet 32 = .ok (.ireturn, 1) := by decide +kernel
theorem dX12_puppet_5 : decode cX12_puppet 5 = .ok (.aload_n 0, 1) := by decide +kernel
theorem dX12_puppet_6 : decode cX12_puppet 6 = .ok (.getfield 264, 3) := by decide +kernel
theorem dX12_puppet_9 : decode cX12_puppet 9 = .ok (.bipush 8, 2) := by decide +kernel
set_option maxHeartbeats 4000000 in
set_option maxRecDepth 100000 in
theorem c_X12_puppet (l : Launch) (D : va_G) (cT : Nat → ClassId) (h0 : Nat) (fs : List Value) (m_th : Int32) (sz : Nat) (hfs : fs.length = 109) (hfs_0 : fs[0]? = some (.int m_th)) (hfs_1 : fs[1]? = some (.int 0)) : Met l yX12_puppet wsX12_puppet ({ frames := 8, cells := 0, slots := 0, locals := 160 }) (va_Pc [.ref h0] (PW D cT [(h0, .inr (12, fs))] sz)) (va_Qi (fun (r : Int32) (_ : Unit) => r = 0) (fun (_ : Unit) (t : State) => ∃ (gs : List Value), (gs.length = 109) ∧ (gs[0]? = some (.int 0)) ∧ va_P D vwCl [(h0, .inr (12, gs))] t.heap ∧ va_D (va_A [(h0, .inr (12, fs))] sz) [(h0, .inr (12, gs))]) (va_A [(h0, .inr (12, fs))] sz)) 0 0 (va_A [(h0, .inr (12, fs))] sz) := by
  refine Met.ofW (cc := cX12_puppet) (maxL := 1) (ret := (some .int)) (by decide) rfl ?_
  intro p e s m args below meth c s₁ B hml hv
  obtain ⟨rfl, hsz, hP, hK, hD0, hG⟩ := hv
  have hx := B.exec
  have hb := B.bytes
  have hr := B.returns
  have hts := atoms_spec (ws := wsX12_puppet) B.pre
  have hown : s.vm.findClass RX12 = some m.cls := findClass_of_methodNamed B.named
  have hlocks := B.notSynchronized
  subst hsz
  have hD := hD0.self (sz := s.heap.size)
  generalize hAe : va_A [(h0, .inr (12, fs))] s.heap.size = A at hD ⊢
  have hA : ∀ q : Nat, s.heap.size ≤ q → A q := fun q h => by rw [← hAe]; exact Or.inr h
  have hS : va_S A s.heap s.heap [] := va_S.rf
  have hP : va_P D vwCl [(h0, .inr (12, fs))] s.heap := hP
  have hl := lv_entry ([.ref h0]) (n := 1) (Nat.le_of_ble_eq_true rfl)
  rw [lg_entry_eq]
  generalize (lg_sl ([.ref h0]) ++ List.replicate (1 - (lg_sl ([.ref h0])).length) Slot.unset).toArray = ls at hl ⊢
  have hl : lv_has ls 1 [(0, .ref h0)] := hl
  refine lv_aload_n hx hb dX12_puppet_0 rfl (lv_at hl 0 rfl) ?_
  refine lv_iconst (v := 0) hx hb dX12_puppet_1 (by decide) ?_
  refine va_put (D := D) (ci := 12) (v := .int 0) (ty := .int) (C := RX12) (T := TX12) (N := 109) hx hb hts (fun _ h => List.mem_cons_of_mem _ (List.mem_append_right _ h)) tyX12 tyX12_ok nmX12 hown hK hP hD hS 0 rfl rfl 0 (by decide) (hts (.fieldLink RX12 1 "PuppetFilmModel" "thrown" "I") (List.mem_of_getElem? (i := 1) (by decide +kernel))) (fun _ h9 => h9) rfl (by decide +kernel) rfl rfl (by simp only [List.length_set, hfs]; decide) dX12_puppet_2 (fun H locs hP hD hS => ?_)
  have hP : va_P D vwCl [(h0, .inr (12, (fs.set 0 (.int 0))))] _ := hP
  have hD : va_D A [(h0, .inr (12, (fs.set 0 (.int 0))))] := hD
  refine lv_aload_n hx hb dX12_puppet_5 rfl (lv_at hl 0 rfl) ?_
  refine va_get (D := D) (ci := 12) (v := .int 0) (C := RX12) (T := TX12) (N := 109) hx hb hts (fun _ h => List.mem_cons_of_mem _ (List.mem_append_right _ h)) hown hK hP 0 rfl rfl 1 (by decide) (hts (.fieldLink RX12 264 "PuppetFilmModel" "puppets" "I") (List.mem_of_getElem? (i := 2) (by decide +kernel))) (fun _ h9 => h9) ((List.getElem?_set_ne (by decide)).trans (hfs_1)) dX12_puppet_6 ?_
  refine lv_bipush (v := 8) hx hb dX12_puppet_9 (by decide) ?_
  refine lv_icmp_ne (tgt := 16) hx hb dX12_puppet_11 (by decide) (fun _ => ?_) (fun c9 => absurd c9 (by decide))
  refine lv_aload_n hx hb dX12_puppet_16 rfl (lv_at hl 0 rfl) ?_
  refine lv_dup hx hb dX12_puppet_17 rfl ?_
  refine va_get (D := D) (ci := 12) (v := .int 0) (C := RX12) (T := TX12) (N := 109) hx hb hts (fun _ h => List.mem_cons_of_mem _ (List.mem_append_right _ h)) hown hK hP 0 rfl rfl 1 (by decide) (hts (.fieldLink RX12 264 "PuppetFilmModel" "puppets" "I") (List.mem_of_getElem? (i := 2) (by decide +kernel))) (fun _ h9 => h9) ((List.getElem?_set_ne (by decide)).trans (hfs_1)) dX12_puppet_18 ?_
  refine lv_iconst (v := 1) hx hb dX12_puppet_21 (by decide) ?_
  refine lv_iadd hx hb dX12_puppet_22 ?_
  refine lv_topi (fun z_1 ez_1 => ?_)
  obtain rfl : z_1 = 1 := ez_1.trans (by decide)
  refine va_put (D := D) (ci := 12) (v := .int 1) (ty := .int) (C := RX12) (T := TX12) (N := 109) hx hb hts (fun _ h => List.mem_cons_of_mem _ (List.mem_append_right _ h)) tyX12 tyX12_ok nmX12 hown hK hP hD hS 0 rfl rfl 1 (by decide) (hts (.fieldLink RX12 264 "PuppetFilmModel" "puppets" "I") (List.mem_of_getElem? (i := 2) (by decide +kernel))) (fun _ h9 => h9) rfl (by decide +kernel) rfl rfl (by simp only [List.length_set, hfs]; decide) dX12_puppet_23 (fun H locs hP hD hS => ?_)
  have hP : va_P D vwCl [(h0, .inr (12, ((fs.set 0 (.int 0)).set 1 (.int 1))))] _ := hP
  have hD : va_D A [(h0, .inr (12, ((fs.set 0 (.int 0)).set 1 (.int 1))))] := hD
  refine lv_aload_n hx hb dX12_puppet_26 rfl (lv_at hl 0 rfl) ?_
  refine va_get (D := D) (ci := 12) (v := .int 1) (C := RX12) (T := TX12) (N := 109) hx hb hts (fun _ h => List.mem_cons_of_mem _ (List.mem_append_right _ h)) hown hK hP 0 rfl rfl 1 (by decide) (hts (.fieldLink RX12 264 "PuppetFilmModel" "puppets" "I") (List.mem_of_getElem? (i := 2) (by decide +kernel))) (fun _ h9 => h9) (List.getElem?_set_self (by simp only [List.length_set, hfs]; decide)) dX12_puppet_27 ?_
  refine lv_iconst (v := 1) hx hb dX12_puppet_30 (by decide) ?_
  refine lv_isub hx hb dX12_puppet_31 ?_
  refine lv_topi (fun z_2 ez_2 => ?_)
  obtain rfl : z_2 = 0 := ez_2.trans (by decide)
  have hP9 := hP.sub (ws' := [(h0, .inr (12, ((fs.set 0 (.int 0)).set 1 (.int 1))))]) [0] rfl
  have hD9 := hD.sub (ws' := [(h0, .inr (12, ((fs.set 0 (.int 0)).set 1 (.int 1))))]) [0] (by decide) rfl
  exact W.iret (v := 0) hx hb hr (fun t ht hW => ⟨⟨0, (), rfl, rfl, ⟨((fs.set 0 (.int 0)).set 1 (.int 1)), by simp only [List.length_set]; exact hfs, (List.getElem?_set_ne (by decide)).trans (List.getElem?_set_self (by simp only [List.length_set, hfs]; decide)), by rw [ht]; exact hP9, hD9⟩⟩, hS.F ht⟩) hS.2.2 dX12_puppet_32
theorem dX12_fault_0 : decode cX12_fault 0 = .ok (.aload_n 0, 1) := by decide +kernel
theorem dX12_fault_1 : decode cX12_fault 1 = .ok (.iconst 0, 1) := by decide +kernel
theorem dX12_fault_2 : decode cX12_fault 2 = .ok (.putfield 1, 3) := by decide +kernel
theorem dX12_fault_5 : decode cX12_fault 5 = .ok (.aload_n 0, 1) := by decide +kernel
theorem dX12_fault_6 : decode cX12_fault 6 = .ok (.getfield 44, 3) := by decide +kernel
theorem dX12_fault_9 : decode cX12_fault 9 = .ok (.ireturn, 1) := by decide +kernel
set_option maxHeartbeats 4000000 in
set_option maxRecDepth 100000 in
theorem c_X12_fault (l : Launch) (D : va_G) (cT : Nat → ClassId) (h0 : Nat) (fs : List Value) (m_th : Int32) (sz : Nat) (hfs : fs.length = 109) (hfs_0 : fs[0]? = some (.int m_th)) (hfs_20 : fs[20]? = some (.int (-1))) : Met l yX12_fault wsX12_fault ({ frames := 8, cells := 0, slots := 0, locals := 160 }) (va_Pc [.ref h0] (PW D cT [(h0, .inr (12, fs))] sz)) (va_Qi (fun (r : Int32) (_ : Unit) => r = (-1)) (fun (_ : Unit) (t : State) => ∃ (gs : List Value), (gs.length = 109) ∧ (gs[0]? = some (.int 0)) ∧ va_P D vwCl [(h0, .inr (12, gs))] t.heap ∧ va_D (va_A [(h0, .inr (12, fs))] sz) [(h0, .inr (12, gs))]) (va_A [(h0, .inr (12, fs))] sz)) 0 0 (va_A [(h0, .inr (12, fs))] sz) := by
  refine Met.ofW (cc := cX12_fault) (maxL := 1) (ret := (some .int)) (by decide) rfl ?_
  intro p e s m args below meth c s₁ B hml hv
  obtain ⟨rfl, hsz, hP, hK, hD0, hG⟩ := hv
  have hx := B.exec
  have hb := B.bytes
  have hr := B.returns
  have hts := atoms_spec (ws := wsX12_fault) B.pre
  have hown : s.vm.findClass RX12 = some m.cls := findClass_of_methodNamed B.named
  have hlocks := B.notSynchronized
  subst hsz
  have hD := hD0.self (sz := s.heap.size)
  generalize hAe : va_A [(h0, .inr (12, fs))] s.heap.size = A at hD ⊢
  have hA : ∀ q : Nat, s.heap.size ≤ q → A q := fun q h => by rw [← hAe]; exact Or.inr h
  have hS : va_S A s.heap s.heap [] := va_S.rf
  have hP : va_P D vwCl [(h0, .inr (12, fs))] s.heap := hP
  have hl := lv_entry ([.ref h0]) (n := 1) (Nat.le_of_ble_eq_true rfl)
  rw [lg_entry_eq]
  generalize (lg_sl ([.ref h0]) ++ List.replicate (1 - (lg_sl ([.ref h0])).length) Slot.unset).toArray = ls at hl ⊢
  have hl : lv_has ls 1 [(0, .ref h0)] := hl
  refine lv_aload_n hx hb dX12_fault_0 rfl (lv_at hl 0 rfl) ?_
  refine lv_iconst (v := 0) hx hb dX12_fault_1 (by decide) ?_
  refine va_put (D := D) (ci := 12) (v := .int 0) (ty := .int) (C := RX12) (T := TX12) (N := 109) hx hb hts (fun _ h => List.mem_cons_of_mem _ (List.mem_append_right _ h)) tyX12 tyX12_ok nmX12 hown hK hP hD hS 0 rfl rfl 0 (by decide) (hts (.fieldLink RX12 1 "PuppetFilmModel" "thrown" "I") (List.mem_of_getElem? (i := 1) (by decide +kernel))) (fun _ h9 => h9) rfl (by decide +kernel) rfl rfl (by simp only [List.length_set, hfs]; decide) dX12_fault_2 (fun H locs hP hD hS => ?_)
  have hP : va_P D vwCl [(h0, .inr (12, (fs.set 0 (.int 0))))] _ := hP
  have hD : va_D A [(h0, .inr (12, (fs.set 0 (.int 0))))] := hD
  refine lv_aload_n hx hb dX12_fault_5 rfl (lv_at hl 0 rfl) ?_
  refine va_get (D := D) (ci := 12) (v := .int (-1)) (C := RX12) (T := TX12) (N := 109) hx hb hts (fun _ h => List.mem_cons_of_mem _ (List.mem_append_right _ h)) hown hK hP 0 rfl rfl 20 (by decide) (hts (.fieldLink RX12 44 "PuppetFilmModel" "faultAt" "I") (List.mem_of_getElem? (i := 2) (by decide +kernel))) (fun _ h9 => h9) ((List.getElem?_set_ne (by decide)).trans (hfs_20)) dX12_fault_6 ?_
  have hP9 := hP.sub (ws' := [(h0, .inr (12, (fs.set 0 (.int 0))))]) [0] rfl
  have hD9 := hD.sub (ws' := [(h0, .inr (12, (fs.set 0 (.int 0))))]) [0] (by decide) rfl
  exact W.iret (v := (-1)) hx hb hr (fun t ht hW => ⟨⟨(-1), (), rfl, rfl, ⟨(fs.set 0 (.int 0)), by simp only [List.length_set]; exact hfs, List.getElem?_set_self (by simp only [List.length_set, hfs]; decide), by rw [ht]; exact hP9, hD9⟩⟩, hS.F ht⟩) hS.2.2 dX12_fault_9
theorem dX12_check_0 : decode cX12_check 0 = .ok (.aload_n 0, 1) := by decide +kernel
theorem dX12_check_1 : decode cX12_check 1 = .ok (.iconst 0, 1) := by decide +kernel
theorem dX12_check_12 : decode cX12_check 12 = .ok (.if_icmp .ge 27, 3) := by decide +kernel
theorem dX12_check_2 : decode cX12_check 2 = .ok (.putfield 1, 3) := by decide +kernel
theorem dX12_check_39 : decode cX12_check 39 = .ok (.iconst (-1), 1) := by decide +kernel
theorem dX12_check_40 : decode cX12_check 40 = .ok (.ireturn, 1) := by decide +kernel
theorem dX12_check_5 : decode cX12_check 5 = .ok (.iconst 0, 1) := by decide +kernel
theorem dX12_check_6 : decode cX12_check 6 = .ok (.istore_n 1, 1) := by decide +kernel
theorem dX12_check_7 : decode cX12_check 7 = .ok (.iload_n 1, 1) := by decide +kernel
theorem dX12_check_8 : decode cX12_check 8 = .ok (.aload_n 0, 1) := by decide +kernel
theorem dX12_check_9 : decode cX12_check 9 = .ok (.getfield 504, 3) := by decide +kernel
set_option maxHeartbeats 4000000 in
set_option maxRecDepth 100000 in
theorem c_X12_check (l : Launch) (D : va_G) (cT : Nat → ClassId) (h0 : Nat) (fs : List Value) (m_th : Int32) (sz : Nat) (hfs : fs.length = 109) (hfs_0 : fs[0]? = some (.int m_th)) (hfs_78 : fs[78]? = some (.int 0)) : Met l yX12_check wsX12_check ({ frames := 8, cells := 0, slots := 0, locals := 160 }) (va_Pc [.ref h0] (PW D cT [(h0, .inr (12, fs))] sz)) (va_Qi (fun (r : Int32) (_ : Unit) => r = (-1)) (fun (_ : Unit) (t : State) => ∃ (gs : List Value), (gs.length = 109) ∧ (gs[0]? = some (.int 0)) ∧ va_P D vwCl [(h0, .inr (12, gs))] t.heap ∧ va_D (va_A [(h0, .inr (12, fs))] sz) [(h0, .inr (12, gs))]) (va_A [(h0, .inr (12, fs))] sz)) 0 0 (va_A [(h0, .inr (12, fs))] sz) := by
  refine Met.ofW (cc := cX12_check) (maxL := 2) (ret := (some .int)) (by decide) rfl ?_
  intro p e s m args below meth c s₁ B hml hv
  obtain ⟨rfl, hsz, hP, hK, hD0, hG⟩ := hv
  have hx := B.exec
  have hb := B.bytes
  have hr := B.returns
  have hts := atoms_spec (ws := wsX12_check) B.pre
  have hown : s.vm.findClass RX12 = some m.cls := findClass_of_methodNamed B.named
  have hlocks := B.notSynchronized
  subst hsz
  have hD := hD0.self (sz := s.heap.size)
  generalize hAe : va_A [(h0, .inr (12, fs))] s.heap.size = A at hD ⊢
  have hA : ∀ q : Nat, s.heap.size ≤ q → A q := fun q h => by rw [← hAe]; exact Or.inr h
  have hS : va_S A s.heap s.heap [] := va_S.rf
  have hP : va_P D vwCl [(h0, .inr (12, fs))] s.heap := hP
  have hl := lv_entry ([.ref h0]) (n := 2) (Nat.le_of_ble_eq_true rfl)
  rw [lg_entry_eq]
  generalize (lg_sl ([.ref h0]) ++ List.replicate (2 - (lg_sl ([.ref h0])).length) Slot.unset).toArray = ls at hl ⊢
  have hl : lv_has ls 2 [(0, .ref h0)] := hl
  refine lv_aload_n hx hb dX12_check_0 rfl (lv_at hl 0 rfl) ?_
  refine lv_iconst (v := 0) hx hb dX12_check_1 (by decide) ?_
  refine va_put (D := D) (ci := 12) (v := .int 0) (ty := .int) (C := RX12) (T := TX12) (N := 109) hx hb hts (fun _ h => List.mem_cons_of_mem _ (List.mem_append_right _ h)) tyX12 tyX12_ok nmX12 hown hK hP hD hS 0 rfl rfl 0 (by decide) (hts (.fieldLink RX12 1 "PuppetFilmModel" "thrown" "I") (List.mem_of_getElem? (i := 1) (by decide +kernel))) (fun _ h9 => h9) rfl (by decide +kernel) rfl rfl (by simp only [List.length_set, hfs]; decide) dX12_check_2 (fun H locs hP hD hS => ?_)
  have hP : va_P D vwCl [(h0, .inr (12, (fs.set 0 (.int 0))))] _ := hP
  have hD : va_D A [(h0, .inr (12, (fs.set 0 (.int 0))))] := hD
  refine lv_iconst (v := 0) hx hb dX12_check_5 (by decide) ?_
  refine lv_istore_n (lv' := [(1, .int 0), (0, .ref h0)]) hx hb dX12_check_6 rfl hl (by decide) rfl (fun ls hl => ?_)
  refine lv_iload_n hx hb dX12_check_7 rfl (lv_at hl 0 rfl) ?_
  refine lv_aload_n hx hb dX12_check_8 rfl (lv_at hl 1 rfl) ?_
  refine va_get (D := D) (ci := 12) (v := .int 0) (C := RX12) (T := TX12) (N := 109) hx hb hts (fun _ h => List.mem_cons_of_mem _ (List.mem_append_right _ h)) hown hK hP 0 rfl rfl 78 (by decide) (hts (.fieldLink RX12 504 "PuppetFilmModel" "rows" "I") (List.mem_of_getElem? (i := 2) (by decide +kernel))) (fun _ h9 => h9) ((List.getElem?_set_ne (by decide)).trans (hfs_78)) dX12_check_9 ?_
  refine lv_icmp_ge (tgt := 39) hx hb dX12_check_12 (by decide) (fun _ => ?_) (fun c9 => absurd c9 (by decide))
  refine lv_iconst (v := (-1)) hx hb dX12_check_39 (by decide) ?_
  have hP9 := hP.sub (ws' := [(h0, .inr (12, (fs.set 0 (.int 0))))]) [0] rfl
  have hD9 := hD.sub (ws' := [(h0, .inr (12, (fs.set 0 (.int 0))))]) [0] (by decide) rfl
  exact W.iret (v := (-1)) hx hb hr (fun t ht hW => ⟨⟨(-1), (), rfl, rfl, ⟨(fs.set 0 (.int 0)), by simp only [List.length_set]; exact hfs, List.getElem?_set_self (by simp only [List.length_set, hfs]; decide), by rw [ht]; exact hP9, hD9⟩⟩, hS.F ht⟩) hS.2.2 dX12_check_40
theorem dX12_clear_0 : decode cX12_clear 0 = .ok (.aload_n 0, 1) := by decide +kernel
theorem dX12_clear_1 : decode cX12_clear 1 = .ok (.iconst 0, 1) := by decide +kernel
theorem dX12_clear_10 : decode cX12_clear 10 = .ok (.aload_n 0, 1) := by decide +kernel
theorem dX12_clear_11 : decode cX12_clear 11 = .ok (.iconst 0, 1) := by decide +kernel
theorem dX12_clear_12 : decode cX12_clear 12 = .ok (.putfield 504, 3) := by decide +kernel
theorem dX12_clear_15 : decode cX12_clear 15 = .ok (.iload_n 1, 1) := by decide +kernel
theorem dX12_clear_16 : decode cX12_clear 16 = .ok (.ireturn, 1) := by decide +kernel
theorem dX12_clear_2 : decode cX12_clear 2 = .ok (.putfield 1, 3) := by decide +kernel
theorem dX12_clear_5 : decode cX12_clear 5 = .ok (.aload_n 0, 1) := by decide +kernel
theorem dX12_clear_6 : decode cX12_clear 6 = .ok (.getfield 504, 3) := by decide +kernel
theorem dX12_clear_9 : decode cX12_clear 9 = .ok (.istore_n 1, 1) := by decide +kernel
set_option maxHeartbeats 4000000 in
set_option maxRecDepth 100000 in
theorem c_X12_clear (l : Launch) (D : va_G) (cT : Nat → ClassId) (h0 : Nat) (fs : List Value) (m_th : Int32) (sz : Nat) (hfs : fs.length = 109) (hfs_0 : fs[0]? = some (.int m_th)) (hfs_78 : fs[78]? = some (.int 0)) : Met l yX12_clear wsX12_clear ({ frames := 8, cells := 0, slots := 0, locals := 160 }) (va_Pc [.ref h0] (PW D cT [(h0, .inr (12, fs))] sz)) (va_Qi (fun (r : Int32) (_ : Unit) => r = 0) (fun (_ : Unit) (t : State) => ∃ (gs : List Value), (gs.length = 109) ∧ (gs[0]? = some (.int 0)) ∧ va_P D vwCl [(h0, .inr (12, gs))] t.heap ∧ va_D (va_A [(h0, .inr (12, fs))] sz) [(h0, .inr (12, gs))]) (va_A [(h0, .inr (12, fs))] sz)) 0 0 (va_A [(h0, .inr (12, fs))] sz) := by
  refine Met.ofW (cc := cX12_clear) (maxL := 2) (ret := (some .int)) (by decide) rfl ?_
  intro p e s m args below meth c s₁ B hml hv
  obtain ⟨rfl, hsz, hP, hK, hD0, hG⟩ := hv
  have hx := B.exec
  have hb := B.bytes
  have hr := B.returns
  have hts := atoms_spec (ws := wsX12_clear) B.pre
  have hown : s.vm.findClass RX12 = some m.cls := findClass_of_methodNamed B.named
  have hlocks := B.notSynchronized
  subst hsz
  have hD := hD0.self (sz := s.heap.size)
  generalize hAe : va_A [(h0, .inr (12, fs))] s.heap.size = A at hD ⊢
  have hA : ∀ q : Nat, s.heap.size ≤ q → A q := fun q h => by rw [← hAe]; exact Or.inr h
  have hS : va_S A s.heap s.heap [] := va_S.rf
  have hP : va_P D vwCl [(h0, .inr (12, fs))] s.heap := hP
  have hl := lv_entry ([.ref h0]) (n := 2) (Nat.le_of_ble_eq_true rfl)
  rw [lg_entry_eq]
  generalize (lg_sl ([.ref h0]) ++ List.replicate (2 - (lg_sl ([.ref h0])).length) Slot.unset).toArray = ls at hl ⊢
  have hl : lv_has ls 2 [(0, .ref h0)] := hl
  refine lv_aload_n hx hb dX12_clear_0 rfl (lv_at hl 0 rfl) ?_
  refine lv_iconst (v := 0) hx hb dX12_clear_1 (by decide) ?_
  refine va_put (D := D) (ci := 12) (v := .int 0) (ty := .int) (C := RX12) (T := TX12) (N := 109) hx hb hts (fun _ h => List.mem_cons_of_mem _ (List.mem_append_right _ h)) tyX12 tyX12_ok nmX12 hown hK hP hD hS 0 rfl rfl 0 (by decide) (hts (.fieldLink RX12 1 "PuppetFilmModel" "thrown" "I") (List.mem_of_getElem? (i := 1) (by decide +kernel))) (fun _ h9 => h9) rfl (by decide +kernel) rfl rfl (by simp only [List.length_set, hfs]; decide) dX12_clear_2 (fun H locs hP hD hS => ?_)
  have hP : va_P D vwCl [(h0, .inr (12, (fs.set 0 (.int 0))))] _ := hP
  have hD : va_D A [(h0, .inr (12, (fs.set 0 (.int 0))))] := hD
  refine lv_aload_n hx hb dX12_clear_5 rfl (lv_at hl 0 rfl) ?_
  refine va_get (D := D) (ci := 12) (v := .int 0) (C := RX12) (T := TX12) (N := 109) hx hb hts (fun _ h => List.mem_cons_of_mem _ (List.mem_append_right _ h)) hown hK hP 0 rfl rfl 78 (by decide) (hts (.fieldLink RX12 504 "PuppetFilmModel" "rows" "I") (List.mem_of_getElem? (i := 2) (by decide +kernel))) (fun _ h9 => h9) ((List.getElem?_set_ne (by decide)).trans (hfs_78)) dX12_clear_6 ?_
  refine lv_istore_n (lv' := [(1, .int 0), (0, .ref h0)]) hx hb dX12_clear_9 rfl hl (by decide) rfl (fun ls hl => ?_)
  refine lv_aload_n hx hb dX12_clear_10 rfl (lv_at hl 1 rfl) ?_
  refine lv_iconst (v := 0) hx hb dX12_clear_11 (by decide) ?_
  refine va_put (D := D) (ci := 12) (v := .int 0) (ty := .int) (C := RX12) (T := TX12) (N := 109) hx hb hts (fun _ h => List.mem_cons_of_mem _ (List.mem_append_right _ h)) tyX12 tyX12_ok nmX12 hown hK hP hD hS 0 rfl rfl 78 (by decide) (hts (.fieldLink RX12 504 "PuppetFilmModel" "rows" "I") (List.mem_of_getElem? (i := 2) (by decide +kernel))) (fun _ h9 => h9) rfl (by decide +kernel) rfl rfl (by simp only [List.length_set, hfs]; decide) dX12_clear_12 (fun H locs hP hD hS => ?_)
  have hP : va_P D vwCl [(h0, .inr (12, ((fs.set 0 (.int 0)).set 78 (.int 0))))] _ := hP
  have hD : va_D A [(h0, .inr (12, ((fs.set 0 (.int 0)).set 78 (.int 0))))] := hD
  refine lv_iload_n hx hb dX12_clear_15 rfl (lv_at hl 0 rfl) ?_
  have hP9 := hP.sub (ws' := [(h0, .inr (12, ((fs.set 0 (.int 0)).set 78 (.int 0))))]) [0] rfl
  have hD9 := hD.sub (ws' := [(h0, .inr (12, ((fs.set 0 (.int 0)).set 78 (.int 0))))]) [0] (by decide) rfl
  exact W.iret (v := 0) hx hb hr (fun t ht hW => ⟨⟨0, (), rfl, rfl, ⟨((fs.set 0 (.int 0)).set 78 (.int 0)), by simp only [List.length_set]; exact hfs, (List.getElem?_set_ne (by decide)).trans (List.getElem?_set_self (by simp only [List.length_set, hfs]; decide)), by rw [ht]; exact hP9, hD9⟩⟩, hS.F ht⟩) hS.2.2 dX12_clear_16
theorem dX12_count_0 : decode cX12_count 0 = .ok (.aload_n 0, 1) := by decide +kernel
theorem dX12_count_1 : decode cX12_count 1 = .ok (.iconst 0, 1) := by decide +kernel
theorem dX12_count_2 : decode cX12_count 2 = .ok (.putfield 1, 3) := by decide +kernel
theorem dX12_count_44 : decode cX12_count 44 = .ok (.aload_n 0, 1) := by decide +kernel
theorem dX12_count_45 : decode cX12_count 45 = .ok (.getfield 264, 3) := by decide +kernel
theorem dX12_count_48 : decode cX12_count 48 = .ok (.ireturn, 1) := by decide +kernel
theorem dX12_count_49 : decode cX12_count 49 = .ok (.aload_n 0, 1) := by decide +kernel
theorem dX12_count_5 : decode cX12_count 5 = .ok (.iload_n 1, 1) := by decide +kernel
theorem dX12_count_50 : decode cX12_count 50 = .ok (.getfield 398, 3) := by decide +kernel
theorem dX12_count_53 : decode cX12_count 53 = .ok (.ireturn, 1) := by decide +kernel
theorem dX12_count_54 : decode cX12_count 54 = .ok (.aload_n 0, 1) := by decide +kernel
theorem dX12_count_55 : decode cX12_count 55 = .ok (.getfield 504, 3) := by decide +kernel
theorem dX12_count_58 : decode cX12_count 58 = .ok (.ireturn, 1) := by decide +kernel
theorem dX12_count_59 : decode cX12_count 59 = .ok (.aload_n 0, 1) := by decide +kernel
theorem dX12_count_6 : decode cX12_count 6 = .ok (.tableswitch 68 0 5 #[38, 43, 48, 53, 58, 63], 38) := by decide +kernel
theorem dX12_count_60 : decode cX12_count 60 = .ok (.getfield 513, 3) := by decide +kernel
theorem dX12_count_63 : decode cX12_count 63 = .ok (.ireturn, 1) := by decide +kernel
theorem dX12_count_64 : decode cX12_count 64 = .ok (.aload_n 0, 1) := by decide +kernel
theorem dX12_count_65 : decode cX12_count 65 = .ok (.getfield 279, 3) := by decide +kernel
theorem dX12_count_68 : decode cX12_count 68 = .ok (.ireturn, 1) := by decide +kernel
theorem dX12_count_69 : decode cX12_count 69 = .ok (.aload_n 0, 1) := by decide +kernel
theorem dX12_count_70 : decode cX12_count 70 = .ok (.getfield 516, 3) := by decide +kernel
theorem dX12_count_73 : decode cX12_count 73 = .ok (.ireturn, 1) := by decide +kernel
theorem dX12_count_74 : decode cX12_count 74 = .ok (.iconst (-1), 1) := by decide +kernel
theorem dX12_count_75 : decode cX12_count 75 = .ok (.ireturn, 1) := by decide +kernel
set_option maxHeartbeats 4000000 in
set_option maxRecDepth 100000 in
theorem c_X12_count (l : Launch) (D : va_G) (cT : Nat → ClassId) (h0 : Nat) (p0 : Int32) (fs : List Value) (m_th : Int32) (sz : Nat) (hfs : fs.length = 109) (hfs_0 : fs[0]? = some (.int m_th)) (hfs_1 : fs[1]? = some (.int 0)) (hfs_12 : fs[12]? = some (.int 0)) (hfs_38 : fs[38]? = some (.int 0)) (hfs_78 : fs[78]? = some (.int 0)) (hfs_82 : fs[82]? = some (.int 0)) (hfs_83 : fs[83]? = some (.int 0)) : Met l yX12_count wsX12_count ({ frames := 8, cells := 0, slots := 0, locals := 160 }) (va_Pc [.ref h0, .int p0] (PW D cT [(h0, .inr (12, fs))] sz)) (va_Qi (fun (r : Int32) (_ : Unit) => r = vl_count p0) (fun (_ : Unit) (t : State) => ∃ (gs : List Value), (gs.length = 109) ∧ (gs[0]? = some (.int 0)) ∧ va_P D vwCl [(h0, .inr (12, gs))] t.heap ∧ va_D (va_A [(h0, .inr (12, fs))] sz) [(h0, .inr (12, gs))]) (va_A [(h0, .inr (12, fs))] sz)) 0 0 (va_A [(h0, .inr (12, fs))] sz) := by
  refine Met.ofW (cc := cX12_count) (maxL := 2) (ret := (some .int)) (by decide) rfl ?_
  intro p e s m args below meth c s₁ B hml hv
  obtain ⟨rfl, hsz, hP, hK, hD0, hG⟩ := hv
  have hx := B.exec
  have hb := B.bytes
  have hr := B.returns
  have hts := atoms_spec (ws := wsX12_count) B.pre
  have hown : s.vm.findClass RX12 = some m.cls := findClass_of_methodNamed B.named
  have hlocks := B.notSynchronized
  subst hsz
  have hD := hD0.self (sz := s.heap.size)
  generalize hAe : va_A [(h0, .inr (12, fs))] s.heap.size = A at hD ⊢
  have hA : ∀ q : Nat, s.heap.size ≤ q → A q := fun q h => by rw [← hAe]; exact Or.inr h
  have hS : va_S A s.heap s.heap [] := va_S.rf
  have hP : va_P D vwCl [(h0, .inr (12, fs))] s.heap := hP
  have hl := lv_entry ([.ref h0, .int p0]) (n := 2) (Nat.le_of_ble_eq_true rfl)
  rw [lg_entry_eq]
  generalize (lg_sl ([.ref h0, .int p0]) ++ List.replicate (2 - (lg_sl ([.ref h0, .int p0])).length) Slot.unset).toArray = ls at hl ⊢
  have hl : lv_has ls 2 [(0, .ref h0), (1, .int p0)] := hl
  refine lv_aload_n hx hb dX12_count_0 rfl (lv_at hl 0 rfl) ?_
  refine lv_iconst (v := 0) hx hb dX12_count_1 (by decide) ?_
  refine va_put (D := D) (ci := 12) (v := .int 0) (ty := .int) (C := RX12) (T := TX12) (N := 109) hx hb hts (fun _ h => List.mem_cons_of_mem _ (List.mem_append_right _ h)) tyX12 tyX12_ok nmX12 hown hK hP hD hS 0 rfl rfl 0 (by decide) (hts (.fieldLink RX12 1 "PuppetFilmModel" "thrown" "I") (List.mem_of_getElem? (i := 1) (by decide +kernel))) (fun _ h9 => h9) rfl (by decide +kernel) rfl rfl (by simp only [List.length_set, hfs]; decide) dX12_count_2 (fun H locs hP hD hS => ?_)
  have hP : va_P D vwCl [(h0, .inr (12, (fs.set 0 (.int 0))))] _ := hP
  have hD : va_D A [(h0, .inr (12, (fs.set 0 (.int 0))))] := hD
  refine lv_iload_n hx hb dX12_count_5 rfl (lv_at hl 1 rfl) ?_
  by_cases c_1 : p0 = 0
  · refine lv_tableIn (off := 38) (tgt := 44) hx hb dX12_count_6 (by rw [c_1]; decide) (by rw [c_1]; decide) (by rw [c_1]; rfl) (by decide) ?_
    refine lv_aload_n hx hb dX12_count_44 rfl (lv_at hl 0 rfl) ?_
    refine va_get (D := D) (ci := 12) (v := .int 0) (C := RX12) (T := TX12) (N := 109) hx hb hts (fun _ h => List.mem_cons_of_mem _ (List.mem_append_right _ h)) hown hK hP 0 rfl rfl 1 (by decide) (hts (.fieldLink RX12 264 "PuppetFilmModel" "puppets" "I") (List.mem_of_getElem? (i := 2) (by decide +kernel))) (fun _ h9 => h9) ((List.getElem?_set_ne (by decide)).trans (hfs_1)) dX12_count_45 ?_
    have hP9 := hP.sub (ws' := [(h0, .inr (12, (fs.set 0 (.int 0))))]) [0] rfl
    have hD9 := hD.sub (ws' := [(h0, .inr (12, (fs.set 0 (.int 0))))]) [0] (by decide) rfl
    exact W.iret (v := 0) hx hb hr (fun t ht hW => ⟨⟨0, (), rfl, by simp [vl_count, c_1], ⟨(fs.set 0 (.int 0)), by simp only [List.length_set]; exact hfs, List.getElem?_set_self (by simp only [List.length_set, hfs]; decide), by rw [ht]; exact hP9, hD9⟩⟩, hS.F ht⟩) hS.2.2 dX12_count_48
  by_cases c_2 : p0 = 1
  · refine lv_tableIn (off := 43) (tgt := 49) hx hb dX12_count_6 (by rw [c_2]; decide) (by rw [c_2]; decide) (by rw [c_2]; rfl) (by decide) ?_
    refine lv_aload_n hx hb dX12_count_49 rfl (lv_at hl 0 rfl) ?_
    refine va_get (D := D) (ci := 12) (v := .int 0) (C := RX12) (T := TX12) (N := 109) hx hb hts (fun _ h => List.mem_cons_of_mem _ (List.mem_append_right _ h)) hown hK hP 0 rfl rfl 38 (by decide) (hts (.fieldLink RX12 398 "PuppetFilmModel" "shots" "I") (List.mem_of_getElem? (i := 3) (by decide +kernel))) (fun _ h9 => h9) ((List.getElem?_set_ne (by decide)).trans (hfs_38)) dX12_count_50 ?_
    have hP9 := hP.sub (ws' := [(h0, .inr (12, (fs.set 0 (.int 0))))]) [0] rfl
    have hD9 := hD.sub (ws' := [(h0, .inr (12, (fs.set 0 (.int 0))))]) [0] (by decide) rfl
    exact W.iret (v := 0) hx hb hr (fun t ht hW => ⟨⟨0, (), rfl, by simp [vl_count, c_1, c_2], ⟨(fs.set 0 (.int 0)), by simp only [List.length_set]; exact hfs, List.getElem?_set_self (by simp only [List.length_set, hfs]; decide), by rw [ht]; exact hP9, hD9⟩⟩, hS.F ht⟩) hS.2.2 dX12_count_53
  by_cases c_3 : p0 = 2
  · refine lv_tableIn (off := 48) (tgt := 54) hx hb dX12_count_6 (by rw [c_3]; decide) (by rw [c_3]; decide) (by rw [c_3]; rfl) (by decide) ?_
    refine lv_aload_n hx hb dX12_count_54 rfl (lv_at hl 0 rfl) ?_
    refine va_get (D := D) (ci := 12) (v := .int 0) (C := RX12) (T := TX12) (N := 109) hx hb hts (fun _ h => List.mem_cons_of_mem _ (List.mem_append_right _ h)) hown hK hP 0 rfl rfl 78 (by decide) (hts (.fieldLink RX12 504 "PuppetFilmModel" "rows" "I") (List.mem_of_getElem? (i := 4) (by decide +kernel))) (fun _ h9 => h9) ((List.getElem?_set_ne (by decide)).trans (hfs_78)) dX12_count_55 ?_
    have hP9 := hP.sub (ws' := [(h0, .inr (12, (fs.set 0 (.int 0))))]) [0] rfl
    have hD9 := hD.sub (ws' := [(h0, .inr (12, (fs.set 0 (.int 0))))]) [0] (by decide) rfl
    exact W.iret (v := 0) hx hb hr (fun t ht hW => ⟨⟨0, (), rfl, by simp [vl_count, c_1, c_2, c_3], ⟨(fs.set 0 (.int 0)), by simp only [List.length_set]; exact hfs, List.getElem?_set_self (by simp only [List.length_set, hfs]; decide), by rw [ht]; exact hP9, hD9⟩⟩, hS.F ht⟩) hS.2.2 dX12_count_58
  by_cases c_4 : p0 = 3
  · refine lv_tableIn (off := 53) (tgt := 59) hx hb dX12_count_6 (by rw [c_4]; decide) (by rw [c_4]; decide) (by rw [c_4]; rfl) (by decide) ?_
    refine lv_aload_n hx hb dX12_count_59 rfl (lv_at hl 0 rfl) ?_
    refine va_get (D := D) (ci := 12) (v := .int 0) (C := RX12) (T := TX12) (N := 109) hx hb hts (fun _ h => List.mem_cons_of_mem _ (List.mem_append_right _ h)) hown hK hP 0 rfl rfl 82 (by decide) (hts (.fieldLink RX12 513 "PuppetFilmModel" "half" "I") (List.mem_of_getElem? (i := 5) (by decide +kernel))) (fun _ h9 => h9) ((List.getElem?_set_ne (by decide)).trans (hfs_82)) dX12_count_60 ?_
    have hP9 := hP.sub (ws' := [(h0, .inr (12, (fs.set 0 (.int 0))))]) [0] rfl
    have hD9 := hD.sub (ws' := [(h0, .inr (12, (fs.set 0 (.int 0))))]) [0] (by decide) rfl
    exact W.iret (v := 0) hx hb hr (fun t ht hW => ⟨⟨0, (), rfl, by simp [vl_count, c_1, c_2, c_3, c_4], ⟨(fs.set 0 (.int 0)), by simp only [List.length_set]; exact hfs, List.getElem?_set_self (by simp only [List.length_set, hfs]; decide), by rw [ht]; exact hP9, hD9⟩⟩, hS.F ht⟩) hS.2.2 dX12_count_63
  by_cases c_5 : p0 = 4
  · refine lv_tableIn (off := 58) (tgt := 64) hx hb dX12_count_6 (by rw [c_5]; decide) (by rw [c_5]; decide) (by rw [c_5]; rfl) (by decide) ?_
    refine lv_aload_n hx hb dX12_count_64 rfl (lv_at hl 0 rfl) ?_
    refine va_get (D := D) (ci := 12) (v := .int 0) (C := RX12) (T := TX12) (N := 109) hx hb hts (fun _ h => List.mem_cons_of_mem _ (List.mem_append_right _ h)) hown hK hP 0 rfl rfl 12 (by decide) (hts (.fieldLink RX12 279 "PuppetFilmModel" "taped" "I") (List.mem_of_getElem? (i := 6) (by decide +kernel))) (fun _ h9 => h9) ((List.getElem?_set_ne (by decide)).trans (hfs_12)) dX12_count_65 ?_
    have hP9 := hP.sub (ws' := [(h0, .inr (12, (fs.set 0 (.int 0))))]) [0] rfl
    have hD9 := hD.sub (ws' := [(h0, .inr (12, (fs.set 0 (.int 0))))]) [0] (by decide) rfl
    exact W.iret (v := 0) hx hb hr (fun t ht hW => ⟨⟨0, (), rfl, by simp [vl_count, c_1, c_2, c_3, c_4, c_5], ⟨(fs.set 0 (.int 0)), by simp only [List.length_set]; exact hfs, List.getElem?_set_self (by simp only [List.length_set, hfs]; decide), by rw [ht]; exact hP9, hD9⟩⟩, hS.F ht⟩) hS.2.2 dX12_count_68
  by_cases c_6 : p0 = 5
  · refine lv_tableIn (off := 63) (tgt := 69) hx hb dX12_count_6 (by rw [c_6]; decide) (by rw [c_6]; decide) (by rw [c_6]; rfl) (by decide) ?_
    refine lv_aload_n hx hb dX12_count_69 rfl (lv_at hl 0 rfl) ?_
    refine va_get (D := D) (ci := 12) (v := .int 0) (C := RX12) (T := TX12) (N := 109) hx hb hts (fun _ h => List.mem_cons_of_mem _ (List.mem_append_right _ h)) hown hK hP 0 rfl rfl 83 (by decide) (hts (.fieldLink RX12 516 "PuppetFilmModel" "drifts" "I") (List.mem_of_getElem? (i := 7) (by decide +kernel))) (fun _ h9 => h9) ((List.getElem?_set_ne (by decide)).trans (hfs_83)) dX12_count_70 ?_
    have hP9 := hP.sub (ws' := [(h0, .inr (12, (fs.set 0 (.int 0))))]) [0] rfl
    have hD9 := hD.sub (ws' := [(h0, .inr (12, (fs.set 0 (.int 0))))]) [0] (by decide) rfl
    exact W.iret (v := 0) hx hb hr (fun t ht hW => ⟨⟨0, (), rfl, by simp [vl_count, c_1, c_2, c_3, c_4, c_5, c_6], ⟨(fs.set 0 (.int 0)), by simp only [List.length_set]; exact hfs, List.getElem?_set_self (by simp only [List.length_set, hfs]; decide), by rw [ht]; exact hP9, hD9⟩⟩, hS.F ht⟩) hS.2.2 dX12_count_73
  have tc_1 : p0.toInt ≠ 0 := ne_toInt c_1
  have tc_2 : p0.toInt ≠ 1 := ne_toInt c_2
  have tc_3 : p0.toInt ≠ 2 := ne_toInt c_3
  have tc_4 : p0.toInt ≠ 3 := ne_toInt c_4
  have tc_5 : p0.toInt ≠ 4 := ne_toInt c_5
  have tc_6 : p0.toInt ≠ 5 := ne_toInt c_6
  refine lv_tableOut (tgt := 74) hx hb dX12_count_6 (by omega) (by decide) ?_
  refine lv_iconst (v := (-1)) hx hb dX12_count_74 (by decide) ?_
  have hP9 := hP.sub (ws' := [(h0, .inr (12, (fs.set 0 (.int 0))))]) [0] rfl
  have hD9 := hD.sub (ws' := [(h0, .inr (12, (fs.set 0 (.int 0))))]) [0] (by decide) rfl
  exact W.iret (v := (-1)) hx hb hr (fun t ht hW => ⟨⟨(-1), (), rfl, by simp [vl_count, c_1, c_2, c_3, c_4, c_5, c_6], ⟨(fs.set 0 (.int 0)), by simp only [List.length_set]; exact hfs, List.getElem?_set_self (by simp only [List.length_set, hfs]; decide), by rw [ht]; exact hP9, hD9⟩⟩, hS.F ht⟩) hS.2.2 dX12_count_75
theorem dX12_feed_0 : decode cX12_feed 0 = .ok (.aload_n 0, 1) := by decide +kernel
theorem dX12_feed_1 : decode cX12_feed 1 = .ok (.iconst 0, 1) := by decide +kernel
theorem dX12_feed_102 : decode cX12_feed 102 = .ok (.iand, 1) := by decide +kernel
theorem dX12_feed_103 : decode cX12_feed 103 = .ok (.iastore, 1) := by decide +kernel
theorem dX12_feed_104 : decode cX12_feed 104 = .ok (.aload_n 0, 1) := by decide +kernel
theorem dX12_feed_105 : decode cX12_feed 105 = .ok (.dup, 1) := by decide +kernel
theorem dX12_feed_106 : decode cX12_feed 106 = .ok (.getfield 279, 3) := by decide +kernel
theorem dX12_feed_109 : decode cX12_feed 109 = .ok (.iconst 1, 1) := by decide +kernel
theorem dX12_feed_11 : decode cX12_feed 11 = .ok (.iadd, 1) := by decide +kernel
theorem dX12_feed_110 : decode cX12_feed 110 = .ok (.iadd, 1) := by decide +kernel
theorem dX12_feed_111 : decode cX12_feed 111 = .ok (.putfield 279, 3) := by decide +kernel
theorem dX12_feed_114 : decode cX12_feed 114 = .ok (.iinc 6 1, 3) := by decide +kernel
theorem dX12_feed_117 : decode cX12_feed 117 = .ok (.goto (-94), 3) := by decide +kernel
theorem dX12_feed_12 : decode cX12_feed 12 = .ok (.sipush 400, 3) := by decide +kernel
theorem dX12_feed_120 : decode cX12_feed 120 = .ok (.aload_n 0, 1) := by decide +kernel
theorem dX12_feed_121 : decode cX12_feed 121 = .ok (.getfield 279, 3) := by decide +kernel
theorem dX12_feed_124 : decode cX12_feed 124 = .ok (.ireturn, 1) := by decide +kernel
theorem dX12_feed_15 : decode cX12_feed 15 = .ok (.if_icmp .le 5, 3) := by decide +kernel
theorem dX12_feed_2 : decode cX12_feed 2 = .ok (.putfield 1, 3) := by decide +kernel
theorem dX12_feed_20 : decode cX12_feed 20 = .ok (.iconst 0, 1) := by decide +kernel
theorem dX12_feed_21 : decode cX12_feed 21 = .ok (.istore 6, 2) := by decide +kernel
theorem dX12_feed_23 : decode cX12_feed 23 = .ok (.iload 6, 2) := by decide +kernel
theorem dX12_feed_25 : decode cX12_feed 25 = .ok (.bipush 20, 2) := by decide +kernel
theorem dX12_feed_27 : decode cX12_feed 27 = .ok (.if_icmp .ge 93, 3) := by decide +kernel
theorem dX12_feed_30 : decode cX12_feed 30 = .ok (.iload 6, 2) := by decide +kernel
theorem dX12_feed_32 : decode cX12_feed 32 = .ok (.iconst 4, 1) := by decide +kernel
theorem dX12_feed_33 : decode cX12_feed 33 = .ok (.if_icmp .ge 7, 3) := by decide +kernel
theorem dX12_feed_36 : decode cX12_feed 36 = .ok (.iload_n 1, 1) := by decide +kernel
theorem dX12_feed_37 : decode cX12_feed 37 = .ok (.goto 39, 3) := by decide +kernel
theorem dX12_feed_40 : decode cX12_feed 40 = .ok (.iload 6, 2) := by decide +kernel
theorem dX12_feed_42 : decode cX12_feed 42 = .ok (.bipush 8, 2) := by decide +kernel
theorem dX12_feed_44 : decode cX12_feed 44 = .ok (.if_icmp .ge 7, 3) := by decide +kernel
theorem dX12_feed_47 : decode cX12_feed 47 = .ok (.iload_n 2, 1) := by decide +kernel
theorem dX12_feed_48 : decode cX12_feed 48 = .ok (.goto 28, 3) := by decide +kernel
theorem dX12_feed_5 : decode cX12_feed 5 = .ok (.aload_n 0, 1) := by decide +kernel
theorem dX12_feed_51 : decode cX12_feed 51 = .ok (.iload 6, 2) := by decide +kernel
theorem dX12_feed_53 : decode cX12_feed 53 = .ok (.bipush 12, 2) := by decide +kernel
theorem dX12_feed_55 : decode cX12_feed 55 = .ok (.if_icmp .ge 7, 3) := by decide +kernel
theorem dX12_feed_58 : decode cX12_feed 58 = .ok (.iload_n 3, 1) := by decide +kernel
theorem dX12_feed_59 : decode cX12_feed 59 = .ok (.goto 17, 3) := by decide +kernel
theorem dX12_feed_6 : decode cX12_feed 6 = .ok (.getfield 279, 3) := by decide +kernel
theorem dX12_feed_62 : decode cX12_feed 62 = .ok (.iload 6, 2) := by decide +kernel
theorem dX12_feed_64 : decode cX12_feed 64 = .ok (.bipush 16, 2) := by decide +kernel
theorem dX12_feed_66 : decode cX12_feed 66 = .ok (.if_icmp .ge 8, 3) := by decide +kernel
theorem dX12_feed_69 : decode cX12_feed 69 = .ok (.iload 4, 2) := by decide +kernel
theorem dX12_feed_71 : decode cX12_feed 71 = .ok (.goto 5, 3) := by decide +kernel
theorem dX12_feed_74 : decode cX12_feed 74 = .ok (.iload 5, 2) := by decide +kernel
theorem dX12_feed_76 : decode cX12_feed 76 = .ok (.istore 7, 2) := by decide +kernel
theorem dX12_feed_78 : decode cX12_feed 78 = .ok (.aload_n 0, 1) := by decide +kernel
theorem dX12_feed_79 : decode cX12_feed 79 = .ok (.getfield 47, 3) := by decide +kernel
theorem dX12_feed_82 : decode cX12_feed 82 = .ok (.aload_n 0, 1) := by decide +kernel
theorem dX12_feed_83 : decode cX12_feed 83 = .ok (.getfield 279, 3) := by decide +kernel
theorem dX12_feed_86 : decode cX12_feed 86 = .ok (.iload 7, 2) := by decide +kernel
theorem dX12_feed_88 : decode cX12_feed 88 = .ok (.bipush 24, 2) := by decide +kernel
theorem dX12_feed_9 : decode cX12_feed 9 = .ok (.bipush 20, 2) := by decide +kernel
theorem dX12_feed_90 : decode cX12_feed 90 = .ok (.bipush 8, 2) := by decide +kernel
theorem dX12_feed_92 : decode cX12_feed 92 = .ok (.iload 6, 2) := by decide +kernel
theorem dX12_feed_94 : decode cX12_feed 94 = .ok (.iconst 4, 1) := by decide +kernel
theorem dX12_feed_95 : decode cX12_feed 95 = .ok (.irem, 1) := by decide +kernel
theorem dX12_feed_96 : decode cX12_feed 96 = .ok (.imul, 1) := by decide +kernel
theorem dX12_feed_97 : decode cX12_feed 97 = .ok (.isub, 1) := by decide +kernel
theorem dX12_feed_98 : decode cX12_feed 98 = .ok (.ishr, 1) := by decide +kernel
theorem dX12_feed_99 : decode cX12_feed 99 = .ok (.sipush 255, 3) := by decide +kernel
set_option maxHeartbeats 4000000 in
set_option maxRecDepth 100000 in
theorem c_X12_feed (l : Launch) (D : va_G) (cT : Nat → ClassId) (h0 : Nat) (p0 : Int32) (p1 : Int32) (p2 : Int32) (p3 : Int32) (p4 : Int32) (fs : List Value) (m_th : Int32) (m_tape : Nat) (mta : Nat → Int32) (sz : Nat) (hfs : fs.length = 109) (hfs_0 : fs[0]? = some (.int m_th)) (hfs_12 : fs[12]? = some (.int 0)) (hfs_21 : fs[21]? = some (.ref m_tape)) : Met l yX12_feed wsX12_feed ({ frames := 8, cells := 0, slots := 0, locals := 160 }) (va_Pc [.ref h0, .int p0, .int p1, .int p2, .int p3, .int p4] (PW D cT [(h0, .inr (12, fs)), (m_tape, .inl (cT 0, 400, .inl mta))] sz)) (va_Qi (fun (r : Int32) (_ : Unit) => r = 20) (fun (_ : Unit) (t : State) => ∃ (gs : List Value), (gs.length = 109) ∧ (gs[0]? = some (.int 0)) ∧ va_P D vwCl [(h0, .inr (12, gs))] t.heap ∧ va_D (va_A [(h0, .inr (12, fs)), (m_tape, .inl (cT 0, 400, .inl mta))] sz) [(h0, .inr (12, gs))]) (va_A [(h0, .inr (12, fs)), (m_tape, .inl (cT 0, 400, .inl mta))] sz)) 0 0 (va_A [(h0, .inr (12, fs)), (m_tape, .inl (cT 0, 400, .inl mta))] sz) := by
  refine Met.ofW (cc := cX12_feed) (maxL := 8) (ret := (some .int)) (by decide) rfl ?_
  intro p e s m args below meth c s₁ B hml hv
  obtain ⟨rfl, hsz, hP, hK, hD0, hG⟩ := hv
  have hx := B.exec
  have hb := B.bytes
  have hr := B.returns
  have hts := atoms_spec (ws := wsX12_feed) B.pre
  have hown : s.vm.findClass RX12 = some m.cls := findClass_of_methodNamed B.named
  have hlocks := B.notSynchronized
  subst hsz
  have hD := hD0.self (sz := s.heap.size)
  generalize hAe : va_A [(h0, .inr (12, fs)), (m_tape, .inl (cT 0, 400, .inl mta))] s.heap.size = A at hD ⊢
  have hA : ∀ q : Nat, s.heap.size ≤ q → A q := fun q h => by rw [← hAe]; exact Or.inr h
  have hS : va_S A s.heap s.heap [] := va_S.rf
  have hP : va_P D vwCl [(h0, .inr (12, fs)), (m_tape, .inl (cT 0, 400, .inl mta))] s.heap := hP
  have hl := lv_entry ([.ref h0, .int p0, .int p1, .int p2, .int p3, .int p4]) (n := 8) (Nat.le_of_ble_eq_true rfl)
  rw [lg_entry_eq]
  generalize (lg_sl ([.ref h0, .int p0, .int p1, .int p2, .int p3, .int p4]) ++ List.replicate (8 - (lg_sl ([.ref h0, .int p0, .int p1, .int p2, .int p3, .int p4])).length) Slot.unset).toArray = ls at hl ⊢
  have hl : lv_has ls 8 [(0, .ref h0), (1, .int p0), (2, .int p1), (3, .int p2), (4, .int p3), (5, .int p4)] := hl
  refine lv_aload_n hx hb dX12_feed_0 rfl (lv_at hl 0 rfl) ?_
  refine lv_iconst (v := 0) hx hb dX12_feed_1 (by decide) ?_
  refine va_put (D := D) (ci := 12) (v := .int 0) (ty := .int) (C := RX12) (T := TX12) (N := 109) hx hb hts (fun _ h => List.mem_cons_of_mem _ (List.mem_append_right _ h)) tyX12 tyX12_ok nmX12 hown hK hP hD hS 0 rfl rfl 0 (by decide) (hts (.fieldLink RX12 1 "PuppetFilmModel" "thrown" "I") (List.mem_of_getElem? (i := 1) (by decide +kernel))) (fun _ h9 => h9) rfl (by decide +kernel) rfl rfl (by simp only [List.length_set, hfs]; decide) dX12_feed_2 (fun H locs hP hD hS => ?_)
  have hP : va_P D vwCl [(h0, .inr (12, (fs.set 0 (.int 0)))), (m_tape, .inl (cT 0, 400, .inl mta))] _ := hP
  have hD : va_D A [(h0, .inr (12, (fs.set 0 (.int 0)))), (m_tape, .inl (cT 0, 400, .inl mta))] := hD
  refine lv_aload_n hx hb dX12_feed_5 rfl (lv_at hl 0 rfl) ?_
  refine va_get (D := D) (ci := 12) (v := .int 0) (C := RX12) (T := TX12) (N := 109) hx hb hts (fun _ h => List.mem_cons_of_mem _ (List.mem_append_right _ h)) hown hK hP 0 rfl rfl 12 (by decide) (hts (.fieldLink RX12 279 "PuppetFilmModel" "taped" "I") (List.mem_of_getElem? (i := 2) (by decide +kernel))) (fun _ h9 => h9) ((List.getElem?_set_ne (by decide)).trans (hfs_12)) dX12_feed_6 ?_
  refine lv_bipush (v := 20) hx hb dX12_feed_9 (by decide) ?_
  refine lv_iadd hx hb dX12_feed_11 ?_
  refine lv_topi (fun z_1 ez_1 => ?_)
  obtain rfl : z_1 = 20 := ez_1.trans (by decide)
  refine lv_sipush (v := 400) hx hb dX12_feed_12 (by decide) ?_
  refine lv_icmp_le (tgt := 20) hx hb dX12_feed_15 (by decide) (fun _ => ?_) (fun c9 => absurd c9 (by decide))
  refine lv_iconst (v := 0) hx hb dX12_feed_20 (by decide) ?_
  refine lv_istore (lv' := [(6, .int 0), (0, .ref h0), (1, .int p0), (2, .int p1), (3, .int p2), (4, .int p3), (5, .int p4)]) hx hb dX12_feed_21 hl (by decide) rfl (fun ls hl => ?_)
  refine lv_iload hx hb dX12_feed_23 (lv_at hl 0 rfl) ?_
  refine lv_bipush (v := 20) hx hb dX12_feed_25 (by decide) ?_
  refine lv_icmp_ge (tgt := 120) hx hb dX12_feed_27 (by decide) (fun c9 => absurd c9 (by decide)) (fun _ => ?_)
  refine lv_iload hx hb dX12_feed_30 (lv_at hl 0 rfl) ?_
  refine lv_iconst (v := 4) hx hb dX12_feed_32 (by decide) ?_
  refine lv_icmp_ge (tgt := 40) hx hb dX12_feed_33 (by decide) (fun c9 => absurd c9 (by decide)) (fun _ => ?_)
  refine lv_iload_n hx hb dX12_feed_36 rfl (lv_at hl 2 rfl) ?_
  refine lv_goto (tgt := 76) hx hb dX12_feed_37 (by decide) ?_
  refine lv_istore (lv' := [(7, .int p0), (6, .int 0), (0, .ref h0), (1, .int p0), (2, .int p1), (3, .int p2), (4, .int p3), (5, .int p4)]) hx hb dX12_feed_76 hl (by decide) rfl (fun ls hl => ?_)
  refine lv_aload_n hx hb dX12_feed_78 rfl (lv_at hl 2 rfl) ?_
  refine va_get (D := D) (ci := 12) (v := .ref m_tape) (C := RX12) (T := TX12) (N := 109) hx hb hts (fun _ h => List.mem_cons_of_mem _ (List.mem_append_right _ h)) hown hK hP 0 rfl rfl 21 (by decide) (hts (.fieldLink RX12 47 "PuppetFilmModel" "tape" "[I") (List.mem_of_getElem? (i := 3) (by decide +kernel))) (fun _ h9 => h9) ((List.getElem?_set_ne (by decide)).trans (hfs_21)) dX12_feed_79 ?_
  refine lv_aload_n hx hb dX12_feed_82 rfl (lv_at hl 2 rfl) ?_
  refine va_get (D := D) (ci := 12) (v := .int 0) (C := RX12) (T := TX12) (N := 109) hx hb hts (fun _ h => List.mem_cons_of_mem _ (List.mem_append_right _ h)) hown hK hP 0 rfl rfl 12 (by decide) (hts (.fieldLink RX12 279 "PuppetFilmModel" "taped" "I") (List.mem_of_getElem? (i := 2) (by decide +kernel))) (fun _ h9 => h9) ((List.getElem?_set_ne (by decide)).trans (hfs_12)) dX12_feed_83 ?_
  refine lv_iload hx hb dX12_feed_86 (lv_at hl 0 rfl) ?_
  refine lv_bipush (v := 24) hx hb dX12_feed_88 (by decide) ?_
  refine lv_bipush (v := 8) hx hb dX12_feed_90 (by decide) ?_
  refine lv_iload hx hb dX12_feed_92 (lv_at hl 1 rfl) ?_
  refine lv_iconst (v := 4) hx hb dX12_feed_94 (by decide) ?_
  refine lv_irem hx hb dX12_feed_95 (by decide) ?_
  refine lv_topi (fun z_2 ez_2 => ?_)
  obtain rfl : z_2 = 0 := ez_2.trans (by decide)
  refine lv_imul hx hb dX12_feed_96 ?_
  refine lv_topi (fun z_3 ez_3 => ?_)
  obtain rfl : z_3 = 0 := ez_3.trans (by decide)
  refine lv_isub hx hb dX12_feed_97 ?_
  refine lv_topi (fun z_4 ez_4 => ?_)
  obtain rfl : z_4 = 24 := ez_4.trans (by decide)
  refine lv_ishr hx hb dX12_feed_98 ?_
  refine lv_topi (fun x_5 ex_5 => ?_)
  refine lv_sipush (v := 255) hx hb dX12_feed_99 (by decide) ?_
  refine lv_iand hx hb dX12_feed_102 ?_
  refine lv_topi (fun x_6 ex_6 => ?_)
  refine va_iast hx hb hK hP hD hS 1 0 rfl rfl (by unfold vp_in; decide) dX12_feed_103 (fun H locs hP hD hS => ?_)
  generalize upd mta (Int32.toNatClampNeg 0) x_6 = f_7 at hP hD
  have hP : va_P D vwCl [(h0, .inr (12, (fs.set 0 (.int 0)))), (m_tape, .inl (cT 0, 400, .inl f_7))] _ := hP
  have hD : va_D A [(h0, .inr (12, (fs.set 0 (.int 0)))), (m_tape, .inl (cT 0, 400, .inl f_7))] := hD
  refine lv_aload_n hx hb dX12_feed_104 rfl (lv_at hl 2 rfl) ?_
  refine lv_dup hx hb dX12_feed_105 rfl ?_
  refine va_get (D := D) (ci := 12) (v := .int 0) (C := RX12) (T := TX12) (N := 109) hx hb hts (fun _ h => List.mem_cons_of_mem _ (List.mem_append_right _ h)) hown hK hP 0 rfl rfl 12 (by decide) (hts (.fieldLink RX12 279 "PuppetFilmModel" "taped" "I") (List.mem_of_getElem? (i := 2) (by decide +kernel))) (fun _ h9 => h9) ((List.getElem?_set_ne (by decide)).trans (hfs_12)) dX12_feed_106 ?_
  refine lv_iconst (v := 1) hx hb dX12_feed_109 (by decide) ?_
  refine lv_iadd hx hb dX12_feed_110 ?_
  refine lv_topi (fun z_8 ez_8 => ?_)
  obtain rfl : z_8 = 1 := ez_8.trans (by decide)
  refine va_put (D := D) (ci := 12) (v := .int 1) (ty := .int) (C := RX12) (T := TX12) (N := 109) hx hb hts (fun _ h => List.mem_cons_of_mem _ (List.mem_append_right _ h)) tyX12 tyX12_ok nmX12 hown hK hP hD hS 0 rfl rfl 12 (by decide) (hts (.fieldLink RX12 279 "PuppetFilmModel" "taped" "I") (List.mem_of_getElem? (i := 2) (by decide +kernel))) (fun _ h9 => h9) rfl (by decide +kernel) rfl rfl (by simp only [List.length_set, hfs]; decide) dX12_feed_111 (fun H locs hP hD hS => ?_)
  have hP : va_P D vwCl [(h0, .inr (12, ((fs.set 0 (.int 0)).set 12 (.int 1)))), (m_tape, .inl (cT 0, 400, .inl f_7))] _ := hP
  have hD : va_D A [(h0, .inr (12, ((fs.set 0 (.int 0)).set 12 (.int 1)))), (m_tape, .inl (cT 0, 400, .inl f_7))] := hD
  refine lv_iinc (v := 1) (lv' := [(6, .int 1), (7, .int p0), (0, .ref h0), (1, .int p0), (2, .int p1), (3, .int p2), (4, .int p3), (5, .int p4)]) hx hb dX12_feed_114 hl (k := 1) rfl (by decide) (by decide) rfl (fun ls hl => ?_)
  refine lv_goto (tgt := 23) hx hb dX12_feed_117 (by decide) ?_
  refine lv_iload hx hb dX12_feed_23 (lv_at hl 0 rfl) ?_
  refine lv_bipush (v := 20) hx hb dX12_feed_25 (by decide) ?_
  refine lv_icmp_ge (tgt := 120) hx hb dX12_feed_27 (by decide) (fun c9 => absurd c9 (by decide)) (fun _ => ?_)
  refine lv_iload hx hb dX12_feed_30 (lv_at hl 0 rfl) ?_
  refine lv_iconst (v := 4) hx hb dX12_feed_32 (by decide) ?_
  refine lv_icmp_ge (tgt := 40) hx hb dX12_feed_33 (by decide) (fun c9 => absurd c9 (by decide)) (fun _ => ?_)
  refine lv_iload_n hx hb dX12_feed_36 rfl (lv_at hl 3 rfl) ?_
  refine lv_goto (tgt := 76) hx hb dX12_feed_37 (by decide) ?_
  refine lv_istore (lv' := [(7, .int p0), (6, .int 1), (0, .ref h0), (1, .int p0), (2, .int p1), (3, .int p2), (4, .int p3), (5, .int p4)]) hx hb dX12_feed_76 hl (by decide) rfl (fun ls hl => ?_)
  refine lv_aload_n hx hb dX12_feed_78 rfl (lv_at hl 2 rfl) ?_
  refine va_get (D := D) (ci := 12) (v := .ref m_tape) (C := RX12) (T := TX12) (N := 109) hx hb hts (fun _ h => List.mem_cons_of_mem _ (List.mem_append_right _ h)) hown hK hP 0 rfl rfl 21 (by decide) (hts (.fieldLink RX12 47 "PuppetFilmModel" "tape" "[I") (List.mem_of_getElem? (i := 3) (by decide +kernel))) (fun _ h9 => h9) ((List.getElem?_set_ne (by decide)).trans ((List.getElem?_set_ne (by decide)).trans (hfs_21))) dX12_feed_79 ?_
  refine lv_aload_n hx hb dX12_feed_82 rfl (lv_at hl 2 rfl) ?_
  refine va_get (D := D) (ci := 12) (v := .int 1) (C := RX12) (T := TX12) (N := 109) hx hb hts (fun _ h => List.mem_cons_of_mem _ (List.mem_append_right _ h)) hown hK hP 0 rfl rfl 12 (by decide) (hts (.fieldLink RX12 279 "PuppetFilmModel" "taped" "I") (List.mem_of_getElem? (i := 2) (by decide +kernel))) (fun _ h9 => h9) (List.getElem?_set_self (by simp only [List.length_set, hfs]; decide)) dX12_feed_83 ?_
  refine lv_iload hx hb dX12_feed_86 (lv_at hl 0 rfl) ?_
  refine lv_bipush (v := 24) hx hb dX12_feed_88 (by decide) ?_
  refine lv_bipush (v := 8) hx hb dX12_feed_90 (by decide) ?_
  refine lv_iload hx hb dX12_feed_92 (lv_at hl 1 rfl) ?_
  refine lv_iconst (v := 4) hx hb dX12_feed_94 (by decide) ?_
  refine lv_irem hx hb dX12_feed_95 (by decide) ?_
  refine lv_topi (fun z_9 ez_9 => ?_)
  obtain rfl : z_9 = 1 := ez_9.trans (by decide)
  refine lv_imul hx hb dX12_feed_96 ?_
  refine lv_topi (fun z_10 ez_10 => ?_)
  obtain rfl : z_10 = 8 := ez_10.trans (by decide)
  refine lv_isub hx hb dX12_feed_97 ?_
  refine lv_topi (fun z_11 ez_11 => ?_)
  obtain rfl : z_11 = 16 := ez_11.trans (by decide)
  refine lv_ishr hx hb dX12_feed_98 ?_
  refine lv_topi (fun x_12 ex_12 => ?_)
  refine lv_sipush (v := 255) hx hb dX12_feed_99 (by decide) ?_
  refine lv_iand hx hb dX12_feed_102 ?_
  refine lv_topi (fun x_13 ex_13 => ?_)
  refine va_iast hx hb hK hP hD hS 1 0 rfl rfl (by unfold vp_in; decide) dX12_feed_103 (fun H locs hP hD hS => ?_)
  generalize upd f_7 (Int32.toNatClampNeg 1) x_13 = f_14 at hP hD
  have hP : va_P D vwCl [(h0, .inr (12, ((fs.set 0 (.int 0)).set 12 (.int 1)))), (m_tape, .inl (cT 0, 400, .inl f_14))] _ := hP
  have hD : va_D A [(h0, .inr (12, ((fs.set 0 (.int 0)).set 12 (.int 1)))), (m_tape, .inl (cT 0, 400, .inl f_14))] := hD
  refine lv_aload_n hx hb dX12_feed_104 rfl (lv_at hl 2 rfl) ?_
  refine lv_dup hx hb dX12_feed_105 rfl ?_
  refine va_get (D := D) (ci := 12) (v := .int 1) (C := RX12) (T := TX12) (N := 109) hx hb hts (fun _ h => List.mem_cons_of_mem _ (List.mem_append_right _ h)) hown hK hP 0 rfl rfl 12 (by decide) (hts (.fieldLink RX12 279 "PuppetFilmModel" "taped" "I") (List.mem_of_getElem? (i := 2) (by decide +kernel))) (fun _ h9 => h9) (List.getElem?_set_self (by simp only [List.length_set, hfs]; decide)) dX12_feed_106 ?_
  refine lv_iconst (v := 1) hx hb dX12_feed_109 (by decide) ?_
  refine lv_iadd hx hb dX12_feed_110 ?_
  refine lv_topi (fun z_15 ez_15 => ?_)
  obtain rfl : z_15 = 2 := ez_15.trans (by decide)
  refine va_put (D := D) (ci := 12) (v := .int 2) (ty := .int) (C := RX12) (T := TX12) (N := 109) hx hb hts (fun _ h => List.mem_cons_of_mem _ (List.mem_append_right _ h)) tyX12 tyX12_ok nmX12 hown hK hP hD hS 0 rfl rfl 12 (by decide) (hts (.fieldLink RX12 279 "PuppetFilmModel" "taped" "I") (List.mem_of_getElem? (i := 2) (by decide +kernel))) (fun _ h9 => h9) rfl (by decide +kernel) rfl rfl (by simp only [List.length_set, hfs]; decide) dX12_feed_111 (fun H locs hP hD hS => ?_)
  have hP : va_P D vwCl [(h0, .inr (12, (((fs.set 0 (.int 0)).set 12 (.int 1)).set 12 (.int 2)))), (m_tape, .inl (cT 0, 400, .inl f_14))] _ := hP
  have hD : va_D A [(h0, .inr (12, (((fs.set 0 (.int 0)).set 12 (.int 1)).set 12 (.int 2)))), (m_tape, .inl (cT 0, 400, .inl f_14))] := hD
  refine lv_iinc (v := 2) (lv' := [(6, .int 2), (7, .int p0), (0, .ref h0), (1, .int p0), (2, .int p1), (3, .int p2), (4, .int p3), (5, .int p4)]) hx hb dX12_feed_114 hl (k := 1) rfl (by decide) (by decide) rfl (fun ls hl => ?_)
  refine lv_goto (tgt := 23) hx hb dX12_feed_117 (by decide) ?_
  refine lv_iload hx hb dX12_feed_23 (lv_at hl 0 rfl) ?_
  refine lv_bipush (v := 20) hx hb dX12_feed_25 (by decide) ?_
  refine lv_icmp_ge (tgt := 120) hx hb dX12_feed_27 (by decide) (fun c9 => absurd c9 (by decide)) (fun _ => ?_)
  refine lv_iload hx hb dX12_feed_30 (lv_at hl 0 rfl) ?_
  refine lv_iconst (v := 4) hx hb dX12_feed_32 (by decide) ?_
  refine lv_icmp_ge (tgt := 40) hx hb dX12_feed_33 (by decide) (fun c9 => absurd c9 (by decide)) (fun _ => ?_)
  refine lv_iload_n hx hb dX12_feed_36 rfl (lv_at hl 3 rfl) ?_
  refine lv_goto (tgt := 76) hx hb dX12_feed_37 (by decide) ?_
  refine lv_istore (lv' := [(7, .int p0), (6, .int 2), (0, .ref h0), (1, .int p0), (2, .int p1), (3, .int p2), (4, .int p3), (5, .int p4)]) hx hb dX12_feed_76 hl (by decide) rfl (fun ls hl => ?_)
  refine lv_aload_n hx hb dX12_feed_78 rfl (lv_at hl 2 rfl) ?_
  refine va_get (D := D) (ci := 12) (v := .ref m_tape) (C := RX12) (T := TX12) (N := 109) hx hb hts (fun _ h => List.mem_cons_of_mem _ (List.mem_append_right _ h)) hown hK hP 0 rfl rfl 21 (by decide) (hts (.fieldLink RX12 47 "PuppetFilmModel" "tape" "[I") (List.mem_of_getElem? (i := 3) (by decide +kernel))) (fun _ h9 => h9) ((List.getElem?_set_ne (by decide)).trans ((List.getElem?_set_ne (by decide)).trans ((List.getElem?_set_ne (by decide)).trans (hfs_21)))) dX12_feed_79 ?_
  refine lv_aload_n hx hb dX12_feed_82 rfl (lv_at hl 2 rfl) ?_
  refine va_get (D := D) (ci := 12) (v := .int 2) (C := RX12) (T := TX12) (N := 109) hx hb hts (fun _ h => List.mem_cons_of_mem _ (List.mem_append_right _ h)) hown hK hP 0 rfl rfl 12 (by decide) (hts (.fieldLink RX12 279 "PuppetFilmModel" "taped" "I") (List.mem_of_getElem? (i := 2) (by decide +kernel))) (fun _ h9 => h9) (List.getElem?_set_self (by simp only [List.length_set, hfs]; decide)) dX12_feed_83 ?_
  refine lv_iload hx hb dX12_feed_86 (lv_at hl 0 rfl) ?_
  refine lv_bipush (v := 24) hx hb dX12_feed_88 (by decide) ?_
  refine lv_bipush (v := 8) hx hb dX12_feed_90 (by decide) ?_
  refine lv_iload hx hb dX12_feed_92 (lv_at hl 1 rfl) ?_
  refine lv_iconst (v := 4) hx hb dX12_feed_94 (by decide) ?_
  refine lv_irem hx hb dX12_feed_95 (by decide) ?_
  refine lv_topi (fun z_16 ez_16 => ?_)
  obtain rfl : z_16 = 2 := ez_16.trans (by decide)
  refine lv_imul hx hb dX12_feed_96 ?_
  refine lv_topi (fun z_17 ez_17 => ?_)
  obtain rfl : z_17 = 16 := ez_17.trans (by decide)
  refine lv_isub hx hb dX12_feed_97 ?_
  refine lv_topi (fun z_18 ez_18 => ?_)
  obtain rfl : z_18 = 8 := ez_18.trans (by decide)
  refine lv_ishr hx hb dX12_feed_98 ?_
  refine lv_topi (fun x_19 ex_19 => ?_)
  refine lv_sipush (v := 255) hx hb dX12_feed_99 (by decide) ?_
  refine lv_iand hx hb dX12_feed_102 ?_
  refine lv_topi (fun x_20 ex_20 => ?_)
  refine va_iast hx hb hK hP hD hS 1 0 rfl rfl (by unfold vp_in; decide) dX12_feed_103 (fun H locs hP hD hS => ?_)
  generalize upd f_14 (Int32.toNatClampNeg 2) x_20 = f_21 at hP hD
  have hP : va_P D vwCl [(h0, .inr (12, (((fs.set 0 (.int 0)).set 12 (.int 1)).set 12 (.int 2)))), (m_tape, .inl (cT 0, 400, .inl f_21))] _ := hP
  have hD : va_D A [(h0, .inr (12, (((fs.set 0 (.int 0)).set 12 (.int 1)).set 12 (.int 2)))), (m_tape, .inl (cT 0, 400, .inl f_21))] := hD
  refine lv_aload_n hx hb dX12_feed_104 rfl (lv_at hl 2 rfl) ?_
  refine lv_dup hx hb dX12_feed_105 rfl ?_
  refine va_get (D := D) (ci := 12) (v := .int 2) (C := RX12) (T := TX12) (N := 109) hx hb hts (fun _ h => List.mem_cons_of_mem _ (List.mem_append_right _ h)) hown hK hP 0 rfl rfl 12 (by decide) (hts (.fieldLink RX12 279 "PuppetFilmModel" "taped" "I") (List.mem_of_getElem? (i := 2) (by decide +kernel))) (fun _ h9 => h9) (List.getElem?_set_self (by simp only [List.length_set, hfs]; decide)) dX12_feed_106 ?_
  refine lv_iconst (v := 1) hx hb dX12_feed_109 (by decide) ?_
  refine lv_iadd hx hb dX12_feed_110 ?_
  refine lv_topi (fun z_22 ez_22 => ?_)
  obtain rfl : z_22 = 3 := ez_22.trans (by decide)
  refine va_put (D := D) (ci := 12) (v := .int 3) (ty := .int) (C := RX12) (T := TX12) (N := 109) hx hb hts (fun _ h => List.mem_cons_of_mem _ (List.mem_append_right _ h)) tyX12 tyX12_ok nmX12 hown hK hP hD hS 0 rfl rfl 12 (by decide) (hts (.fieldLink RX12 279 "PuppetFilmModel" "taped" "I") (List.mem_of_getElem? (i := 2) (by decide +kernel))) (fun _ h9 => h9) rfl (by decide +kernel) rfl rfl (by simp only [List.length_set, hfs]; decide) dX12_feed_111 (fun H locs hP hD hS => ?_)
  have hP : va_P D vwCl [(h0, .inr (12, ((((fs.set 0 (.int 0)).set 12 (.int 1)).set 12 (.int 2)).set 12 (.int 3)))), (m_tape, .inl (cT 0, 400, .inl f_21))] _ := hP
  have hD : va_D A [(h0, .inr (12, ((((fs.set 0 (.int 0)).set 12 (.int 1)).set 12 (.int 2)).set 12 (.int 3)))), (m_tape, .inl (cT 0, 400, .inl f_21))] := hD
  refine lv_iinc (v := 3) (lv' := [(6, .int 3), (7, .int p0), (0, .ref h0), (1, .int p0), (2, .int p1), (3, .int p2), (4, .int p3), (5, .int p4)]) hx hb dX12_feed_114 hl (k := 1) rfl (by decide) (by decide) rfl (fun ls hl => ?_)
  refine lv_goto (tgt := 23) hx hb dX12_feed_117 (by decide) ?_
  refine lv_iload hx hb dX12_feed_23 (lv_at hl 0 rfl) ?_
  refine lv_bipush (v := 20) hx hb dX12_feed_25 (by decide) ?_
  refine lv_icmp_ge (tgt := 120) hx hb dX12_feed_27 (by decide) (fun c9 => absurd c9 (by decide)) (fun _ => ?_)
  refine lv_iload hx hb dX12_feed_30 (lv_at hl 0 rfl) ?_
  refine lv_iconst (v := 4) hx hb dX12_feed_32 (by decide) ?_
  refine lv_icmp_ge (tgt := 40) hx hb dX12_feed_33 (by decide) (fun c9 => absurd c9 (by decide)) (fun _ => ?_)
  refine lv_iload_n hx hb dX12_feed_36 rfl (lv_at hl 3 rfl) ?_
  refine lv_goto (tgt := 76) hx hb dX12_feed_37 (by decide) ?_
  refine lv_istore (lv' := [(7, .int p0), (6, .int 3), (0, .ref h0), (1, .int p0), (2, .int p1), (3, .int p2), (4, .int p3), (5, .int p4)]) hx hb dX12_feed_76 hl (by decide) rfl (fun ls hl => ?_)
  refine lv_aload_n hx hb dX12_feed_78 rfl (lv_at hl 2 rfl) ?_
  refine va_get (D := D) (ci := 12) (v := .ref m_tape) (C := RX12) (T := TX12) (N := 109) hx hb hts (fun _ h => List.mem_cons_of_mem _ (List.mem_append_right _ h)) hown hK hP 0 rfl rfl 21 (by decide) (hts (.fieldLink RX12 47 "PuppetFilmModel" "tape" "[I") (List.mem_of_getElem? (i := 3) (by decide +kernel))) (fun _ h9 => h9) ((List.getElem?_set_ne (by decide)).trans ((List.getElem?_set_ne (by decide)).trans ((List.getElem?_set_ne (by decide)).trans ((List.getElem?_set_ne (by decide)).trans (hfs_21))))) dX12_feed_79 ?_
  refine lv_aload_n hx hb dX12_feed_82 rfl (lv_at hl 2 rfl) ?_
  refine va_get (D := D) (ci := 12) (v := .int 3) (C := RX12) (T := TX12) (N := 109) hx hb hts (fun _ h => List.mem_cons_of_mem _ (List.mem_append_right _ h)) hown hK hP 0 rfl rfl 12 (by decide) (hts (.fieldLink RX12 279 "PuppetFilmModel" "taped" "I") (List.mem_of_getElem? (i := 2) (by decide +kernel))) (fun _ h9 => h9) (List.getElem?_set_self (by simp only [List.length_set, hfs]; decide)) dX12_feed_83 ?_
  refine lv_iload hx hb dX12_feed_86 (lv_at hl 0 rfl) ?_
  refine lv_bipush (v := 24) hx hb dX12_feed_88 (by decide) ?_
  refine lv_bipush (v := 8) hx hb dX12_feed_90 (by decide) ?_
  refine lv_iload hx hb dX12_feed_92 (lv_at hl 1 rfl) ?_
  refine lv_iconst (v := 4) hx hb dX12_feed_94 (by decide) ?_
  refine lv_irem hx hb dX12_feed_95 (by decide) ?_
  refine lv_topi (fun z_23 ez_23 => ?_)
  obtain rfl : z_23 = 3 := ez_23.trans (by decide)
  refine lv_imul hx hb dX12_feed_96 ?_
  refine lv_topi (fun z_24 ez_24 => ?_)
  obtain rfl : z_24 = 24 := ez_24.trans (by decide)
  refine lv_isub hx hb dX12_feed_97 ?_
  refine lv_topi (fun z_25 ez_25 => ?_)
  obtain rfl : z_25 = 0 := ez_25.trans (by decide)
  refine lv_ishr hx hb dX12_feed_98 ?_
  refine lv_topi (fun x_26 ex_26 => ?_)
  refine lv_sipush (v := 255) hx hb dX12_feed_99 (by decide) ?_
  refine lv_iand hx hb dX12_feed_102 ?_
  refine lv_topi (fun x_27 ex_27 => ?_)
  refine va_iast hx hb hK hP hD hS 1 0 rfl rfl (by unfold vp_in; decide) dX12_feed_103 (fun H locs hP hD hS => ?_)
  generalize upd f_21 (Int32.toNatClampNeg 3) x_27 = f_28 at hP hD
  have hP : va_P D vwCl [(h0, .inr (12, ((((fs.set 0 (.int 0)).set 12 (.int 1)).set 12 (.int 2)).set 12 (.int 3)))), (m_tape, .inl (cT 0, 400, .inl f_28))] _ := hP
  have hD : va_D A [(h0, .inr (12, ((((fs.set 0 (.int 0)).set 12 (.int 1)).set 12 (.int 2)).set 12 (.int 3)))), (m_tape, .inl (cT 0, 400, .inl f_28))] := hD
  refine lv_aload_n hx hb dX12_feed_104 rfl (lv_at hl 2 rfl) ?_
  refine lv_dup hx hb dX12_feed_105 rfl ?_
  refine va_get (D := D) (ci := 12) (v := .int 3) (C := RX12) (T := TX12) (N := 109) hx hb hts (fun _ h => List.mem_cons_of_mem _ (List.mem_append_right _ h)) hown hK hP 0 rfl rfl 12 (by decide) (hts (.fieldLink RX12 279 "PuppetFilmModel" "taped" "I") (List.mem_of_getElem? (i := 2) (by decide +kernel))) (fun _ h9 => h9) (List.getElem?_set_self (by simp only [List.length_set, hfs]; decide)) dX12_feed_106 ?_
  refine lv_iconst (v := 1) hx hb dX12_feed_109 (by decide) ?_
  refine lv_iadd hx hb dX12_feed_110 ?_
  refine lv_topi (fun z_29 ez_29 => ?_)
  obtain rfl : z_29 = 4 := ez_29.trans (by decide)
  refine va_put (D := D) (ci := 12) (v := .int 4) (ty := .int) (C := RX12) (T := TX12) (N := 109) hx hb hts (fun _ h => List.mem_cons_of_mem _ (List.mem_append_right _ h)) tyX12 tyX12_ok nmX12 hown hK hP hD hS 0 rfl rfl 12 (by decide) (hts (.fieldLink RX12 279 "PuppetFilmModel" "taped" "I") (List.mem_of_getElem? (i := 2) (by decide +kernel))) (fun _ h9 => h9) rfl (by decide +kernel) rfl rfl (by simp only [List.length_set, hfs]; decide) dX12_feed_111 (fun H locs hP hD hS => ?_)
  have hP : va_P D vwCl [(h0, .inr (12, (((((fs.set 0 (.int 0)).set 12 (.int 1)).set 12 (.int 2)).set 12 (.int 3)).set 12 (.int 4)))), (m_tape, .inl (cT 0, 400, .inl f_28))] _ := hP
  have hD : va_D A [(h0, .inr (12, (((((fs.set 0 (.int 0)).set 12 (.int 1)).set 12 (.int 2)).set 12 (.int 3)).set 12 (.int 4)))), (m_tape, .inl (cT 0, 400, .inl f_28))] := hD
  refine lv_iinc (v := 4) (lv' := [(6, .int 4), (7, .int p0), (0, .ref h0), (1, .int p0), (2, .int p1), (3, .int p2), (4, .int p3), (5, .int p4)]) hx hb dX12_feed_114 hl (k := 1) rfl (by decide) (by decide) rfl (fun ls hl => ?_)
  refine lv_goto (tgt := 23) hx hb dX12_feed_117 (by decide) ?_
  refine lv_iload hx hb dX12_feed_23 (lv_at hl 0 rfl) ?_
  refine lv_bipush (v := 20) hx hb dX12_feed_25 (by decide) ?_
  refine lv_icmp_ge (tgt := 120) hx hb dX12_feed_27 (by decide) (fun c9 => absurd c9 (by decide)) (fun _ => ?_)
  refine lv_iload hx hb dX12_feed_30 (lv_at hl 0 rfl) ?_
  refine lv_iconst (v := 4) hx hb dX12_feed_32 (by decide) ?_
  refine lv_icmp_ge (tgt := 40) hx hb dX12_feed_33 (by decide) (fun _ => ?_) (fun c9 => absurd c9 (by decide))
  refine lv_iload hx hb dX12_feed_40 (lv_at hl 0 rfl) ?_
  refine lv_bipush (v := 8) hx hb dX12_feed_42 (by decide) ?_
  refine lv_icmp_ge (tgt := 51) hx hb dX12_feed_44 (by decide) (fun c9 => absurd c9 (by decide)) (fun _ => ?_)
  refine lv_iload_n hx hb dX12_feed_47 rfl (lv_at hl 4 rfl) ?_
  refine lv_goto (tgt := 76) hx hb dX12_feed_48 (by decide) ?_
  refine lv_istore (lv' := [(7, .int p1), (6, .int 4), (0, .ref h0), (1, .int p0), (2, .int p1), (3, .int p2), (4, .int p3), (5, .int p4)]) hx hb dX12_feed_76 hl (by decide) rfl (fun ls hl => ?_)
  refine lv_aload_n hx hb dX12_feed_78 rfl (lv_at hl 2 rfl) ?_
  refine va_get (D := D) (ci := 12) (v := .ref m_tape) (C := RX12) (T := TX12) (N := 109) hx hb hts (fun _ h => List.mem_cons_of_mem _ (List.mem_append_right _ h)) hown hK hP 0 rfl rfl 21 (by decide) (hts (.fieldLink RX12 47 "PuppetFilmModel" "tape" "[I") (List.mem_of_getElem? (i := 3) (by decide +kernel))) (fun _ h9 => h9) ((List.getElem?_set_ne (by decide)).trans ((List.getElem?_set_ne (by decide)).trans ((List.getElem?_set_ne (by decide)).trans ((List.getElem?_set_ne (by decide)).trans ((List.getElem?_set_ne (by decide)).trans (hfs_21)))))) dX12_feed_79 ?_
  refine lv_aload_n hx hb dX12_feed_82 rfl (lv_at hl 2 rfl) ?_
  refine va_get (D := D) (ci := 12) (v := .int 4) (C := RX12) (T := TX12) (N := 109) hx hb hts (fun _ h => List.mem_cons_of_mem _ (List.mem_append_right _ h)) hown hK hP 0 rfl rfl 12 (by decide) (hts (.fieldLink RX12 279 "PuppetFilmModel" "taped" "I") (List.mem_of_getElem? (i := 2) (by decide +kernel))) (fun _ h9 => h9) (List.getElem?_set_self (by simp only [List.length_set, hfs]; decide)) dX12_feed_83 ?_
  refine lv_iload hx hb dX12_feed_86 (lv_at hl 0 rfl) ?_
  refine lv_bipush (v := 24) hx hb dX12_feed_88 (by decide) ?_
  refine lv_bipush (v := 8) hx hb dX12_feed_90 (by decide) ?_
  refine lv_iload hx hb dX12_feed_92 (lv_at hl 1 rfl) ?_
  refine lv_iconst (v := 4) hx hb dX12_feed_94 (by decide) ?_
  refine lv_irem hx hb dX12_feed_95 (by decide) ?_
  refine lv_topi (fun z_30 ez_30 => ?_)
  obtain rfl : z_30 = 0 := ez_30.trans (by decide)
  refine lv_imul hx hb dX12_feed_96 ?_
  refine lv_topi (fun z_31 ez_31 => ?_)
  obtain rfl : z_31 = 0 := ez_31.trans (by decide)
  refine lv_isub hx hb dX12_feed_97 ?_
  refine lv_topi (fun z_32 ez_32 => ?_)
  obtain rfl : z_32 = 24 := ez_32.trans (by decide)
  refine lv_ishr hx hb dX12_feed_98 ?_
  refine lv_topi (fun x_33 ex_33 => ?_)
  refine lv_sipush (v := 255) hx hb dX12_feed_99 (by decide) ?_
  refine lv_iand hx hb dX12_feed_102 ?_
  refine lv_topi (fun x_34 ex_34 => ?_)
  refine va_iast hx hb hK hP hD hS 1 0 rfl rfl (by unfold vp_in; decide) dX12_feed_103 (fun H locs hP hD hS => ?_)
  generalize upd f_28 (Int32.toNatClampNeg 4) x_34 = f_35 at hP hD
  have hP : va_P D vwCl [(h0, .inr (12, (((((fs.set 0 (.int 0)).set 12 (.int 1)).set 12 (.int 2)).set 12 (.int 3)).set 12 (.int 4)))), (m_tape, .inl (cT 0, 400, .inl f_35))] _ := hP
  have hD : va_D A [(h0, .inr (12, (((((fs.set 0 (.int 0)).set 12 (.int 1)).set 12 (.int 2)).set 12 (.int 3)).set 12 (.int 4)))), (m_tape, .inl (cT 0, 400, .inl f_35))] := hD
  refine lv_aload_n hx hb dX12_feed_104 rfl (lv_at hl 2 rfl) ?_
  refine lv_dup hx hb dX12_feed_105 rfl ?_
  refine va_get (D := D) (ci := 12) (v := .int 4) (C := RX12) (T := TX12) (N := 109) hx hb hts (fun _ h => List.mem_cons_of_mem _ (List.mem_append_right _ h)) hown hK hP 0 rfl rfl 12 (by decide) (hts (.fieldLink RX12 279 "PuppetFilmModel" "taped" "I") (List.mem_of_getElem? (i := 2) (by decide +kernel))) (fun _ h9 => h9) (List.getElem?_set_self (by simp only [List.length_set, hfs]; decide)) dX12_feed_106 ?_
  refine lv_iconst (v := 1) hx hb dX12_feed_109 (by decide) ?_
  refine lv_iadd hx hb dX12_feed_110 ?_
  refine lv_topi (fun z_36 ez_36 => ?_)
  obtain rfl : z_36 = 5 := ez_36.trans (by decide)
  refine va_put (D := D) (ci := 12) (v := .int 5) (ty := .int) (C := RX12) (T := TX12) (N := 109) hx hb hts (fun _ h => List.mem_cons_of_mem _ (List.mem_append_right _ h)) tyX12 tyX12_ok nmX12 hown hK hP hD hS 0 rfl rfl 12 (by decide) (hts (.fieldLink RX12 279 "PuppetFilmModel" "taped" "I") (List.mem_of_getElem? (i := 2) (by decide +kernel))) (fun _ h9 => h9) rfl (by decide +kernel) rfl rfl (by simp only [List.length_set, hfs]; decide) dX12_feed_111 (fun H locs hP hD hS => ?_)
  have hP : va_P D vwCl [(h0, .inr (12, ((((((fs.set 0 (.int 0)).set 12 (.int 1)).set 12 (.int 2)).set 12 (.int 3)).set 12 (.int 4)).set 12 (.int 5)))), (m_tape, .inl (cT 0, 400, .inl f_35))] _ := hP
  have hD : va_D A [(h0, .inr (12, ((((((fs.set 0 (.int 0)).set 12 (.int 1)).set 12 (.int 2)).set 12 (.int 3)).set 12 (.int 4)).set 12 (.int 5)))), (m_tape, .inl (cT 0, 400, .inl f_35))] := hD
  refine lv_iinc (v := 5) (lv' := [(6, .int 5), (7, .int p1), (0, .ref h0), (1, .int p0), (2, .int p1), (3, .int p2), (4, .int p3), (5, .int p4)]) hx hb dX12_feed_114 hl (k := 1) rfl (by decide) (by decide) rfl (fun ls hl => ?_)
  refine lv_goto (tgt := 23) hx hb dX12_feed_117 (by decide) ?_
  refine lv_iload hx hb dX12_feed_23 (lv_at hl 0 rfl) ?_
  refine lv_bipush (v := 20) hx hb dX12_feed_25 (by decide) ?_
  refine lv_icmp_ge (tgt := 120) hx hb dX12_feed_27 (by decide) (fun c9 => absurd c9 (by decide)) (fun _ => ?_)
  refine lv_iload hx hb dX12_feed_30 (lv_at hl 0 rfl) ?_
  refine lv_iconst (v := 4) hx hb dX12_feed_32 (by decide) ?_
  refine lv_icmp_ge (tgt := 40) hx hb dX12_feed_33 (by decide) (fun _ => ?_) (fun c9 => absurd c9 (by decide))
  refine lv_iload hx hb dX12_feed_40 (lv_at hl 0 rfl) ?_
  refine lv_bipush (v := 8) hx hb dX12_feed_42 (by decide) ?_
  refine lv_icmp_ge (tgt := 51) hx hb dX12_feed_44 (by decide) (fun c9 => absurd c9 (by decide)) (fun _ => ?_)
  refine lv_iload_n hx hb dX12_feed_47 rfl (lv_at hl 4 rfl) ?_
  refine lv_goto (tgt := 76) hx hb dX12_feed_48 (by decide) ?_
  refine lv_istore (lv' := [(7, .int p1), (6, .int 5), (0, .ref h0), (1, .int p0), (2, .int p1), (3, .int p2), (4, .int p3), (5, .int p4)]) hx hb dX12_feed_76 hl (by decide) rfl (fun ls hl => ?_)
  refine lv_aload_n hx hb dX12_feed_78 rfl (lv_at hl 2 rfl) ?_
  refine va_get (D := D) (ci := 12) (v := .ref m_tape) (C := RX12) (T := TX12) (N := 109) hx hb hts (fun _ h => List.mem_cons_of_mem _ (List.mem_append_right _ h)) hown hK hP 0 rfl rfl 21 (by decide) (hts (.fieldLink RX12 47 "PuppetFilmModel" "tape" "[I") (List.mem_of_getElem? (i := 3) (by decide +kernel))) (fun _ h9 => h9) ((List.getElem?_set_ne (by decide)).trans ((List.getElem?_set_ne (by decide)).trans ((List.getElem?_set_ne (by decide)).trans ((List.getElem?_set_ne (by decide)).trans ((List.getElem?_set_ne (by decide)).trans ((List.getElem?_set_ne (by decide)).trans (hfs_21))))))) dX12_feed_79 ?_
  refine lv_aload_n hx hb dX12_feed_82 rfl (lv_at hl 2 rfl) ?_
  refine va_get (D := D) (ci := 12) (v := .int 5) (C := RX12) (T := TX12) (N := 109) hx hb hts (fun _ h => List.mem_cons_of_mem _ (List.mem_append_right _ h)) hown hK hP 0 rfl rfl 12 (by decide) (hts (.fieldLink RX12 279 "PuppetFilmModel" "taped" "I") (List.mem_of_getElem? (i := 2) (by decide +kernel))) (fun _ h9 => h9) (List.getElem?_set_self (by simp only [List.length_set, hfs]; decide)) dX12_feed_83 ?_
  refine lv_iload hx hb dX12_feed_86 (lv_at hl 0 rfl) ?_
  refine lv_bipush (v := 24) hx hb dX12_feed_88 (by decide) ?_
  refine lv_bipush (v := 8) hx hb dX12_feed_90 (by decide) ?_
  refine lv_iload hx hb dX12_feed_92 (lv_at hl 1 rfl) ?_
  refine lv_iconst (v := 4) hx hb dX12_feed_94 (by decide) ?_
  refine lv_irem hx hb dX12_feed_95 (by decide) ?_
  refine lv_topi (fun z_37 ez_37 => ?_)
  obtain rfl : z_37 = 1 := ez_37.trans (by decide)
  refine lv_imul hx hb dX12_feed_96 ?_
  refine lv_topi (fun z_38 ez_38 => ?_)
  obtain rfl : z_38 = 8 := ez_38.trans (by decide)
  refine lv_isub hx hb dX12_feed_97 ?_
  refine lv_topi (fun z_39 ez_39 => ?_)
  obtain rfl : z_39 = 16 := ez_39.trans (by decide)
  refine lv_ishr hx hb dX12_feed_98 ?_
  refine lv_topi (fun x_40 ex_40 => ?_)
  refine lv_sipush (v := 255) hx hb dX12_feed_99 (by decide) ?_
  refine lv_iand hx hb dX12_feed_102 ?_
  refine lv_topi (fun x_41 ex_41 => ?_)
  refine va_iast hx hb hK hP hD hS 1 0 rfl rfl (by unfold vp_in; decide) dX12_feed_103 (fun H locs hP hD hS => ?_)
  generalize upd f_35 (Int32.toNatClampNeg 5) x_41 = f_42 at hP hD
  have hP : va_P D vwCl [(h0, .inr (12, ((((((fs.set 0 (.int 0)).set 12 (.int 1)).set 12 (.int 2)).set 12 (.int 3)).set 12 (.int 4)).set 12 (.int 5)))), (m_tape, .inl (cT 0, 400, .inl f_42))] _ := hP
  have hD : va_D A [(h0, .inr (12, ((((((fs.set 0 (.int 0)).set 12 (.int 1)).set 12 (.int 2)).set 12 (.int 3)).set 12 (.int 4)).set 12 (.int 5)))), (m_tape, .inl (cT 0, 400, .inl f_42))] := hD
  refine lv_aload_n hx hb dX12_feed_104 rfl (lv_at hl 2 rfl) ?_
  refine lv_dup hx hb dX12_feed_105 rfl ?_
  refine va_get (D := D) (ci := 12) (v := .int 5) (C := RX12) (T := TX12) (N := 109) hx hb hts (fun _ h => List.mem_cons_of_mem _ (List.mem_append_right _ h)) hown hK hP 0 rfl rfl 12 (by decide) (hts (.fieldLink RX12 279 "PuppetFilmModel" "taped" "I") (List.mem_of_getElem? (i := 2) (by decide +kernel))) (fun _ h9 => h9) (List.getElem?_set_self (by simp only [List.length_set, hfs]; decide)) dX12_feed_106 ?_
  refine lv_iconst (v := 1) hx hb dX12_feed_109 (by decide) ?_
  refine lv_iadd hx hb dX12_feed_110 ?_
  refine lv_topi (fun z_43 ez_43 => ?_)
  obtain rfl : z_43 = 6 := ez_43.trans (by decide)
  refine va_put (D := D) (ci := 12) (v := .int 6) (ty := .int) (C := RX12) (T := TX12) (N := 109) hx hb hts (fun _ h => List.mem_cons_of_mem _ (List.mem_append_right _ h)) tyX12 tyX12_ok nmX12 hown hK hP hD hS 0 rfl rfl 12 (by decide) (hts (.fieldLink RX12 279 "PuppetFilmModel" "taped" "I") (List.mem_of_getElem? (i := 2) (by decide +kernel))) (fun _ h9 => h9) rfl (by decide +kernel) rfl rfl (by simp only [List.length_set, hfs]; decide) dX12_feed_111 (fun H locs hP hD hS => ?_)
  have hP : va_P D vwCl [(h0, .inr (12, (((((((fs.set 0 (.int 0)).set 12 (.int 1)).set 12 (.int 2)).set 12 (.int 3)).set 12 (.int 4)).set 12 (.int 5)).set 12 (.int 6)))), (m_tape, .inl (cT 0, 400, .inl f_42))] _ := hP
  have hD : va_D A [(h0, .inr (12, (((((((fs.set 0 (.int 0)).set 12 (.int 1)).set 12 (.int 2)).set 12 (.int 3)).set 12 (.int 4)).set 12 (.int 5)).set 12 (.int 6)))), (m_tape, .inl (cT 0, 400, .inl f_42))] := hD
  refine lv_iinc (v := 6) (lv' := [(6, .int 6), (7, .int p1), (0, .ref h0), (1, .int p0), (2, .int p1), (3, .int p2), (4, .int p3), (5, .int p4)]) hx hb dX12_feed_114 hl (k := 1) rfl (by decide) (by decide) rfl (fun ls hl => ?_)
  refine lv_goto (tgt := 23) hx hb dX12_feed_117 (by decide) ?_
  refine lv_iload hx hb dX12_feed_23 (lv_at hl 0 rfl) ?_
  refine lv_bipush (v := 20) hx hb dX12_feed_25 (by decide) ?_
  refine lv_icmp_ge (tgt := 120) hx hb dX12_feed_27 (by decide) (fun c9 => absurd c9 (by decide)) (fun _ => ?_)
  refine lv_iload hx hb dX12_feed_30 (lv_at hl 0 rfl) ?_
  refine lv_iconst (v := 4) hx hb dX12_feed_32 (by decide) ?_
  refine lv_icmp_ge (tgt := 40) hx hb dX12_feed_33 (by decide) (fun _ => ?_) (fun c9 => absurd c9 (by decide))
  refine lv_iload hx hb dX12_feed_40 (lv_at hl 0 rfl) ?_
  refine lv_bipush (v := 8) hx hb dX12_feed_42 (by decide) ?_
  refine lv_icmp_ge (tgt := 51) hx hb dX12_feed_44 (by decide) (fun c9 => absurd c9 (by decide)) (fun _ => ?_)
  refine lv_iload_n hx hb dX12_feed_47 rfl (lv_at hl 4 rfl) ?_
  refine lv_goto (tgt := 76) hx hb dX12_feed_48 (by decide) ?_
  refine lv_istore (lv' := [(7, .int p1), (6, .int 6), (0, .ref h0), (1, .int p0), (2, .int p1), (3, .int p2), (4, .int p3), (5, .int p4)]) hx hb dX12_feed_76 hl (by decide) rfl (fun ls hl => ?_)
  refine lv_aload_n hx hb dX12_feed_78 rfl (lv_at hl 2 rfl) ?_
  refine va_get (D := D) (ci := 12) (v := .ref m_tape) (C := RX12) (T := TX12) (N := 109) hx hb hts (fun _ h => List.mem_cons_of_mem _ (List.mem_append_right _ h)) hown hK hP 0 rfl rfl 21 (by decide) (hts (.fieldLink RX12 47 "PuppetFilmModel" "tape" "[I") (List.mem_of_getElem? (i := 3) (by decide +kernel))) (fun _ h9 => h9) ((List.getElem?_set_ne (by decide)).trans ((List.getElem?_set_ne (by decide)).trans ((List.getElem?_set_ne (by decide)).trans ((List.getElem?_set_ne (by decide)).trans ((List.getElem?_set_ne (by decide)).trans ((List.getElem?_set_ne (by decide)).trans ((List.getElem?_set_ne (by decide)).trans (hfs_21)))))))) dX12_feed_79 ?_
  refine lv_aload_n hx hb dX12_feed_82 rfl (lv_at hl 2 rfl) ?_
  refine va_get (D := D) (ci := 12) (v := .int 6) (C := RX12) (T := TX12) (N := 109) hx hb hts (fun _ h => List.mem_cons_of_mem _ (List.mem_append_right _ h)) hown hK hP 0 rfl rfl 12 (by decide) (hts (.fieldLink RX12 279 "PuppetFilmModel" "taped" "I") (List.mem_of_getElem? (i := 2) (by decide +kernel))) (fun _ h9 => h9) (List.getElem?_set_self (by simp only [List.length_set, hfs]; decide)) dX12_feed_83 ?_
  refine lv_iload hx hb dX12_feed_86 (lv_at hl 0 rfl) ?_
  refine lv_bipush (v := 24) hx hb dX12_feed_88 (by decide) ?_
  refine lv_bipush (v := 8) hx hb dX12_feed_90 (by decide) ?_
  refine lv_iload hx hb dX12_feed_92 (lv_at hl 1 rfl) ?_
  refine lv_iconst (v := 4) hx hb dX12_feed_94 (by decide) ?_
  refine lv_irem hx hb dX12_feed_95 (by decide) ?_
  refine lv_topi (fun z_44 ez_44 => ?_)
  obtain rfl : z_44 = 2 := ez_44.trans (by decide)
  refine lv_imul hx hb dX12_feed_96 ?_
  refine lv_topi (fun z_45 ez_45 => ?_)
  obtain rfl : z_45 = 16 := ez_45.trans (by decide)
  refine lv_isub hx hb dX12_feed_97 ?_
  refine lv_topi (fun z_46 ez_46 => ?_)
  obtain rfl : z_46 = 8 := ez_46.trans (by decide)
  refine lv_ishr hx hb dX12_feed_98 ?_
  refine lv_topi (fun x_47 ex_47 => ?_)
  refine lv_sipush (v := 255) hx hb dX12_feed_99 (by decide) ?_
  refine lv_iand hx hb dX12_feed_102 ?_
  refine lv_topi (fun x_48 ex_48 => ?_)
  refine va_iast hx hb hK hP hD hS 1 0 rfl rfl (by unfold vp_in; decide) dX12_feed_103 (fun H locs hP hD hS => ?_)
  generalize upd f_42 (Int32.toNatClampNeg 6) x_48 = f_49 at hP hD
  have hP : va_P D vwCl [(h0, .inr (12, (((((((fs.set 0 (.int 0)).set 12 (.int 1)).set 12 (.int 2)).set 12 (.int 3)).set 12 (.int 4)).set 12 (.int 5)).set 12 (.int 6)))), (m_tape, .inl (cT 0, 400, .inl f_49))] _ := hP
  have hD : va_D A [(h0, .inr (12, (((((((fs.set 0 (.int 0)).set 12 (.int 1)).set 12 (.int 2)).set 12 (.int 3)).set 12 (.int 4)).set 12 (.int 5)).set 12 (.int 6)))), (m_tape, .inl (cT 0, 400, .inl f_49))] := hD
  refine lv_aload_n hx hb dX12_feed_104 rfl (lv_at hl 2 rfl) ?_
  refine lv_dup hx hb dX12_feed_105 rfl ?_
  refine va_get (D := D) (ci := 12) (v := .int 6) (C := RX12) (T := TX12) (N := 109) hx hb hts (fun _ h => List.mem_cons_of_mem _ (List.mem_append_right _ h)) hown hK hP 0 rfl rfl 12 (by decide) (hts (.fieldLink RX12 279 "PuppetFilmModel" "taped" "I") (List.mem_of_getElem? (i := 2) (by decide +kernel))) (fun _ h9 => h9) (List.getElem?_set_self (by simp only [List.length_set, hfs]; decide)) dX12_feed_106 ?_
  refine lv_iconst (v := 1) hx hb dX12_feed_109 (by decide) ?_
  refine lv_iadd hx hb dX12_feed_110 ?_
  refine lv_topi (fun z_50 ez_50 => ?_)
  obtain rfl : z_50 = 7 := ez_50.trans (by decide)
  refine va_put (D := D) (ci := 12) (v := .int 7) (ty := .int) (C := RX12) (T := TX12) (N := 109) hx hb hts (fun _ h => List.mem_cons_of_mem _ (List.mem_append_right _ h)) tyX12 tyX12_ok nmX12 hown hK hP hD hS 0 rfl rfl 12 (by decide) (hts (.fieldLink RX12 279 "PuppetFilmModel" "taped" "I") (List.mem_of_getElem? (i := 2) (by decide +kernel))) (fun _ h9 => h9) rfl (by decide +kernel) rfl rfl (by simp only [List.length_set, hfs]; decide) dX12_feed_111 (fun H locs hP hD hS => ?_)
  have hP : va_P D vwCl [(h0, .inr (12, ((((((((fs.set 0 (.int 0)).set 12 (.int 1)).set 12 (.int 2)).set 12 (.int 3)).set 12 (.int 4)).set 12 (.int 5)).set 12 (.int 6)).set 12 (.int 7)))), (m_tape, .inl (cT 0, 400, .inl f_49))] _ := hP
  have hD : va_D A [(h0, .inr (12, ((((((((fs.set 0 (.int 0)).set 12 (.int 1)).set 12 (.int 2)).set 12 (.int 3)).set 12 (.int 4)).set 12 (.int 5)).set 12 (.int 6)).set 12 (.int 7)))), (m_tape, .inl (cT 0, 400, .inl f_49))] := hD
  refine lv_iinc (v := 7) (lv' := [(6, .int 7), (7, .int p1), (0, .ref h0), (1, .int p0), (2, .int p1), (3, .int p2), (4, .int p3), (5, .int p4)]) hx hb dX12_feed_114 hl (k := 1) rfl (by decide) (by decide) rfl (fun ls hl => ?_)
  refine lv_goto (tgt := 23) hx hb dX12_feed_117 (by decide) ?_
  refine lv_iload hx hb dX12_feed_23 (lv_at hl 0 rfl) ?_
  refine lv_bipush (v := 20) hx hb dX12_feed_25 (by decide) ?_
  refine lv_icmp_ge (tgt := 120) hx hb dX12_feed_27 (by decide) (fun c9 => absurd c9 (by decide)) (fun _ => ?_)
  refine lv_iload hx hb dX12_feed_30 (lv_at hl 0 rfl) ?_
  refine lv_iconst (v := 4) hx hb dX12_feed_32 (by decide) ?_
  refine lv_icmp_ge (tgt := 40) hx hb dX12_feed_33 (by decide) (fun _ => ?_) (fun c9 => absurd c9 (by decide))
  refine lv_iload hx hb dX12_feed_40 (lv_at hl 0 rfl) ?_
  refine lv_bipush (v := 8) hx hb dX12_feed_42 (by decide) ?_
  refine lv_icmp_ge (tgt := 51) hx hb dX12_feed_44 (by decide) (fun c9 => absurd c9 (by decide)) (fun _ => ?_)
  refine lv_iload_n hx hb dX12_feed_47 rfl (lv_at hl 4 rfl) ?_
  refine lv_goto (tgt := 76) hx hb dX12_feed_48 (by decide) ?_
  refine lv_istore (lv' := [(7, .int p1), (6, .int 7), (0, .ref h0), (1, .int p0), (2, .int p1), (3, .int p2), (4, .int p3), (5, .int p4)]) hx hb dX12_feed_76 hl (by decide) rfl (fun ls hl => ?_)
  refine lv_aload_n hx hb dX12_feed_78 rfl (lv_at hl 2 rfl) ?_
  refine va_get (D := D) (ci := 12) (v := .ref m_tape) (C := RX12) (T := TX12) (N := 109) hx hb hts (fun _ h => List.mem_cons_of_mem _ (List.mem_append_right _ h)) hown hK hP 0 rfl rfl 21 (by decide) (hts (.fieldLink RX12 47 "PuppetFilmModel" "tape" "[I") (List.mem_of_getElem? (i := 3) (by decide +kernel))) (fun _ h9 => h9) ((List.getElem?_set_ne (by decide)).trans ((List.getElem?_set_ne (by decide)).trans ((List.getElem?_set_ne (by decide)).trans ((List.getElem?_set_ne (by decide)).trans ((List.getElem?_set_ne (by decide)).trans ((List.getElem?_set_ne (by decide)).trans ((List.getElem?_set_ne (by decide)).trans ((List.getElem?_set_ne (by decide)).trans (hfs_21))))))))) dX12_feed_79 ?_
  refine lv_aload_n hx hb dX12_feed_82 rfl (lv_at hl 2 rfl) ?_
  refine va_get (D := D) (ci := 12) (v := .int 7) (C := RX12) (T := TX12) (N := 109) hx hb hts (fun _ h => List.mem_cons_of_mem _ (List.mem_append_right _ h)) hown hK hP 0 rfl rfl 12 (by decide) (hts (.fieldLink RX12 279 "PuppetFilmModel" "taped" "I") (List.mem_of_getElem? (i := 2) (by decide +kernel))) (fun _ h9 => h9) (List.getElem?_set_self (by simp only [List.length_set, hfs]; decide)) dX12_feed_83 ?_
  refine lv_iload hx hb dX12_feed_86 (lv_at hl 0 rfl) ?_
  refine lv_bipush (v := 24) hx hb dX12_feed_88 (by decide) ?_
  refine lv_bipush (v := 8) hx hb dX12_feed_90 (by decide) ?_
  refine lv_iload hx hb dX12_feed_92 (lv_at hl 1 rfl) ?_
  refine lv_iconst (v := 4) hx hb dX12_feed_94 (by decide) ?_
  refine lv_irem hx hb dX12_feed_95 (by decide) ?_
  refine lv_topi (fun z_51 ez_51 => ?_)
  obtain rfl : z_51 = 3 := ez_51.trans (by decide)
  refine lv_imul hx hb dX12_feed_96 ?_
  refine lv_topi (fun z_52 ez_52 => ?_)
  obtain rfl : z_52 = 24 := ez_52.trans (by decide)
  refine lv_isub hx hb dX12_feed_97 ?_
  refine lv_topi (fun z_53 ez_53 => ?_)
  obtain rfl : z_53 = 0 := ez_53.trans (by decide)
  refine lv_ishr hx hb dX12_feed_98 ?_
  refine lv_topi (fun x_54 ex_54 => ?_)
  refine lv_sipush (v := 255) hx hb dX12_feed_99 (by decide) ?_
  refine lv_iand hx hb dX12_feed_102 ?_
  refine lv_topi (fun x_55 ex_55 => ?_)
  refine va_iast hx hb hK hP hD hS 1 0 rfl rfl (by unfold vp_in; decide) dX12_feed_103 (fun H locs hP hD hS => ?_)
  generalize upd f_49 (Int32.toNatClampNeg 7) x_55 = f_56 at hP hD
  have hP : va_P D vwCl [(h0, .inr (12, ((((((((fs.set 0 (.int 0)).set 12 (.int 1)).set 12 (.int 2)).set 12 (.int 3)).set 12 (.int 4)).set 12 (.int 5)).set 12 (.int 6)).set 12 (.int 7)))), (m_tape, .inl (cT 0, 400, .inl f_56))] _ := hP
  have hD : va_D A [(h0, .inr (12, ((((((((fs.set 0 (.int 0)).set 12 (.int 1)).set 12 (.int 2)).set 12 (.int 3)).set 12 (.int 4)).set 12 (.int 5)).set 12 (.int 6)).set 12 (.int 7)))), (m_tape, .inl (cT 0, 400, .inl f_56))] := hD
  refine lv_aload_n hx hb dX12_feed_104 rfl (lv_at hl 2 rfl) ?_
  refine lv_dup hx hb dX12_feed_105 rfl ?_
  refine va_get (D := D) (ci := 12) (v := .int 7) (C := RX12) (T := TX12) (N := 109) hx hb hts (fun _ h => List.mem_cons_of_mem _ (List.mem_append_right _ h)) hown hK hP 0 rfl rfl 12 (by decide) (hts (.fieldLink RX12 279 "PuppetFilmModel" "taped" "I") (List.mem_of_getElem? (i := 2) (by decide +kernel))) (fun _ h9 => h9) (List.getElem?_set_self (by simp only [List.length_set, hfs]; decide)) dX12_feed_106 ?_
  refine lv_iconst (v := 1) hx hb dX12_feed_109 (by decide) ?_
  refine lv_iadd hx hb dX12_feed_110 ?_
  refine lv_topi (fun z_57 ez_57 => ?_)
  obtain rfl : z_57 = 8 := ez_57.trans (by decide)
  refine va_put (D := D) (ci := 12) (v := .int 8) (ty := .int) (C := RX12) (T := TX12) (N := 109) hx hb hts (fun _ h => List.mem_cons_of_mem _ (List.mem_append_right _ h)) tyX12 tyX12_ok nmX12 hown hK hP hD hS 0 rfl rfl 12 (by decide) (hts (.fieldLink RX12 279 "PuppetFilmModel" "taped" "I") (List.mem_of_getElem? (i := 2) (by decide +kernel))) (fun _ h9 => h9) rfl (by decide +kernel) rfl rfl (by simp only [List.length_set, hfs]; decide) dX12_feed_111 (fun H locs hP hD hS => ?_)
  have hP : va_P D vwCl [(h0, .inr (12, (((((((((fs.set 0 (.int 0)).set 12 (.int 1)).set 12 (.int 2)).set 12 (.int 3)).set 12 (.int 4)).set 12 (.int 5)).set 12 (.int 6)).set 12 (.int 7)).set 12 (.int 8)))), (m_tape, .inl (cT 0, 400, .inl f_56))] _ := hP
  have hD : va_D A [(h0, .inr (12, (((((((((fs.set 0 (.int 0)).set 12 (.int 1)).set 12 (.int 2)).set 12 (.int 3)).set 12 (.int 4)).set 12 (.int 5)).set 12 (.int 6)).set 12 (.int 7)).set 12 (.int 8)))), (m_tape, .inl (cT 0, 400, .inl f_56))] := hD
  refine lv_iinc (v := 8) (lv' := [(6, .int 8), (7, .int p1), (0, .ref h0), (1, .int p0), (2, .int p1), (3, .int p2), (4, .int p3), (5, .int p4)]) hx hb dX12_feed_114 hl (k := 1) rfl (by decide) (by decide) rfl (fun ls hl => ?_)
  refine lv_goto (tgt := 23) hx hb dX12_feed_117 (by decide) ?_
  refine lv_iload hx hb dX12_feed_23 (lv_at hl 0 rfl) ?_
  refine lv_bipush (v := 20) hx hb dX12_feed_25 (by decide) ?_
  refine lv_icmp_ge (tgt := 120) hx hb dX12_feed_27 (by decide) (fun c9 => absurd c9 (by decide)) (fun _ => ?_)
  refine lv_iload hx hb dX12_feed_30 (lv_at hl 0 rfl) ?_
  refine lv_iconst (v := 4) hx hb dX12_feed_32 (by decide) ?_
  refine lv_icmp_ge (tgt := 40) hx hb dX12_feed_33 (by decide) (fun _ => ?_) (fun c9 => absurd c9 (by decide))
  refine lv_iload hx hb dX12_feed_40 (lv_at hl 0 rfl) ?_
  refine lv_bipush (v := 8) hx hb dX12_feed_42 (by decide) ?_
  refine lv_icmp_ge (tgt := 51) hx hb dX12_feed_44 (by decide) (fun _ => ?_) (fun c9 => absurd c9 (by decide))
  refine lv_iload hx hb dX12_feed_51 (lv_at hl 0 rfl) ?_
  refine lv_bipush (v := 12) hx hb dX12_feed_53 (by decide) ?_
  refine lv_icmp_ge (tgt := 62) hx hb dX12_feed_55 (by decide) (fun c9 => absurd c9 (by decide)) (fun _ => ?_)
  refine lv_iload_n hx hb dX12_feed_58 rfl (lv_at hl 5 rfl) ?_
  refine lv_goto (tgt := 76) hx hb dX12_feed_59 (by decide) ?_
  refine lv_istore (lv' := [(7, .int p2), (6, .int 8), (0, .ref h0), (1, .int p0), (2, .int p1), (3, .int p2), (4, .int p3), (5, .int p4)]) hx hb dX12_feed_76 hl (by decide) rfl (fun ls hl => ?_)
  refine lv_aload_n hx hb dX12_feed_78 rfl (lv_at hl 2 rfl) ?_
  refine va_get (D := D) (ci := 12) (v := .ref m_tape) (C := RX12) (T := TX12) (N := 109) hx hb hts (fun _ h => List.mem_cons_of_mem _ (List.mem_append_right _ h)) hown hK hP 0 rfl rfl 21 (by decide) (hts (.fieldLink RX12 47 "PuppetFilmModel" "tape" "[I") (List.mem_of_getElem? (i := 3) (by decide +kernel))) (fun _ h9 => h9) ((List.getElem?_set_ne (by decide)).trans ((List.getElem?_set_ne (by decide)).trans ((List.getElem?_set_ne (by decide)).trans ((List.getElem?_set_ne (by decide)).trans ((List.getElem?_set_ne (by decide)).trans ((List.getElem?_set_ne (by decide)).trans ((List.getElem?_set_ne (by decide)).trans ((List.getElem?_set_ne (by decide)).trans ((List.getElem?_set_ne (by decide)).trans (hfs_21)))))))))) dX12_feed_79 ?_
  refine lv_aload_n hx hb dX12_feed_82 rfl (lv_at hl 2 rfl) ?_
  refine va_get (D := D) (ci := 12) (v := .int 8) (C := RX12) (T := TX12) (N := 109) hx hb hts (fun _ h => List.mem_cons_of_mem _ (List.mem_append_right _ h)) hown hK hP 0 rfl rfl 12 (by decide) (hts (.fieldLink RX12 279 "PuppetFilmModel" "taped" "I") (List.mem_of_getElem? (i := 2) (by decide +kernel))) (fun _ h9 => h9) (List.getElem?_set_self (by simp only [List.length_set, hfs]; decide)) dX12_feed_83 ?_
  refine lv_iload hx hb dX12_feed_86 (lv_at hl 0 rfl) ?_
  refine lv_bipush (v := 24) hx hb dX12_feed_88 (by decide) ?_
  refine lv_bipush (v := 8) hx hb dX12_feed_90 (by decide) ?_
  refine lv_iload hx hb dX12_feed_92 (lv_at hl 1 rfl) ?_
  refine lv_iconst (v := 4) hx hb dX12_feed_94 (by decide) ?_
  refine lv_irem hx hb dX12_feed_95 (by decide) ?_
  refine lv_topi (fun z_58 ez_58 => ?_)
  obtain rfl : z_58 = 0 := ez_58.trans (by decide)
  refine lv_imul hx hb dX12_feed_96 ?_
  refine lv_topi (fun z_59 ez_59 => ?_)
  obtain rfl : z_59 = 0 := ez_59.trans (by decide)
  refine lv_isub hx hb dX12_feed_97 ?_
  refine lv_topi (fun z_60 ez_60 => ?_)
  obtain rfl : z_60 = 24 := ez_60.trans (by decide)
  refine lv_ishr hx hb dX12_feed_98 ?_
  refine lv_topi (fun x_61 ex_61 => ?_)
  refine lv_sipush (v := 255) hx hb dX12_feed_99 (by decide) ?_
  refine lv_iand hx hb dX12_feed_102 ?_
  refine lv_topi (fun x_62 ex_62 => ?_)
  refine va_iast hx hb hK hP hD hS 1 0 rfl rfl (by unfold vp_in; decide) dX12_feed_103 (fun H locs hP hD hS => ?_)
  generalize upd f_56 (Int32.toNatClampNeg 8) x_62 = f_63 at hP hD
  have hP : va_P D vwCl [(h0, .inr (12, (((((((((fs.set 0 (.int 0)).set 12 (.int 1)).set 12 (.int 2)).set 12 (.int 3)).set 12 (.int 4)).set 12 (.int 5)).set 12 (.int 6)).set 12 (.int 7)).set 12 (.int 8)))), (m_tape, .inl (cT 0, 400, .inl f_63))] _ := hP
  have hD : va_D A [(h0, .inr (12, (((((((((fs.set 0 (.int 0)).set 12 (.int 1)).set 12 (.int 2)).set 12 (.int 3)).set 12 (.int 4)).set 12 (.int 5)).set 12 (.int 6)).set 12 (.int 7)).set 12 (.int 8)))), (m_tape, .inl (cT 0, 400, .inl f_63))] := hD
  refine lv_aload_n hx hb dX12_feed_104 rfl (lv_at hl 2 rfl) ?_
  refine lv_dup hx hb dX12_feed_105 rfl ?_
  refine va_get (D := D) (ci := 12) (v := .int 8) (C := RX12) (T := TX12) (N := 109) hx hb hts (fun _ h => List.mem_cons_of_mem _ (List.mem_append_right _ h)) hown hK hP 0 rfl rfl 12 (by decide) (hts (.fieldLink RX12 279 "PuppetFilmModel" "taped" "I") (List.mem_of_getElem? (i := 2) (by decide +kernel))) (fun _ h9 => h9) (List.getElem?_set_self (by simp only [List.length_set, hfs]; decide)) dX12_feed_106 ?_
  refine lv_iconst (v := 1) hx hb dX12_feed_109 (by decide) ?_
  refine lv_iadd hx hb dX12_feed_110 ?_
  refine lv_topi (fun z_64 ez_64 => ?_)
  obtain rfl : z_64 = 9 := ez_64.trans (by decide)
  refine va_put (D := D) (ci := 12) (v := .int 9) (ty := .int) (C := RX12) (T := TX12) (N := 109) hx hb hts (fun _ h => List.mem_cons_of_mem _ (List.mem_append_right _ h)) tyX12 tyX12_ok nmX12 hown hK hP hD hS 0 rfl rfl 12 (by decide) (hts (.fieldLink RX12 279 "PuppetFilmModel" "taped" "I") (List.mem_of_getElem? (i := 2) (by decide +kernel))) (fun _ h9 => h9) rfl (by decide +kernel) rfl rfl (by simp only [List.length_set, hfs]; decide) dX12_feed_111 (fun H locs hP hD hS => ?_)
  have hP : va_P D vwCl [(h0, .inr (12, ((((((((((fs.set 0 (.int 0)).set 12 (.int 1)).set 12 (.int 2)).set 12 (.int 3)).set 12 (.int 4)).set 12 (.int 5)).set 12 (.int 6)).set 12 (.int 7)).set 12 (.int 8)).set 12 (.int 9)))), (m_tape, .inl (cT 0, 400, .inl f_63))] _ := hP
  have hD : va_D A [(h0, .inr (12, ((((((((((fs.set 0 (.int 0)).set 12 (.int 1)).set 12 (.int 2)).set 12 (.int 3)).set 12 (.int 4)).set 12 (.int 5)).set 12 (.int 6)).set 12 (.int 7)).set 12 (.int 8)).set 12 (.int 9)))), (m_tape, .inl (cT 0, 400, .inl f_63))] := hD
  refine lv_iinc (v := 9) (lv' := [(6, .int 9), (7, .int p2), (0, .ref h0), (1, .int p0), (2, .int p1), (3, .int p2), (4, .int p3), (5, .int p4)]) hx hb dX12_feed_114 hl (k := 1) rfl (by decide) (by decide) rfl (fun ls hl => ?_)
  refine lv_goto (tgt := 23) hx hb dX12_feed_117 (by decide) ?_
  refine lv_iload hx hb dX12_feed_23 (lv_at hl 0 rfl) ?_
  refine lv_bipush (v := 20) hx hb dX12_feed_25 (by decide) ?_
  refine lv_icmp_ge (tgt := 120) hx hb dX12_feed_27 (by decide) (fun c9 => absurd c9 (by decide)) (fun _ => ?_)
  refine lv_iload hx hb dX12_feed_30 (lv_at hl 0 rfl) ?_
  refine lv_iconst (v := 4) hx hb dX12_feed_32 (by decide) ?_
  refine lv_icmp_ge (tgt := 40) hx hb dX12_feed_33 (by decide) (fun _ => ?_) (fun c9 => absurd c9 (by decide))
  refine lv_iload hx hb dX12_feed_40 (lv_at hl 0 rfl) ?_
  refine lv_bipush (v := 8) hx hb dX12_feed_42 (by decide) ?_
  refine lv_icmp_ge (tgt := 51) hx hb dX12_feed_44 (by decide) (fun _ => ?_) (fun c9 => absurd c9 (by decide))
  refine lv_iload hx hb dX12_feed_51 (lv_at hl 0 rfl) ?_
  refine lv_bipush (v := 12) hx hb dX12_feed_53 (by decide) ?_
  refine lv_icmp_ge (tgt := 62) hx hb dX12_feed_55 (by decide) (fun c9 => absurd c9 (by decide)) (fun _ => ?_)
  refine lv_iload_n hx hb dX12_feed_58 rfl (lv_at hl 5 rfl) ?_
  refine lv_goto (tgt := 76) hx hb dX12_feed_59 (by decide) ?_
  refine lv_istore (lv' := [(7, .int p2), (6, .int 9), (0, .ref h0), (1, .int p0), (2, .int p1), (3, .int p2), (4, .int p3), (5, .int p4)]) hx hb dX12_feed_76 hl (by decide) rfl (fun ls hl => ?_)
  refine lv_aload_n hx hb dX12_feed_78 rfl (lv_at hl 2 rfl) ?_
  refine va_get (D := D) (ci := 12) (v := .ref m_tape) (C := RX12) (T := TX12) (N := 109) hx hb hts (fun _ h => List.mem_cons_of_mem _ (List.mem_append_right _ h)) hown hK hP 0 rfl rfl 21 (by decide) (hts (.fieldLink RX12 47 "PuppetFilmModel" "tape" "[I") (List.mem_of_getElem? (i := 3) (by decide +kernel))) (fun _ h9 => h9) ((List.getElem?_set_ne (by decide)).trans ((List.getElem?_set_ne (by decide)).trans ((List.getElem?_set_ne (by decide)).trans ((List.getElem?_set_ne (by decide)).trans ((List.getElem?_set_ne (by decide)).trans ((List.getElem?_set_ne (by decide)).trans ((List.getElem?_set_ne (by decide)).trans ((List.getElem?_set_ne (by decide)).trans ((List.getElem?_set_ne (by decide)).trans ((List.getElem?_set_ne (by decide)).trans (hfs_21))))))))))) dX12_feed_79 ?_
  refine lv_aload_n hx hb dX12_feed_82 rfl (lv_at hl 2 rfl) ?_
  refine va_get (D := D) (ci := 12) (v := .int 9) (C := RX12) (T := TX12) (N := 109) hx hb hts (fun _ h => List.mem_cons_of_mem _ (List.mem_append_right _ h)) hown hK hP 0 rfl rfl 12 (by decide) (hts (.fieldLink RX12 279 "PuppetFilmModel" "taped" "I") (List.mem_of_getElem? (i := 2) (by decide +kernel))) (fun _ h9 => h9) (List.getElem?_set_self (by simp only [List.length_set, hfs]; decide)) dX12_feed_83 ?_
  refine lv_iload hx hb dX12_feed_86 (lv_at hl 0 rfl) ?_
  refine lv_bipush (v := 24) hx hb dX12_feed_88 (by decide) ?_
  refine lv_bipush (v := 8) hx hb dX12_feed_90 (by decide) ?_
  refine lv_iload hx hb dX12_feed_92 (lv_at hl 1 rfl) ?_
  refine lv_iconst (v := 4) hx hb dX12_feed_94 (by decide) ?_
  refine lv_irem hx hb dX12_feed_95 (by decide) ?_
  refine lv_topi (fun z_65 ez_65 => ?_)
  obtain rfl : z_65 = 1 := ez_65.trans (by decide)
  refine lv_imul hx hb dX12_feed_96 ?_
  refine lv_topi (fun z_66 ez_66 => ?_)
  obtain rfl : z_66 = 8 := ez_66.trans (by decide)
  refine lv_isub hx hb dX12_feed_97 ?_
  refine lv_topi (fun z_67 ez_67 => ?_)
  obtain rfl : z_67 = 16 := ez_67.trans (by decide)
  refine lv_ishr hx hb dX12_feed_98 ?_
  refine lv_topi (fun x_68 ex_68 => ?_)
  refine lv_sipush (v := 255) hx hb dX12_feed_99 (by decide) ?_
  refine lv_iand hx hb dX12_feed_102 ?_
  refine lv_topi (fun x_69 ex_69 => ?_)
  refine va_iast hx hb hK hP hD hS 1 0 rfl rfl (by unfold vp_in; decide) dX12_feed_103 (fun H locs hP hD hS => ?_)
  generalize upd f_63 (Int32.toNatClampNeg 9) x_69 = f_70 at hP hD
  have hP : va_P D vwCl [(h0, .inr (12, ((((((((((fs.set 0 (.int 0)).set 12 (.int 1)).set 12 (.int 2)).set 12 (.int 3)).set 12 (.int 4)).set 12 (.int 5)).set 12 (.int 6)).set 12 (.int 7)).set 12 (.int 8)).set 12 (.int 9)))), (m_tape, .inl (cT 0, 400, .inl f_70))] _ := hP
  have hD : va_D A [(h0, .inr (12, ((((((((((fs.set 0 (.int 0)).set 12 (.int 1)).set 12 (.int 2)).set 12 (.int 3)).set 12 (.int 4)).set 12 (.int 5)).set 12 (.int 6)).set 12 (.int 7)).set 12 (.int 8)).set 12 (.int 9)))), (m_tape, .inl (cT 0, 400, .inl f_70))] := hD
  refine lv_aload_n hx hb dX12_feed_104 rfl (lv_at hl 2 rfl) ?_
  refine lv_dup hx hb dX12_feed_105 rfl ?_
  refine va_get (D := D) (ci := 12) (v := .int 9) (C := RX12) (T := TX12) (N := 109) hx hb hts (fun _ h => List.mem_cons_of_mem _ (List.mem_append_right _ h)) hown hK hP 0 rfl rfl 12 (by decide) (hts (.fieldLink RX12 279 "PuppetFilmModel" "taped" "I") (List.mem_of_getElem? (i := 2) (by decide +kernel))) (fun _ h9 => h9) (List.getElem?_set_self (by simp only [List.length_set, hfs]; decide)) dX12_feed_106 ?_
  refine lv_iconst (v := 1) hx hb dX12_feed_109 (by decide) ?_
  refine lv_iadd hx hb dX12_feed_110 ?_
  refine lv_topi (fun z_71 ez_71 => ?_)
  obtain rfl : z_71 = 10 := ez_71.trans (by decide)
  refine va_put (D := D) (ci := 12) (v := .int 10) (ty := .int) (C := RX12) (T := TX12) (N := 109) hx hb hts (fun _ h => List.mem_cons_of_mem _ (List.mem_append_right _ h)) tyX12 tyX12_ok nmX12 hown hK hP hD hS 0 rfl rfl 12 (by decide) (hts (.fieldLink RX12 279 "PuppetFilmModel" "taped" "I") (List.mem_of_getElem? (i := 2) (by decide +kernel))) (fun _ h9 => h9) rfl (by decide +kernel) rfl rfl (by simp only [List.length_set, hfs]; decide) dX12_feed_111 (fun H locs hP hD hS => ?_)
  have hP : va_P D vwCl [(h0, .inr (12, (((((((((((fs.set 0 (.int 0)).set 12 (.int 1)).set 12 (.int 2)).set 12 (.int 3)).set 12 (.int 4)).set 12 (.int 5)).set 12 (.int 6)).set 12 (.int 7)).set 12 (.int 8)).set 12 (.int 9)).set 12 (.int 10)))), (m_tape, .inl (cT 0, 400, .inl f_70))] _ := hP
  have hD : va_D A [(h0, .inr (12, (((((((((((fs.set 0 (.int 0)).set 12 (.int 1)).set 12 (.int 2)).set 12 (.int 3)).set 12 (.int 4)).set 12 (.int 5)).set 12 (.int 6)).set 12 (.int 7)).set 12 (.int 8)).set 12 (.int 9)).set 12 (.int 10)))), (m_tape, .inl (cT 0, 400, .inl f_70))] := hD
  refine lv_iinc (v := 10) (lv' := [(6, .int 10), (7, .int p2), (0, .ref h0), (1, .int p0), (2, .int p1), (3, .int p2), (4, .int p3), (5, .int p4)]) hx hb dX12_feed_114 hl (k := 1) rfl (by decide) (by decide) rfl (fun ls hl => ?_)
  refine lv_goto (tgt := 23) hx hb dX12_feed_117 (by decide) ?_
  refine lv_iload hx hb dX12_feed_23 (lv_at hl 0 rfl) ?_
  refine lv_bipush (v := 20) hx hb dX12_feed_25 (by decide) ?_
  refine lv_icmp_ge (tgt := 120) hx hb dX12_feed_27 (by decide) (fun c9 => absurd c9 (by decide)) (fun _ => ?_)
  refine lv_iload hx hb dX12_feed_30 (lv_at hl 0 rfl) ?_
  refine lv_iconst (v := 4) hx hb dX12_feed_32 (by decide) ?_
  refine lv_icmp_ge (tgt := 40) hx hb dX12_feed_33 (by decide) (fun _ => ?_) (fun c9 => absurd c9 (by decide))
  refine lv_iload hx hb dX12_feed_40 (lv_at hl 0 rfl) ?_
  refine lv_bipush (v := 8) hx hb dX12_feed_42 (by decide) ?_
  refine lv_icmp_ge (tgt := 51) hx hb dX12_feed_44 (by decide) (fun _ => ?_) (fun c9 => absurd c9 (by decide))
  refine lv_iload hx hb dX12_feed_51 (lv_at hl 0 rfl) ?_
  refine lv_bipush (v := 12) hx hb dX12_feed_53 (by decide) ?_
  refine lv_icmp_ge (tgt := 62) hx hb dX12_feed_55 (by decide) (fun c9 => absurd c9 (by decide)) (fun _ => ?_)
  refine lv_iload_n hx hb dX12_feed_58 rfl (lv_at hl 5 rfl) ?_
  refine lv_goto (tgt := 76) hx hb dX12_feed_59 (by decide) ?_
  refine lv_istore (lv' := [(7, .int p2), (6, .int 10), (0, .ref h0), (1, .int p0), (2, .int p1), (3, .int p2), (4, .int p3), (5, .int p4)]) hx hb dX12_feed_76 hl (by decide) rfl (fun ls hl => ?_)
  refine lv_aload_n hx hb dX12_feed_78 rfl (lv_at hl 2 rfl) ?_
  refine va_get (D := D) (ci := 12) (v := .ref m_tape) (C := RX12) (T := TX12) (N := 109) hx hb hts (fun _ h => List.mem_cons_of_mem _ (List.mem_append_right _ h)) hown hK hP 0 rfl rfl 21 (by decide) (hts (.fieldLink RX12 47 "PuppetFilmModel" "tape" "[I") (List.mem_of_getElem? (i := 3) (by decide +kernel))) (fun _ h9 => h9) ((List.getElem?_set_ne (by decide)).trans ((List.getElem?_set_ne (by decide)).trans ((List.getElem?_set_ne (by decide)).trans ((List.getElem?_set_ne (by decide)).trans ((List.getElem?_set_ne (by decide)).trans ((List.getElem?_set_ne (by decide)).trans ((List.getElem?_set_ne (by decide)).trans ((List.getElem?_set_ne (by decide)).trans ((List.getElem?_set_ne (by decide)).trans ((List.getElem?_set_ne (by decide)).trans ((List.getElem?_set_ne (by decide)).trans (hfs_21)))))))))))) dX12_feed_79 ?_
  refine lv_aload_n hx hb dX12_feed_82 rfl (lv_at hl 2 rfl) ?_
  refine va_get (D := D) (ci := 12) (v := .int 10) (C := RX12) (T := TX12) (N := 109) hx hb hts (fun _ h => List.mem_cons_of_mem _ (List.mem_append_right _ h)) hown hK hP 0 rfl rfl 12 (by decide) (hts (.fieldLink RX12 279 "PuppetFilmModel" "taped" "I") (List.mem_of_getElem? (i := 2) (by decide +kernel))) (fun _ h9 => h9) (List.getElem?_set_self (by simp only [List.length_set, hfs]; decide)) dX12_feed_83 ?_
  refine lv_iload hx hb dX12_feed_86 (lv_at hl 0 rfl) ?_
  refine lv_bipush (v := 24) hx hb dX12_feed_88 (by decide) ?_
  refine lv_bipush (v := 8) hx hb dX12_feed_90 (by decide) ?_
  refine lv_iload hx hb dX12_feed_92 (lv_at hl 1 rfl) ?_
  refine lv_iconst (v := 4) hx hb dX12_feed_94 (by decide) ?_
  refine lv_irem hx hb dX12_feed_95 (by decide) ?_
  refine lv_topi (fun z_72 ez_72 => ?_)
  obtain rfl : z_72 = 2 := ez_72.trans (by decide)
  refine lv_imul hx hb dX12_feed_96 ?_
  refine lv_topi (fun z_73 ez_73 => ?_)
  obtain rfl : z_73 = 16 := ez_73.trans (by decide)
  refine lv_isub hx hb dX12_feed_97 ?_
  refine lv_topi (fun z_74 ez_74 => ?_)
  obtain rfl : z_74 = 8 := ez_74.trans (by decide)
  refine lv_ishr hx hb dX12_feed_98 ?_
  refine lv_topi (fun x_75 ex_75 => ?_)
  refine lv_sipush (v := 255) hx hb dX12_feed_99 (by decide) ?_
  refine lv_iand hx hb dX12_feed_102 ?_
  refine lv_topi (fun x_76 ex_76 => ?_)
  refine va_iast hx hb hK hP hD hS 1 0 rfl rfl (by unfold vp_in; decide) dX12_feed_103 (fun H locs hP hD hS => ?_)
  generalize upd f_70 (Int32.toNatClampNeg 10) x_76 = f_77 at hP hD
  have hP : va_P D vwCl [(h0, .inr (12, (((((((((((fs.set 0 (.int 0)).set 12 (.int 1)).set 12 (.int 2)).set 12 (.int 3)).set 12 (.int 4)).set 12 (.int 5)).set 12 (.int 6)).set 12 (.int 7)).set 12 (.int 8)).set 12 (.int 9)).set 12 (.int 10)))), (m_tape, .inl (cT 0, 400, .inl f_77))] _ := hP
  have hD : va_D A [(h0, .inr (12, (((((((((((fs.set 0 (.int 0)).set 12 (.int 1)).set 12 (.int 2)).set 12 (.int 3)).set 12 (.int 4)).set 12 (.int 5)).set 12 (.int 6)).set 12 (.int 7)).set 12 (.int 8)).set 12 (.int 9)).set 12 (.int 10)))), (m_tape, .inl (cT 0, 400, .inl f_77))] := hD
  refine lv_aload_n hx hb dX12_feed_104 rfl (lv_at hl 2 rfl) ?_
  refine lv_dup hx hb dX12_feed_105 rfl ?_
  refine va_get (D := D) (ci := 12) (v := .int 10) (C := RX12) (T := TX12) (N := 109) hx hb hts (fun _ h => List.mem_cons_of_mem _ (List.mem_append_right _ h)) hown hK hP 0 rfl rfl 12 (by decide) (hts (.fieldLink RX12 279 "PuppetFilmModel" "taped" "I") (List.mem_of_getElem? (i := 2) (by decide +kernel))) (fun _ h9 => h9) (List.getElem?_set_self (by simp only [List.length_set, hfs]; decide)) dX12_feed_106 ?_
  refine lv_iconst (v := 1) hx hb dX12_feed_109 (by decide) ?_
  refine lv_iadd hx hb dX12_feed_110 ?_
  refine lv_topi (fun z_78 ez_78 => ?_)
  obtain rfl : z_78 = 11 := ez_78.trans (by decide)
  refine va_put (D := D) (ci := 12) (v := .int 11) (ty := .int) (C := RX12) (T := TX12) (N := 109) hx hb hts (fun _ h => List.mem_cons_of_mem _ (List.mem_append_right _ h)) tyX12 tyX12_ok nmX12 hown hK hP hD hS 0 rfl rfl 12 (by decide) (hts (.fieldLink RX12 279 "PuppetFilmModel" "taped" "I") (List.mem_of_getElem? (i := 2) (by decide +kernel))) (fun _ h9 => h9) rfl (by decide +kernel) rfl rfl (by simp only [List.length_set, hfs]; decide) dX12_feed_111 (fun H locs hP hD hS => ?_)
  have hP : va_P D vwCl [(h0, .inr (12, ((((((((((((fs.set 0 (.int 0)).set 12 (.int 1)).set 12 (.int 2)).set 12 (.int 3)).set 12 (.int 4)).set 12 (.int 5)).set 12 (.int 6)).set 12 (.int 7)).set 12 (.int 8)).set 12 (.int 9)).set 12 (.int 10)).set 12 (.int 11)))), (m_tape, .inl (cT 0, 400, .inl f_77))] _ := hP
  have hD : va_D A [(h0, .inr (12, ((((((((((((fs.set 0 (.int 0)).set 12 (.int 1)).set 12 (.int 2)).set 12 (.int 3)).set 12 (.int 4)).set 12 (.int 5)).set 12 (.int 6)).set 12 (.int 7)).set 12 (.int 8)).set 12 (.int 9)).set 12 (.int 10)).set 12 (.int 11)))), (m_tape, .inl (cT 0, 400, .inl f_77))] := hD
  refine lv_iinc (v := 11) (lv' := [(6, .int 11), (7, .int p2), (0, .ref h0), (1, .int p0), (2, .int p1), (3, .int p2), (4, .int p3), (5, .int p4)]) hx hb dX12_feed_114 hl (k := 1) rfl (by decide) (by decide) rfl (fun ls hl => ?_)
  refine lv_goto (tgt := 23) hx hb dX12_feed_117 (by decide) ?_
  refine lv_iload hx hb dX12_feed_23 (lv_at hl 0 rfl) ?_
  refine lv_bipush (v := 20) hx hb dX12_feed_25 (by decide) ?_
  refine lv_icmp_ge (tgt := 120) hx hb dX12_feed_27 (by decide) (fun c9 => absurd c9 (by decide)) (fun _ => ?_)
  refine lv_iload hx hb dX12_feed_30 (lv_at hl 0 rfl) ?_
  refine lv_iconst (v := 4) hx hb dX12_feed_32 (by decide) ?_
  refine lv_icmp_ge (tgt := 40) hx hb dX12_feed_33 (by decide) (fun _ => ?_) (fun c9 => absurd c9 (by decide))
  refine lv_iload hx hb dX12_feed_40 (lv_at hl 0 rfl) ?_
  refine lv_bipush (v := 8) hx hb dX12_feed_42 (by decide) ?_
  refine lv_icmp_ge (tgt := 51) hx hb dX12_feed_44 (by decide) (fun _ => ?_) (fun c9 => absurd c9 (by decide))
  refine lv_iload hx hb dX12_feed_51 (lv_at hl 0 rfl) ?_
  refine lv_bipush (v := 12) hx hb dX12_feed_53 (by decide) ?_
  refine lv_icmp_ge (tgt := 62) hx hb dX12_feed_55 (by decide) (fun c9 => absurd c9 (by decide)) (fun _ => ?_)
  refine lv_iload_n hx hb dX12_feed_58 rfl (lv_at hl 5 rfl) ?_
  refine lv_goto (tgt := 76) hx hb dX12_feed_59 (by decide) ?_
  refine lv_istore (lv' := [(7, .int p2), (6, .int 11), (0, .ref h0), (1, .int p0), (2, .int p1), (3, .int p2), (4, .int p3), (5, .int p4)]) hx hb dX12_feed_76 hl (by decide) rfl (fun ls hl => ?_)
  refine lv_aload_n hx hb dX12_feed_78 rfl (lv_at hl 2 rfl) ?_
  refine va_get (D := D) (ci := 12) (v := .ref m_tape) (C := RX12) (T := TX12) (N := 109) hx hb hts (fun _ h => List.mem_cons_of_mem _ (List.mem_append_right _ h)) hown hK hP 0 rfl rfl 21 (by decide) (hts (.fieldLink RX12 47 "PuppetFilmModel" "tape" "[I") (List.mem_of_getElem? (i := 3) (by decide +kernel))) (fun _ h9 => h9) ((List.getElem?_set_ne (by decide)).trans ((List.getElem?_set_ne (by decide)).trans ((List.getElem?_set_ne (by decide)).trans ((List.getElem?_set_ne (by decide)).trans ((List.getElem?_set_ne (by decide)).trans ((List.getElem?_set_ne (by decide)).trans ((List.getElem?_set_ne (by decide)).trans ((List.getElem?_set_ne (by decide)).trans ((List.getElem?_set_ne (by decide)).trans ((List.getElem?_set_ne (by decide)).trans ((List.getElem?_set_ne (by decide)).trans ((List.getElem?_set_ne (by decide)).trans (hfs_21))))))))))))) dX12_feed_79 ?_
  refine lv_aload_n hx hb dX12_feed_82 rfl (lv_at hl 2 rfl) ?_
  refine va_get (D := D) (ci := 12) (v := .int 11) (C := RX12) (T := TX12) (N := 109) hx hb hts (fun _ h => List.mem_cons_of_mem _ (List.mem_append_right _ h)) hown hK hP 0 rfl rfl 12 (by decide) (hts (.fieldLink RX12 279 "PuppetFilmModel" "taped" "I") (List.mem_of_getElem? (i := 2) (by decide +kernel))) (fun _ h9 => h9) (List.getElem?_set_self (by simp only [List.length_set, hfs]; decide)) dX12_feed_83 ?_
  refine lv_iload hx hb dX12_feed_86 (lv_at hl 0 rfl) ?_
  refine lv_bipush (v := 24) hx hb dX12_feed_88 (by decide) ?_
  refine lv_bipush (v := 8) hx hb dX12_feed_90 (by decide) ?_
  refine lv_iload hx hb dX12_feed_92 (lv_at hl 1 rfl) ?_
  refine lv_iconst (v := 4) hx hb dX12_feed_94 (by decide) ?_
  refine lv_irem hx hb dX12_feed_95 (by decide) ?_
  refine lv_topi (fun z_79 ez_79 => ?_)
  obtain rfl : z_79 = 3 := ez_79.trans (by decide)
  refine lv_imul hx hb dX12_feed_96 ?_
  refine lv_topi (fun z_80 ez_80 => ?_)
  obtain rfl : z_80 = 24 := ez_80.trans (by decide)
  refine lv_isub hx hb dX12_feed_97 ?_
  refine lv_topi (fun z_81 ez_81 => ?_)
  obtain rfl : z_81 = 0 := ez_81.trans (by decide)
  refine lv_ishr hx hb dX12_feed_98 ?_
  refine lv_topi (fun x_82 ex_82 => ?_)
  refine lv_sipush (v := 255) hx hb dX12_feed_99 (by decide) ?_
  refine lv_iand hx hb dX12_feed_102 ?_
  refine lv_topi (fun x_83 ex_83 => ?_)
  refine va_iast hx hb hK hP hD hS 1 0 rfl rfl (by unfold vp_in; decide) dX12_feed_103 (fun H locs hP hD hS => ?_)
  generalize upd f_77 (Int32.toNatClampNeg 11) x_83 = f_84 at hP hD
  have hP : va_P D vwCl [(h0, .inr (12, ((((((((((((fs.set 0 (.int 0)).set 12 (.int 1)).set 12 (.int 2)).set 12 (.int 3)).set 12 (.int 4)).set 12 (.int 5)).set 12 (.int 6)).set 12 (.int 7)).set 12 (.int 8)).set 12 (.int 9)).set 12 (.int 10)).set 12 (.int 11)))), (m_tape, .inl (cT 0, 400, .inl f_84))] _ := hP
  have hD : va_D A [(h0, .inr (12, ((((((((((((fs.set 0 (.int 0)).set 12 (.int 1)).set 12 (.int 2)).set 12 (.int 3)).set 12 (.int 4)).set 12 (.int 5)).set 12 (.int 6)).set 12 (.int 7)).set 12 (.int 8)).set 12 (.int 9)).set 12 (.int 10)).set 12 (.int 11)))), (m_tape, .inl (cT 0, 400, .inl f_84))] := hD
  refine lv_aload_n hx hb dX12_feed_104 rfl (lv_at hl 2 rfl) ?_
  refine lv_dup hx hb dX12_feed_105 rfl ?_
  refine va_get (D := D) (ci := 12) (v := .int 11) (C := RX12) (T := TX12) (N := 109) hx hb hts (fun _ h => List.mem_cons_of_mem _ (List.mem_append_right _ h)) hown hK hP 0 rfl rfl 12 (by decide) (hts (.fieldLink RX12 279 "PuppetFilmModel" "taped" "I") (List.mem_of_getElem? (i := 2) (by decide +kernel))) (fun _ h9 => h9) (List.getElem?_set_self (by simp only [List.length_set, hfs]; decide)) dX12_feed_106 ?_
  refine lv_iconst (v := 1) hx hb dX12_feed_109 (by decide) ?_
  refine lv_iadd hx hb dX12_feed_110 ?_
  refine lv_topi (fun z_85 ez_85 => ?_)
  obtain rfl : z_85 = 12 := ez_85.trans (by decide)
  refine va_put (D := D) (ci := 12) (v := .int 12) (ty := .int) (C := RX12) (T := TX12) (N := 109) hx hb hts (fun _ h => List.mem_cons_of_mem _ (List.mem_append_right _ h)) tyX12 tyX12_ok nmX12 hown hK hP hD hS 0 rfl rfl 12 (by decide) (hts (.fieldLink RX12 279 "PuppetFilmModel" "taped" "I") (List.mem_of_getElem? (i := 2) (by decide +kernel))) (fun _ h9 => h9) rfl (by decide +kernel) rfl rfl (by simp only [List.length_set, hfs]; decide) dX12_feed_111 (fun H locs hP hD hS => ?_)
  have hP : va_P D vwCl [(h0, .inr (12, (((((((((((((fs.set 0 (.int 0)).set 12 (.int 1)).set 12 (.int 2)).set 12 (.int 3)).set 12 (.int 4)).set 12 (.int 5)).set 12 (.int 6)).set 12 (.int 7)).set 12 (.int 8)).set 12 (.int 9)).set 12 (.int 10)).set 12 (.int 11)).set 12 (.int 12)))), (m_tape, .inl (cT 0, 400, .inl f_84))] _ := hP
  have hD : va_D A [(h0, .inr (12, (((((((((((((fs.set 0 (.int 0)).set 12 (.int 1)).set 12 (.int 2)).set 12 (.int 3)).set 12 (.int 4)).set 12 (.int 5)).set 12 (.int 6)).set 12 (.int 7)).set 12 (.int 8)).set 12 (.int 9)).set 12 (.int 10)).set 12 (.int 11)).set 12 (.int 12)))), (m_tape, .inl (cT 0, 400, .inl f_84))] := hD
  refine lv_iinc (v := 12) (lv' := [(6, .int 12), (7, .int p2), (0, .ref h0), (1, .int p0), (2, .int p1), (3, .int p2), (4, .int p3), (5, .int p4)]) hx hb dX12_feed_114 hl (k := 1) rfl (by decide) (by decide) rfl (fun ls hl => ?_)
  refine lv_goto (tgt := 23) hx hb dX12_feed_117 (by decide) ?_
  refine lv_iload hx hb dX12_feed_23 (lv_at hl 0 rfl) ?_
  refine lv_bipush (v := 20) hx hb dX12_feed_25 (by decide) ?_
  refine lv_icmp_ge (tgt := 120) hx hb dX12_feed_27 (by decide) (fun c9 => absurd c9 (by decide)) (fun _ => ?_)
  refine lv_iload hx hb dX12_feed_30 (lv_at hl 0 rfl) ?_
  refine lv_iconst (v := 4) hx hb dX12_feed_32 (by decide) ?_
  refine lv_icmp_ge (tgt := 40) hx hb dX12_feed_33 (by decide) (fun _ => ?_) (fun c9 => absurd c9 (by decide))
  refine lv_iload hx hb dX12_feed_40 (lv_at hl 0 rfl) ?_
  refine lv_bipush (v := 8) hx hb dX12_feed_42 (by decide) ?_
  refine lv_icmp_ge (tgt := 51) hx hb dX12_feed_44 (by decide) (fun _ => ?_) (fun c9 => absurd c9 (by decide))
  refine lv_iload hx hb dX12_feed_51 (lv_at hl 0 rfl) ?_
  refine lv_bipush (v := 12) hx hb dX12_feed_53 (by decide) ?_
  refine lv_icmp_ge (tgt := 62) hx hb dX12_feed_55 (by decide) (fun _ => ?_) (fun c9 => absurd c9 (by decide))
  refine lv_iload hx hb dX12_feed_62 (lv_at hl 0 rfl) ?_
  refine lv_bipush (v := 16) hx hb dX12_feed_64 (by decide) ?_
  refine lv_icmp_ge (tgt := 74) hx hb dX12_feed_66 (by decide) (fun c9 => absurd c9 (by decide)) (fun _ => ?_)
  refine lv_iload hx hb dX12_feed_69 (lv_at hl 6 rfl) ?_
  refine lv_goto (tgt := 76) hx hb dX12_feed_71 (by decide) ?_
  refine lv_istore (lv' := [(7, .int p3), (6, .int 12), (0, .ref h0), (1, .int p0), (2, .int p1), (3, .int p2), (4, .int p3), (5, .int p4)]) hx hb dX12_feed_76 hl (by decide) rfl (fun ls hl => ?_)
  refine lv_aload_n hx hb dX12_feed_78 rfl (lv_at hl 2 rfl) ?_
  refine va_get (D := D) (ci := 12) (v := .ref m_tape) (C := RX12) (T := TX12) (N := 109) hx hb hts (fun _ h => List.mem_cons_of_mem _ (List.mem_append_right _ h)) hown hK hP 0 rfl rfl 21 (by decide) (hts (.fieldLink RX12 47 "PuppetFilmModel" "tape" "[I") (List.mem_of_getElem? (i := 3) (by decide +kernel))) (fun _ h9 => h9) ((List.getElem?_set_ne (by decide)).trans ((List.getElem?_set_ne (by decide)).trans ((List.getElem?_set_ne (by decide)).trans ((List.getElem?_set_ne (by decide)).trans ((List.getElem?_set_ne (by decide)).trans ((List.getElem?_set_ne (by decide)).trans ((List.getElem?_set_ne (by decide)).trans ((List.getElem?_set_ne (by decide)).trans ((List.getElem?_set_ne (by decide)).trans ((List.getElem?_set_ne (by decide)).trans ((List.getElem?_set_ne (by decide)).trans ((List.getElem?_set_ne (by decide)).trans ((List.getElem?_set_ne (by decide)).trans (hfs_21)))))))))))))) dX12_feed_79 ?_
  refine lv_aload_n hx hb dX12_feed_82 rfl (lv_at hl 2 rfl) ?_
  refine va_get (D := D) (ci := 12) (v := .int 12) (C := RX12) (T := TX12) (N := 109) hx hb hts (fun _ h => List.mem_cons_of_mem _ (List.mem_append_right _ h)) hown hK hP 0 rfl rfl 12 (by decide) (hts (.fieldLink RX12 279 "PuppetFilmModel" "taped" "I") (List.mem_of_getElem? (i := 2) (by decide +kernel))) (fun _ h9 => h9) (List.getElem?_set_self (by simp only [List.length_set, hfs]; decide)) dX12_feed_83 ?_
  refine lv_iload hx hb dX12_feed_86 (lv_at hl 0 rfl) ?_
  refine lv_bipush (v := 24) hx hb dX12_feed_88 (by decide) ?_
  refine lv_bipush (v := 8) hx hb dX12_feed_90 (by decide) ?_
  refine lv_iload hx hb dX12_feed_92 (lv_at hl 1 rfl) ?_
  refine lv_iconst (v := 4) hx hb dX12_feed_94 (by decide) ?_
  refine lv_irem hx hb dX12_feed_95 (by decide) ?_
  refine lv_topi (fun z_86 ez_86 => ?_)
  obtain rfl : z_86 = 0 := ez_86.trans (by decide)
  refine lv_imul hx hb dX12_feed_96 ?_
  refine lv_topi (fun z_87 ez_87 => ?_)
  obtain rfl : z_87 = 0 := ez_87.trans (by decide)
  refine lv_isub hx hb dX12_feed_97 ?_
  refine lv_topi (fun z_88 ez_88 => ?_)
  obtain rfl : z_88 = 24 := ez_88.trans (by decide)
  refine lv_ishr hx hb dX12_feed_98 ?_
  refine lv_topi (fun x_89 ex_89 => ?_)
  refine lv_sipush (v := 255) hx hb dX12_feed_99 (by decide) ?_
  refine lv_iand hx hb dX12_feed_102 ?_
  refine lv_topi (fun x_90 ex_90 => ?_)
  refine va_iast hx hb hK hP hD hS 1 0 rfl rfl (by unfold vp_in; decide) dX12_feed_103 (fun H locs hP hD hS => ?_)
  generalize upd f_84 (Int32.toNatClampNeg 12) x_90 = f_91 at hP hD
  have hP : va_P D vwCl [(h0, .inr (12, (((((((((((((fs.set 0 (.int 0)).set 12 (.int 1)).set 12 (.int 2)).set 12 (.int 3)).set 12 (.int 4)).set 12 (.int 5)).set 12 (.int 6)).set 12 (.int 7)).set 12 (.int 8)).set 12 (.int 9)).set 12 (.int 10)).set 12 (.int 11)).set 12 (.int 12)))), (m_tape, .inl (cT 0, 400, .inl f_91))] _ := hP
  have hD : va_D A [(h0, .inr (12, (((((((((((((fs.set 0 (.int 0)).set 12 (.int 1)).set 12 (.int 2)).set 12 (.int 3)).set 12 (.int 4)).set 12 (.int 5)).set 12 (.int 6)).set 12 (.int 7)).set 12 (.int 8)).set 12 (.int 9)).set 12 (.int 10)).set 12 (.int 11)).set 12 (.int 12)))), (m_tape, .inl (cT 0, 400, .inl f_91))] := hD
  refine lv_aload_n hx hb dX12_feed_104 rfl (lv_at hl 2 rfl) ?_
  refine lv_dup hx hb dX12_feed_105 rfl ?_
  refine va_get (D := D) (ci := 12) (v := .int 12) (C := RX12) (T := TX12) (N := 109) hx hb hts (fun _ h => List.mem_cons_of_mem _ (List.mem_append_right _ h)) hown hK hP 0 rfl rfl 12 (by decide) (hts (.fieldLink RX12 279 "PuppetFilmModel" "taped" "I") (List.mem_of_getElem? (i := 2) (by decide +kernel))) (fun _ h9 => h9) (List.getElem?_set_self (by simp only [List.length_set, hfs]; decide)) dX12_feed_106 ?_
  refine lv_iconst (v := 1) hx hb dX12_feed_109 (by decide) ?_
  refine lv_iadd hx hb dX12_feed_110 ?_
  refine lv_topi (fun z_92 ez_92 => ?_)
  obtain rfl : z_92 = 13 := ez_92.trans (by decide)
  refine va_put (D := D) (ci := 12) (v := .int 13) (ty := .int) (C := RX12) (T := TX12) (N := 109) hx hb hts (fun _ h => List.mem_cons_of_mem _ (List.mem_append_right _ h)) tyX12 tyX12_ok nmX12 hown hK hP hD hS 0 rfl rfl 12 (by decide) (hts (.fieldLink RX12 279 "PuppetFilmModel" "taped" "I") (List.mem_of_getElem? (i := 2) (by decide +kernel))) (fun _ h9 => h9) rfl (by decide +kernel) rfl rfl (by simp only [List.length_set, hfs]; decide) dX12_feed_111 (fun H locs hP hD hS => ?_)
  have hP : va_P D vwCl [(h0, .inr (12, ((((((((((((((fs.set 0 (.int 0)).set 12 (.int 1)).set 12 (.int 2)).set 12 (.int 3)).set 12 (.int 4)).set 12 (.int 5)).set 12 (.int 6)).set 12 (.int 7)).set 12 (.int 8)).set 12 (.int 9)).set 12 (.int 10)).set 12 (.int 11)).set 12 (.int 12)).set 12 (.int 13)))), (m_tape, .inl (cT 0, 400, .inl f_91))] _ := hP
  have hD : va_D A [(h0, .inr (12, ((((((((((((((fs.set 0 (.int 0)).set 12 (.int 1)).set 12 (.int 2)).set 12 (.int 3)).set 12 (.int 4)).set 12 (.int 5)).set 12 (.int 6)).set 12 (.int 7)).set 12 (.int 8)).set 12 (.int 9)).set 12 (.int 10)).set 12 (.int 11)).set 12 (.int 12)).set 12 (.int 13)))), (m_tape, .inl (cT 0, 400, .inl f_91))] := hD
  refine lv_iinc (v := 13) (lv' := [(6, .int 13), (7, .int p3), (0, .ref h0), (1, .int p0), (2, .int p1), (3, .int p2), (4, .int p3), (5, .int p4)]) hx hb dX12_feed_114 hl (k := 1) rfl (by decide) (by decide) rfl (fun ls hl => ?_)
  refine lv_goto (tgt := 23) hx hb dX12_feed_117 (by decide) ?_
  refine lv_iload hx hb dX12_feed_23 (lv_at hl 0 rfl) ?_
  refine lv_bipush (v := 20) hx hb dX12_feed_25 (by decide) ?_
  refine lv_icmp_ge (tgt := 120) hx hb dX12_feed_27 (by decide) (fun c9 => absurd c9 (by decide)) (fun _ => ?_)
  refine lv_iload hx hb dX12_feed_30 (lv_at hl 0 rfl) ?_
  refine lv_iconst (v := 4) hx hb dX12_feed_32 (by decide) ?_
  refine lv_icmp_ge (tgt := 40) hx hb dX12_feed_33 (by decide) (fun _ => ?_) (fun c9 => absurd c9 (by decide))
  refine lv_iload hx hb dX12_feed_40 (lv_at hl 0 rfl) ?_
  refine lv_bipush (v := 8) hx hb dX12_feed_42 (by decide) ?_
  refine lv_icmp_ge (tgt := 51) hx hb dX12_feed_44 (by decide) (fun _ => ?_) (fun c9 => absurd c9 (by decide))
  refine lv_iload hx hb dX12_feed_51 (lv_at hl 0 rfl) ?_
  refine lv_bipush (v := 12) hx hb dX12_feed_53 (by decide) ?_
  refine lv_icmp_ge (tgt := 62) hx hb dX12_feed_55 (by decide) (fun _ => ?_) (fun c9 => absurd c9 (by decide))
  refine lv_iload hx hb dX12_feed_62 (lv_at hl 0 rfl) ?_
  refine lv_bipush (v := 16) hx hb dX12_feed_64 (by decide) ?_
  refine lv_icmp_ge (tgt := 74) hx hb dX12_feed_66 (by decide) (fun c9 => absurd c9 (by decide)) (fun _ => ?_)
  refine lv_iload hx hb dX12_feed_69 (lv_at hl 6 rfl) ?_
  refine lv_goto (tgt := 76) hx hb dX12_feed_71 (by decide) ?_
  refine lv_istore (lv' := [(7, .int p3), (6, .int 13), (0, .ref h0), (1, .int p0), (2, .int p1), (3, .int p2), (4, .int p3), (5, .int p4)]) hx hb dX12_feed_76 hl (by decide) rfl (fun ls hl => ?_)
  refine lv_aload_n hx hb dX12_feed_78 rfl (lv_at hl 2 rfl) ?_
  refine va_get (D := D) (ci := 12) (v := .ref m_tape) (C := RX12) (T := TX12) (N := 109) hx hb hts (fun _ h => List.mem_cons_of_mem _ (List.mem_append_right _ h)) hown hK hP 0 rfl rfl 21 (by decide) (hts (.fieldLink RX12 47 "PuppetFilmModel" "tape" "[I") (List.mem_of_getElem? (i := 3) (by decide +kernel))) (fun _ h9 => h9) ((List.getElem?_set_ne (by decide)).trans ((List.getElem?_set_ne (by decide)).trans ((List.getElem?_set_ne (by decide)).trans ((List.getElem?_set_ne (by decide)).trans ((List.getElem?_set_ne (by decide)).trans ((List.getElem?_set_ne (by decide)).trans ((List.getElem?_set_ne (by decide)).trans ((List.getElem?_set_ne (by decide)).trans ((List.getElem?_set_ne (by decide)).trans ((List.getElem?_set_ne (by decide)).trans ((List.getElem?_set_ne (by decide)).trans ((List.getElem?_set_ne (by decide)).trans ((List.getElem?_set_ne (by decide)).trans ((List.getElem?_set_ne (by decide)).trans (hfs_21))))))))))))))) dX12_feed_79 ?_
  refine lv_aload_n hx hb dX12_feed_82 rfl (lv_at hl 2 rfl) ?_
  refine va_get (D := D) (ci := 12) (v := .int 13) (C := RX12) (T := TX12) (N := 109) hx hb hts (fun _ h => List.mem_cons_of_mem _ (List.mem_append_right _ h)) hown hK hP 0 rfl rfl 12 (by decide) (hts (.fieldLink RX12 279 "PuppetFilmModel" "taped" "I") (List.mem_of_getElem? (i := 2) (by decide +kernel))) (fun _ h9 => h9) (List.getElem?_set_self (by simp only [List.length_set, hfs]; decide)) dX12_feed_83 ?_
  refine lv_iload hx hb dX12_feed_86 (lv_at hl 0 rfl) ?_
  refine lv_bipush (v := 24) hx hb dX12_feed_88 (by decide) ?_
  refine lv_bipush (v := 8) hx hb dX12_feed_90 (by decide) ?_
  refine lv_iload hx hb dX12_feed_92 (lv_at hl 1 rfl) ?_
  refine lv_iconst (v := 4) hx hb dX12_feed_94 (by decide) ?_
  refine lv_irem hx hb dX12_feed_95 (by decide) ?_
  refine lv_topi (fun z_93 ez_93 => ?_)
  obtain rfl : z_93 = 1 := ez_93.trans (by decide)
  refine lv_imul hx hb dX12_feed_96 ?_
  refine lv_topi (fun z_94 ez_94 => ?_)
  obtain rfl : z_94 = 8 := ez_94.trans (by decide)
  refine lv_isub hx hb dX12_feed_97 ?_
  refine lv_topi (fun z_95 ez_95 => ?_)
  obtain rfl : z_95 = 16 := ez_95.trans (by decide)
  refine lv_ishr hx hb dX12_feed_98 ?_
  refine lv_topi (fun x_96 ex_96 => ?_)
  refine lv_sipush (v := 255) hx hb dX12_feed_99 (by decide) ?_
  refine lv_iand hx hb dX12_feed_102 ?_
  refine lv_topi (fun x_97 ex_97 => ?_)
  refine va_iast hx hb hK hP hD hS 1 0 rfl rfl (by unfold vp_in; decide) dX12_feed_103 (fun H locs hP hD hS => ?_)
  generalize upd f_91 (Int32.toNatClampNeg 13) x_97 = f_98 at hP hD
  have hP : va_P D vwCl [(h0, .inr (12, ((((((((((((((fs.set 0 (.int 0)).set 12 (.int 1)).set 12 (.int 2)).set 12 (.int 3)).set 12 (.int 4)).set 12 (.int 5)).set 12 (.int 6)).set 12 (.int 7)).set 12 (.int 8)).set 12 (.int 9)).set 12 (.int 10)).set 12 (.int 11)).set 12 (.int 12)).set 12 (.int 13)))), (m_tape, .inl (cT 0, 400, .inl f_98))] _ := hP
  have hD : va_D A [(h0, .inr (12, ((((((((((((((fs.set 0 (.int 0)).set 12 (.int 1)).set 12 (.int 2)).set 12 (.int 3)).set 12 (.int 4)).set 12 (.int 5)).set 12 (.int 6)).set 12 (.int 7)).set 12 (.int 8)).set 12 (.int 9)).set 12 (.int 10)).set 12 (.int 11)).set 12 (.int 12)).set 12 (.int 13)))), (m_tape, .inl (cT 0, 400, .inl f_98))] := hD
  refine lv_aload_n hx hb dX12_feed_104 rfl (lv_at hl 2 rfl) ?_
  refine lv_dup hx hb dX12_feed_105 rfl ?_
  refine va_get (D := D) (ci := 12) (v := .int 13) (C := RX12) (T := TX12) (N := 109) hx hb hts (fun _ h => List.mem_cons_of_mem _ (List.mem_append_right _ h)) hown hK hP 0 rfl rfl 12 (by decide) (hts (.fieldLink RX12 279 "PuppetFilmModel" "taped" "I") (List.mem_of_getElem? (i := 2) (by decide +kernel))) (fun _ h9 => h9) (List.getElem?_set_self (by simp only [List.length_set, hfs]; decide)) dX12_feed_106 ?_
  refine lv_iconst (v := 1) hx hb dX12_feed_109 (by decide) ?_
  refine lv_iadd hx hb dX12_feed_110 ?_
  refine lv_topi (fun z_99 ez_99 => ?_)
  obtain rfl : z_99 = 14 := ez_99.trans (by decide)
  refine va_put (D := D) (ci := 12) (v := .int 14) (ty := .int) (C := RX12) (T := TX12) (N := 109) hx hb hts (fun _ h => List.mem_cons_of_mem _ (List.mem_append_right _ h)) tyX12 tyX12_ok nmX12 hown hK hP hD hS 0 rfl rfl 12 (by decide) (hts (.fieldLink RX12 279 "PuppetFilmModel" "taped" "I") (List.mem_of_getElem? (i := 2) (by decide +kernel))) (fun _ h9 => h9) rfl (by decide +kernel) rfl rfl (by simp only [List.length_set, hfs]; decide) dX12_feed_111 (fun H locs hP hD hS => ?_)
  have hP : va_P D vwCl [(h0, .inr (12, (((((((((((((((fs.set 0 (.int 0)).set 12 (.int 1)).set 12 (.int 2)).set 12 (.int 3)).set 12 (.int 4)).set 12 (.int 5)).set 12 (.int 6)).set 12 (.int 7)).set 12 (.int 8)).set 12 (.int 9)).set 12 (.int 10)).set 12 (.int 11)).set 12 (.int 12)).set 12 (.int 13)).set 12 (.int 14)))), (m_tape, .inl (cT 0, 400, .inl f_98))] _ := hP
  have hD : va_D A [(h0, .inr (12, (((((((((((((((fs.set 0 (.int 0)).set 12 (.int 1)).set 12 (.int 2)).set 12 (.int 3)).set 12 (.int 4)).set 12 (.int 5)).set 12 (.int 6)).set 12 (.int 7)).set 12 (.int 8)).set 12 (.int 9)).set 12 (.int 10)).set 12 (.int 11)).set 12 (.int 12)).set 12 (.int 13)).set 12 (.int 14)))), (m_tape, .inl (cT 0, 400, .inl f_98))] := hD
  refine lv_iinc (v := 14) (lv' := [(6, .int 14), (7, .int p3), (0, .ref h0), (1, .int p0), (2, .int p1), (3, .int p2), (4, .int p3), (5, .int p4)]) hx hb dX12_feed_114 hl (k := 1) rfl (by decide) (by decide) rfl (fun ls hl => ?_)
  refine lv_goto (tgt := 23) hx hb dX12_feed_117 (by decide) ?_
  refine lv_iload hx hb dX12_feed_23 (lv_at hl 0 rfl) ?_
  refine lv_bipush (v := 20) hx hb dX12_feed_25 (by decide) ?_
  refine lv_icmp_ge (tgt := 120) hx hb dX12_feed_27 (by decide) (fun c9 => absurd c9 (by decide)) (fun _ => ?_)
  refine lv_iload hx hb dX12_feed_30 (lv_at hl 0 rfl) ?_
  refine lv_iconst (v := 4) hx hb dX12_feed_32 (by decide) ?_
  refine lv_icmp_ge (tgt := 40) hx hb dX12_feed_33 (by decide) (fun _ => ?_) (fun c9 => absurd c9 (by decide))
  refine lv_iload hx hb dX12_feed_40 (lv_at hl 0 rfl) ?_
  refine lv_bipush (v := 8) hx hb dX12_feed_42 (by decide) ?_
  refine lv_icmp_ge (tgt := 51) hx hb dX12_feed_44 (by decide) (fun _ => ?_) (fun c9 => absurd c9 (by decide))
  refine lv_iload hx hb dX12_feed_51 (lv_at hl 0 rfl) ?_
  refine lv_bipush (v := 12) hx hb dX12_feed_53 (by decide) ?_
  refine lv_icmp_ge (tgt := 62) hx hb dX12_feed_55 (by decide) (fun _ => ?_) (fun c9 => absurd c9 (by decide))
  refine lv_iload hx hb dX12_feed_62 (lv_at hl 0 rfl) ?_
  refine lv_bipush (v := 16) hx hb dX12_feed_64 (by decide) ?_
  refine lv_icmp_ge (tgt := 74) hx hb dX12_feed_66 (by decide) (fun c9 => absurd c9 (by decide)) (fun _ => ?_)
  refine lv_iload hx hb dX12_feed_69 (lv_at hl 6 rfl) ?_
  refine lv_goto (tgt := 76) hx hb dX12_feed_71 (by decide) ?_
  refine lv_istore (lv' := [(7, .int p3), (6, .int 14), (0, .ref h0), (1, .int p0), (2, .int p1), (3, .int p2), (4, .int p3), (5, .int p4)]) hx hb dX12_feed_76 hl (by decide) rfl (fun ls hl => ?_)
  refine lv_aload_n hx hb dX12_feed_78 rfl (lv_at hl 2 rfl) ?_
  refine va_get (D := D) (ci := 12) (v := .ref m_tape) (C := RX12) (T := TX12) (N := 109) hx hb hts (fun _ h => List.mem_cons_of_mem _ (List.mem_append_right _ h)) hown hK hP 0 rfl rfl 21 (by decide) (hts (.fieldLink RX12 47 "PuppetFilmModel" "tape" "[I") (List.mem_of_getElem? (i := 3) (by decide +kernel))) (fun _ h9 => h9) ((List.getElem?_set_ne (by decide)).trans ((List.getElem?_set_ne (by decide)).trans ((List.getElem?_set_ne (by decide)).trans ((List.getElem?_set_ne (by decide)).trans ((List.getElem?_set_ne (by decide)).trans ((List.getElem?_set_ne (by decide)).trans ((List.getElem?_set_ne (by decide)).trans ((List.getElem?_set_ne (by decide)).trans ((List.getElem?_set_ne (by decide)).trans ((List.getElem?_set_ne (by decide)).trans ((List.getElem?_set_ne (by decide)).trans ((List.getElem?_set_ne (by decide)).trans ((List.getElem?_set_ne (by decide)).trans ((List.getElem?_set_ne (by decide)).trans ((List.getElem?_set_ne (by decide)).trans (hfs_21)))))))))))))))) dX12_feed_79 ?_
  refine lv_aload_n hx hb dX12_feed_82 rfl (lv_at hl 2 rfl) ?_
  refine va_get (D := D) (ci := 12) (v := .int 14) (C := RX12) (T := TX12) (N := 109) hx hb hts (fun _ h => List.mem_cons_of_mem _ (List.mem_append_right _ h)) hown hK hP 0 rfl rfl 12 (by decide) (hts (.fieldLink RX12 279 "PuppetFilmModel" "taped" "I") (List.mem_of_getElem? (i := 2) (by decide +kernel))) (fun _ h9 => h9) (List.getElem?_set_self (by simp only [List.length_set, hfs]; decide)) dX12_feed_83 ?_
  refine lv_iload hx hb dX12_feed_86 (lv_at hl 0 rfl) ?_
  refine lv_bipush (v := 24) hx hb dX12_feed_88 (by decide) ?_
  refine lv_bipush (v := 8) hx hb dX12_feed_90 (by decide) ?_
  refine lv_iload hx hb dX12_feed_92 (lv_at hl 1 rfl) ?_
  refine lv_iconst (v := 4) hx hb dX12_feed_94 (by decide) ?_
  refine lv_irem hx hb dX12_feed_95 (by decide) ?_
  refine lv_topi (fun z_100 ez_100 => ?_)
  obtain rfl : z_100 = 2 := ez_100.trans (by decide)
  refine lv_imul hx hb dX12_feed_96 ?_
  refine lv_topi (fun z_101 ez_101 => ?_)
  obtain rfl : z_101 = 16 := ez_101.trans (by decide)
  refine lv_isub hx hb dX12_feed_97 ?_
  refine lv_topi (fun z_102 ez_102 => ?_)
  obtain rfl : z_102 = 8 := ez_102.trans (by decide)
  refine lv_ishr hx hb dX12_feed_98 ?_
  refine lv_topi (fun x_103 ex_103 => ?_)
  refine lv_sipush (v := 255) hx hb dX12_feed_99 (by decide) ?_
  refine lv_iand hx hb dX12_feed_102 ?_
  refine lv_topi (fun x_104 ex_104 => ?_)
  refine va_iast hx hb hK hP hD hS 1 0 rfl rfl (by unfold vp_in; decide) dX12_feed_103 (fun H locs hP hD hS => ?_)
  generalize upd f_98 (Int32.toNatClampNeg 14) x_104 = f_105 at hP hD
  have hP : va_P D vwCl [(h0, .inr (12, (((((((((((((((fs.set 0 (.int 0)).set 12 (.int 1)).set 12 (.int 2)).set 12 (.int 3)).set 12 (.int 4)).set 12 (.int 5)).set 12 (.int 6)).set 12 (.int 7)).set 12 (.int 8)).set 12 (.int 9)).set 12 (.int 10)).set 12 (.int 11)).set 12 (.int 12)).set 12 (.int 13)).set 12 (.int 14)))), (m_tape, .inl (cT 0, 400, .inl f_105))] _ := hP
  have hD : va_D A [(h0, .inr (12, (((((((((((((((fs.set 0 (.int 0)).set 12 (.int 1)).set 12 (.int 2)).set 12 (.int 3)).set 12 (.int 4)).set 12 (.int 5)).set 12 (.int 6)).set 12 (.int 7)).set 12 (.int 8)).set 12 (.int 9)).set 12 (.int 10)).set 12 (.int 11)).set 12 (.int 12)).set 12 (.int 13)).set 12 (.int 14)))), (m_tape, .inl (cT 0, 400, .inl f_105))] := hD
  refine lv_aload_n hx hb dX12_feed_104 rfl (lv_at hl 2 rfl) ?_
  refine lv_dup hx hb dX12_feed_105 rfl ?_
  refine va_get (D := D) (ci := 12) (v := .int 14) (C := RX12) (T := TX12) (N := 109) hx hb hts (fun _ h => List.mem_cons_of_mem _ (List.mem_append_right _ h)) hown hK hP 0 rfl rfl 12 (by decide) (hts (.fieldLink RX12 279 "PuppetFilmModel" "taped" "I") (List.mem_of_getElem? (i := 2) (by decide +kernel))) (fun _ h9 => h9) (List.getElem?_set_self (by simp only [List.length_set, hfs]; decide)) dX12_feed_106 ?_
  refine lv_iconst (v := 1) hx hb dX12_feed_109 (by decide) ?_
  refine lv_iadd hx hb dX12_feed_110 ?_
  refine lv_topi (fun z_106 ez_106 => ?_)
  obtain rfl : z_106 = 15 := ez_106.trans (by decide)
  refine va_put (D := D) (ci := 12) (v := .int 15) (ty := .int) (C := RX12) (T := TX12) (N := 109) hx hb hts (fun _ h => List.mem_cons_of_mem _ (List.mem_append_right _ h)) tyX12 tyX12_ok nmX12 hown hK hP hD hS 0 rfl rfl 12 (by decide) (hts (.fieldLink RX12 279 "PuppetFilmModel" "taped" "I") (List.mem_of_getElem? (i := 2) (by decide +kernel))) (fun _ h9 => h9) rfl (by decide +kernel) rfl rfl (by simp only [List.length_set, hfs]; decide) dX12_feed_111 (fun H locs hP hD hS => ?_)
  have hP : va_P D vwCl [(h0, .inr (12, ((((((((((((((((fs.set 0 (.int 0)).set 12 (.int 1)).set 12 (.int 2)).set 12 (.int 3)).set 12 (.int 4)).set 12 (.int 5)).set 12 (.int 6)).set 12 (.int 7)).set 12 (.int 8)).set 12 (.int 9)).set 12 (.int 10)).set 12 (.int 11)).set 12 (.int 12)).set 12 (.int 13)).set 12 (.int 14)).set 12 (.int 15)))), (m_tape, .inl (cT 0, 400, .inl f_105))] _ := hP
  have hD : va_D A [(h0, .inr (12, ((((((((((((((((fs.set 0 (.int 0)).set 12 (.int 1)).set 12 (.int 2)).set 12 (.int 3)).set 12 (.int 4)).set 12 (.int 5)).set 12 (.int 6)).set 12 (.int 7)).set 12 (.int 8)).set 12 (.int 9)).set 12 (.int 10)).set 12 (.int 11)).set 12 (.int 12)).set 12 (.int 13)).set 12 (.int 14)).set 12 (.int 15)))), (m_tape, .inl (cT 0, 400, .inl f_105))] := hD
  refine lv_iinc (v := 15) (lv' := [(6, .int 15), (7, .int p3), (0, .ref h0), (1, .int p0), (2, .int p1), (3, .int p2), (4, .int p3), (5, .int p4)]) hx hb dX12_feed_114 hl (k := 1) rfl (by decide) (by decide) rfl (fun ls hl => ?_)
  refine lv_goto (tgt := 23) hx hb dX12_feed_117 (by decide) ?_
  refine lv_iload hx hb dX12_feed_23 (lv_at hl 0 rfl) ?_
  refine lv_bipush (v := 20) hx hb dX12_feed_25 (by decide) ?_
  refine lv_icmp_ge (tgt := 120) hx hb dX12_feed_27 (by decide) (fun c9 => absurd c9 (by decide)) (fun _ => ?_)
  refine lv_iload hx hb dX12_feed_30 (lv_at hl 0 rfl) ?_
  refine lv_iconst (v := 4) hx hb dX12_feed_32 (by decide) ?_
  refine lv_icmp_ge (tgt := 40) hx hb dX12_feed_33 (by decide) (fun _ => ?_) (fun c9 => absurd c9 (by decide))
  refine lv_iload hx hb dX12_feed_40 (lv_at hl 0 rfl) ?_
  refine lv_bipush (v := 8) hx hb dX12_feed_42 (by decide) ?_
  refine lv_icmp_ge (tgt := 51) hx hb dX12_feed_44 (by decide) (fun _ => ?_) (fun c9 => absurd c9 (by decide))
  refine lv_iload hx hb dX12_feed_51 (lv_at hl 0 rfl) ?_
  refine lv_bipush (v := 12) hx hb dX12_feed_53 (by decide) ?_
  refine lv_icmp_ge (tgt := 62) hx hb dX12_feed_55 (by decide) (fun _ => ?_) (fun c9 => absurd c9 (by decide))
  refine lv_iload hx hb dX12_feed_62 (lv_at hl 0 rfl) ?_
  refine lv_bipush (v := 16) hx hb dX12_feed_64 (by decide) ?_
  refine lv_icmp_ge (tgt := 74) hx hb dX12_feed_66 (by decide) (fun c9 => absurd c9 (by decide)) (fun _ => ?_)
  refine lv_iload hx hb dX12_feed_69 (lv_at hl 6 rfl) ?_
  refine lv_goto (tgt := 76) hx hb dX12_feed_71 (by decide) ?_
  refine lv_istore (lv' := [(7, .int p3), (6, .int 15), (0, .ref h0), (1, .int p0), (2, .int p1), (3, .int p2), (4, .int p3), (5, .int p4)]) hx hb dX12_feed_76 hl (by decide) rfl (fun ls hl => ?_)
  refine lv_aload_n hx hb dX12_feed_78 rfl (lv_at hl 2 rfl) ?_
  refine va_get (D := D) (ci := 12) (v := .ref m_tape) (C := RX12) (T := TX12) (N := 109) hx hb hts (fun _ h => List.mem_cons_of_mem _ (List.mem_append_right _ h)) hown hK hP 0 rfl rfl 21 (by decide) (hts (.fieldLink RX12 47 "PuppetFilmModel" "tape" "[I") (List.mem_of_getElem? (i := 3) (by decide +kernel))) (fun _ h9 => h9) ((List.getElem?_set_ne (by decide)).trans ((List.getElem?_set_ne (by decide)).trans ((List.getElem?_set_ne (by decide)).trans ((List.getElem?_set_ne (by decide)).trans ((List.getElem?_set_ne (by decide)).trans ((List.getElem?_set_ne (by decide)).trans ((List.getElem?_set_ne (by decide)).trans ((List.getElem?_set_ne (by decide)).trans ((List.getElem?_set_ne (by decide)).trans ((List.getElem?_set_ne (by decide)).trans ((List.getElem?_set_ne (by decide)).trans ((List.getElem?_set_ne (by decide)).trans ((List.getElem?_set_ne (by decide)).trans ((List.getElem?_set_ne (by decide)).trans ((List.getElem?_set_ne (by decide)).trans ((List.getElem?_set_ne (by decide)).trans (hfs_21))))))))))))))))) dX12_feed_79 ?_
  refine lv_aload_n hx hb dX12_feed_82 rfl (lv_at hl 2 rfl) ?_
  refine va_get (D := D) (ci := 12) (v := .int 15) (C := RX12) (T := TX12) (N := 109) hx hb hts (fun _ h => List.mem_cons_of_mem _ (List.mem_append_right _ h)) hown hK hP 0 rfl rfl 12 (by decide) (hts (.fieldLink RX12 279 "PuppetFilmModel" "taped" "I") (List.mem_of_getElem? (i := 2) (by decide +kernel))) (fun _ h9 => h9) (List.getElem?_set_self (by simp only [List.length_set, hfs]; decide)) dX12_feed_83 ?_
  refine lv_iload hx hb dX12_feed_86 (lv_at hl 0 rfl) ?_
  refine lv_bipush (v := 24) hx hb dX12_feed_88 (by decide) ?_
  refine lv_bipush (v := 8) hx hb dX12_feed_90 (by decide) ?_
  refine lv_iload hx hb dX12_feed_92 (lv_at hl 1 rfl) ?_
  refine lv_iconst (v := 4) hx hb dX12_feed_94 (by decide) ?_
  refine lv_irem hx hb dX12_feed_95 (by decide) ?_
  refine lv_topi (fun z_107 ez_107 => ?_)
  obtain rfl : z_107 = 3 := ez_107.trans (by decide)
  refine lv_imul hx hb dX12_feed_96 ?_
  refine lv_topi (fun z_108 ez_108 => ?_)
  obtain rfl : z_108 = 24 := ez_108.trans (by decide)
  refine lv_isub hx hb dX12_feed_97 ?_
  refine lv_topi (fun z_109 ez_109 => ?_)
  obtain rfl : z_109 = 0 := ez_109.trans (by decide)
  refine lv_ishr hx hb dX12_feed_98 ?_
  refine lv_topi (fun x_110 ex_110 => ?_)
  refine lv_sipush (v := 255) hx hb dX12_feed_99 (by decide) ?_
  refine lv_iand hx hb dX12_feed_102 ?_
  refine lv_topi (fun x_111 ex_111 => ?_)
  refine va_iast hx hb hK hP hD hS 1 0 rfl rfl (by unfold vp_in; decide) dX12_feed_103 (fun H locs hP hD hS => ?_)
  generalize upd f_105 (Int32.toNatClampNeg 15) x_111 = f_112 at hP hD
  have hP : va_P D vwCl [(h0, .inr (12, ((((((((((((((((fs.set 0 (.int 0)).set 12 (.int 1)).set 12 (.int 2)).set 12 (.int 3)).set 12 (.int 4)).set 12 (.int 5)).set 12 (.int 6)).set 12 (.int 7)).set 12 (.int 8)).set 12 (.int 9)).set 12 (.int 10)).set 12 (.int 11)).set 12 (.int 12)).set 12 (.int 13)).set 12 (.int 14)).set 12 (.int 15)))), (m_tape, .inl (cT 0, 400, .inl f_112))] _ := hP
  have hD : va_D A [(h0, .inr (12, ((((((((((((((((fs.set 0 (.int 0)).set 12 (.int 1)).set 12 (.int 2)).set 12 (.int 3)).set 12 (.int 4)).set 12 (.int 5)).set 12 (.int 6)).set 12 (.int 7)).set 12 (.int 8)).set 12 (.int 9)).set 12 (.int 10)).set 12 (.int 11)).set 12 (.int 12)).set 12 (.int 13)).set 12 (.int 14)).set 12 (.int 15)))), (m_tape, .inl (cT 0, 400, .inl f_112))] := hD
  refine lv_aload_n hx hb dX12_feed_104 rfl (lv_at hl 2 rfl) ?_
  refine lv_dup hx hb dX12_feed_105 rfl ?_
  refine va_get (D := D) (ci := 12) (v := .int 15) (C := RX12) (T := TX12) (N := 109) hx hb hts (fun _ h => List.mem_cons_of_mem _ (List.mem_append_right _ h)) hown hK hP 0 rfl rfl 12 (by decide) (hts (.fieldLink RX12 279 "PuppetFilmModel" "taped" "I") (List.mem_of_getElem? (i := 2) (by decide +kernel))) (fun _ h9 => h9) (List.getElem?_set_self (by simp only [List.length_set, hfs]; decide)) dX12_feed_106 ?_
  refine lv_iconst (v := 1) hx hb dX12_feed_109 (by decide) ?_
  refine lv_iadd hx hb dX12_feed_110 ?_
  refine lv_topi (fun z_113 ez_113 => ?_)
  obtain rfl : z_113 = 16 := ez_113.trans (by decide)
  refine va_put (D := D) (ci := 12) (v := .int 16) (ty := .int) (C := RX12) (T := TX12) (N := 109) hx hb hts (fun _ h => List.mem_cons_of_mem _ (List.mem_append_right _ h)) tyX12 tyX12_ok nmX12 hown hK hP hD hS 0 rfl rfl 12 (by decide) (hts (.fieldLink RX12 279 "PuppetFilmModel" "taped" "I") (List.mem_of_getElem? (i := 2) (by decide +kernel))) (fun _ h9 => h9) rfl (by decide +kernel) rfl rfl (by simp only [List.length_set, hfs]; decide) dX12_feed_111 (fun H locs hP hD hS => ?_)
  have hP : va_P D vwCl [(h0, .inr (12, (((((((((((((((((fs.set 0 (.int 0)).set 12 (.int 1)).set 12 (.int 2)).set 12 (.int 3)).set 12 (.int 4)).set 12 (.int 5)).set 12 (.int 6)).set 12 (.int 7)).set 12 (.int 8)).set 12 (.int 9)).set 12 (.int 10)).set 12 (.int 11)).set 12 (.int 12)).set 12 (.int 13)).set 12 (.int 14)).set 12 (.int 15)).set 12 (.int 16)))), (m_tape, .inl (cT 0, 400, .inl f_112))] _ := hP
  have hD : va_D A [(h0, .inr (12, (((((((((((((((((fs.set 0 (.int 0)).set 12 (.int 1)).set 12 (.int 2)).set 12 (.int 3)).set 12 (.int 4)).set 12 (.int 5)).set 12 (.int 6)).set 12 (.int 7)).set 12 (.int 8)).set 12 (.int 9)).set 12 (.int 10)).set 12 (.int 11)).set 12 (.int 12)).set 12 (.int 13)).set 12 (.int 14)).set 12 (.int 15)).set 12 (.int 16)))), (m_tape, .inl (cT 0, 400, .inl f_112))] := hD
  refine lv_iinc (v := 16) (lv' := [(6, .int 16), (7, .int p3), (0, .ref h0), (1, .int p0), (2, .int p1), (3, .int p2), (4, .int p3), (5, .int p4)]) hx hb dX12_feed_114 hl (k := 1) rfl (by decide) (by decide) rfl (fun ls hl => ?_)
  refine lv_goto (tgt := 23) hx hb dX12_feed_117 (by decide) ?_
  refine lv_iload hx hb dX12_feed_23 (lv_at hl 0 rfl) ?_
  refine lv_bipush (v := 20) hx hb dX12_feed_25 (by decide) ?_
  refine lv_icmp_ge (tgt := 120) hx hb dX12_feed_27 (by decide) (fun c9 => absurd c9 (by decide)) (fun _ => ?_)
  refine lv_iload hx hb dX12_feed_30 (lv_at hl 0 rfl) ?_
  refine lv_iconst (v := 4) hx hb dX12_feed_32 (by decide) ?_
  refine lv_icmp_ge (tgt := 40) hx hb dX12_feed_33 (by decide) (fun _ => ?_) (fun c9 => absurd c9 (by decide))
  refine lv_iload hx hb dX12_feed_40 (lv_at hl 0 rfl) ?_
  refine lv_bipush (v := 8) hx hb dX12_feed_42 (by decide) ?_
  refine lv_icmp_ge (tgt := 51) hx hb dX12_feed_44 (by decide) (fun _ => ?_) (fun c9 => absurd c9 (by decide))
  refine lv_iload hx hb dX12_feed_51 (lv_at hl 0 rfl) ?_
  refine lv_bipush (v := 12) hx hb dX12_feed_53 (by decide) ?_
  refine lv_icmp_ge (tgt := 62) hx hb dX12_feed_55 (by decide) (fun _ => ?_) (fun c9 => absurd c9 (by decide))
  refine lv_iload hx hb dX12_feed_62 (lv_at hl 0 rfl) ?_
  refine lv_bipush (v := 16) hx hb dX12_feed_64 (by decide) ?_
  refine lv_icmp_ge (tgt := 74) hx hb dX12_feed_66 (by decide) (fun _ => ?_) (fun c9 => absurd c9 (by decide))
  refine lv_iload hx hb dX12_feed_74 (lv_at hl 7 rfl) ?_
  refine lv_istore (lv' := [(7, .int p4), (6, .int 16), (0, .ref h0), (1, .int p0), (2, .int p1), (3, .int p2), (4, .int p3), (5, .int p4)]) hx hb dX12_feed_76 hl (by decide) rfl (fun ls hl => ?_)
  refine lv_aload_n hx hb dX12_feed_78 rfl (lv_at hl 2 rfl) ?_
  refine va_get (D := D) (ci := 12) (v := .ref m_tape) (C := RX12) (T := TX12) (N := 109) hx hb hts (fun _ h => List.mem_cons_of_mem _ (List.mem_append_right _ h)) hown hK hP 0 rfl rfl 21 (by decide) (hts (.fieldLink RX12 47 "PuppetFilmModel" "tape" "[I") (List.mem_of_getElem? (i := 3) (by decide +kernel))) (fun _ h9 => h9) ((List.getElem?_set_ne (by decide)).trans ((List.getElem?_set_ne (by decide)).trans ((List.getElem?_set_ne (by decide)).trans ((List.getElem?_set_ne (by decide)).trans ((List.getElem?_set_ne (by decide)).trans ((List.getElem?_set_ne (by decide)).trans ((List.getElem?_set_ne (by decide)).trans ((List.getElem?_set_ne (by decide)).trans ((List.getElem?_set_ne (by decide)).trans ((List.getElem?_set_ne (by decide)).trans ((List.getElem?_set_ne (by decide)).trans ((List.getElem?_set_ne (by decide)).trans ((List.getElem?_set_ne (by decide)).trans ((List.getElem?_set_ne (by decide)).trans ((List.getElem?_set_ne (by decide)).trans ((List.getElem?_set_ne (by decide)).trans ((List.getElem?_set_ne (by decide)).trans (hfs_21)))))))))))))))))) dX12_feed_79 ?_
  refine lv_aload_n hx hb dX12_feed_82 rfl (lv_at hl 2 rfl) ?_
  refine va_get (D := D) (ci := 12) (v := .int 16) (C := RX12) (T := TX12) (N := 109) hx hb hts (fun _ h => List.mem_cons_of_mem _ (List.mem_append_right _ h)) hown hK hP 0 rfl rfl 12 (by decide) (hts (.fieldLink RX12 279 "PuppetFilmModel" "taped" "I") (List.mem_of_getElem? (i := 2) (by decide +kernel))) (fun _ h9 => h9) (List.getElem?_set_self (by simp only [List.length_set, hfs]; decide)) dX12_feed_83 ?_
  refine lv_iload hx hb dX12_feed_86 (lv_at hl 0 rfl) ?_
  refine lv_bipush (v := 24) hx hb dX12_feed_88 (by decide) ?_
  refine lv_bipush (v := 8) hx hb dX12_feed_90 (by decide) ?_
  refine lv_iload hx hb dX12_feed_92 (lv_at hl 1 rfl) ?_
  refine lv_iconst (v := 4) hx hb dX12_feed_94 (by decide) ?_
  refine lv_irem hx hb dX12_feed_95 (by decide) ?_
  refine lv_topi (fun z_114 ez_114 => ?_)
  obtain rfl : z_114 = 0 := ez_114.trans (by decide)
  refine lv_imul hx hb dX12_feed_96 ?_
  refine lv_topi (fun z_115 ez_115 => ?_)
  obtain rfl : z_115 = 0 := ez_115.trans (by decide)
  refine lv_isub hx hb dX12_feed_97 ?_
  refine lv_topi (fun z_116 ez_116 => ?_)
  obtain rfl : z_116 = 24 := ez_116.trans (by decide)
  refine lv_ishr hx hb dX12_feed_98 ?_
  refine lv_topi (fun x_117 ex_117 => ?_)
  refine lv_sipush (v := 255) hx hb dX12_feed_99 (by decide) ?_
  refine lv_iand hx hb dX12_feed_102 ?_
  refine lv_topi (fun x_118 ex_118 => ?_)
  refine va_iast hx hb hK hP hD hS 1 0 rfl rfl (by unfold vp_in; decide) dX12_feed_103 (fun H locs hP hD hS => ?_)
  generalize upd f_112 (Int32.toNatClampNeg 16) x_118 = f_119 at hP hD
  have hP : va_P D vwCl [(h0, .inr (12, (((((((((((((((((fs.set 0 (.int 0)).set 12 (.int 1)).set 12 (.int 2)).set 12 (.int 3)).set 12 (.int 4)).set 12 (.int 5)).set 12 (.int 6)).set 12 (.int 7)).set 12 (.int 8)).set 12 (.int 9)).set 12 (.int 10)).set 12 (.int 11)).set 12 (.int 12)).set 12 (.int 13)).set 12 (.int 14)).set 12 (.int 15)).set 12 (.int 16)))), (m_tape, .inl (cT 0, 400, .inl f_119))] _ := hP
  have hD : va_D A [(h0, .inr (12, (((((((((((((((((fs.set 0 (.int 0)).set 12 (.int 1)).set 12 (.int 2)).set 12 (.int 3)).set 12 (.int 4)).set 12 (.int 5)).set 12 (.int 6)).set 12 (.int 7)).set 12 (.int 8)).set 12 (.int 9)).set 12 (.int 10)).set 12 (.int 11)).set 12 (.int 12)).set 12 (.int 13)).set 12 (.int 14)).set 12 (.int 15)).set 12 (.int 16)))), (m_tape, .inl (cT 0, 400, .inl f_119))] := hD
  refine lv_aload_n hx hb dX12_feed_104 rfl (lv_at hl 2 rfl) ?_
  refine lv_dup hx hb dX12_feed_105 rfl ?_
  refine va_get (D := D) (ci := 12) (v := .int 16) (C := RX12) (T := TX12) (N := 109) hx hb hts (fun _ h => List.mem_cons_of_mem _ (List.mem_append_right _ h)) hown hK hP 0 rfl rfl 12 (by decide) (hts (.fieldLink RX12 279 "PuppetFilmModel" "taped" "I") (List.mem_of_getElem? (i := 2) (by decide +kernel))) (fun _ h9 => h9) (List.getElem?_set_self (by simp only [List.length_set, hfs]; decide)) dX12_feed_106 ?_
  refine lv_iconst (v := 1) hx hb dX12_feed_109 (by decide) ?_
  refine lv_iadd hx hb dX12_feed_110 ?_
  refine lv_topi (fun z_120 ez_120 => ?_)
  obtain rfl : z_120 = 17 := ez_120.trans (by decide)
  refine va_put (D := D) (ci := 12) (v := .int 17) (ty := .int) (C := RX12) (T := TX12) (N := 109) hx hb hts (fun _ h => List.mem_cons_of_mem _ (List.mem_append_right _ h)) tyX12 tyX12_ok nmX12 hown hK hP hD hS 0 rfl rfl 12 (by decide) (hts (.fieldLink RX12 279 "PuppetFilmModel" "taped" "I") (List.mem_of_getElem? (i := 2) (by decide +kernel))) (fun _ h9 => h9) rfl (by decide +kernel) rfl rfl (by simp only [List.length_set, hfs]; decide) dX12_feed_111 (fun H locs hP hD hS => ?_)
  have hP : va_P D vwCl [(h0, .inr (12, ((((((((((((((((((fs.set 0 (.int 0)).set 12 (.int 1)).set 12 (.int 2)).set 12 (.int 3)).set 12 (.int 4)).set 12 (.int 5)).set 12 (.int 6)).set 12 (.int 7)).set 12 (.int 8)).set 12 (.int 9)).set 12 (.int 10)).set 12 (.int 11)).set 12 (.int 12)).set 12 (.int 13)).set 12 (.int 14)).set 12 (.int 15)).set 12 (.int 16)).set 12 (.int 17)))), (m_tape, .inl (cT 0, 400, .inl f_119))] _ := hP
  have hD : va_D A [(h0, .inr (12, ((((((((((((((((((fs.set 0 (.int 0)).set 12 (.int 1)).set 12 (.int 2)).set 12 (.int 3)).set 12 (.int 4)).set 12 (.int 5)).set 12 (.int 6)).set 12 (.int 7)).set 12 (.int 8)).set 12 (.int 9)).set 12 (.int 10)).set 12 (.int 11)).set 12 (.int 12)).set 12 (.int 13)).set 12 (.int 14)).set 12 (.int 15)).set 12 (.int 16)).set 12 (.int 17)))), (m_tape, .inl (cT 0, 400, .inl f_119))] := hD
  refine lv_iinc (v := 17) (lv' := [(6, .int 17), (7, .int p4), (0, .ref h0), (1, .int p0), (2, .int p1), (3, .int p2), (4, .int p3), (5, .int p4)]) hx hb dX12_feed_114 hl (k := 1) rfl (by decide) (by decide) rfl (fun ls hl => ?_)
  refine lv_goto (tgt := 23) hx hb dX12_feed_117 (by decide) ?_
  refine lv_iload hx hb dX12_feed_23 (lv_at hl 0 rfl) ?_
  refine lv_bipush (v := 20) hx hb dX12_feed_25 (by decide) ?_
  refine lv_icmp_ge (tgt := 120) hx hb dX12_feed_27 (by decide) (fun c9 => absurd c9 (by decide)) (fun _ => ?_)
  refine lv_iload hx hb dX12_feed_30 (lv_at hl 0 rfl) ?_
  refine lv_iconst (v := 4) hx hb dX12_feed_32 (by decide) ?_
  refine lv_icmp_ge (tgt := 40) hx hb dX12_feed_33 (by decide) (fun _ => ?_) (fun c9 => absurd c9 (by decide))
  refine lv_iload hx hb dX12_feed_40 (lv_at hl 0 rfl) ?_
  refine lv_bipush (v := 8) hx hb dX12_feed_42 (by decide) ?_
  refine lv_icmp_ge (tgt := 51) hx hb dX12_feed_44 (by decide) (fun _ => ?_) (fun c9 => absurd c9 (by decide))
  refine lv_iload hx hb dX12_feed_51 (lv_at hl 0 rfl) ?_
  refine lv_bipush (v := 12) hx hb dX12_feed_53 (by decide) ?_
  refine lv_icmp_ge (tgt := 62) hx hb dX12_feed_55 (by decide) (fun _ => ?_) (fun c9 => absurd c9 (by decide))
  refine lv_iload hx hb dX12_feed_62 (lv_at hl 0 rfl) ?_
  refine lv_bipush (v := 16) hx hb dX12_feed_64 (by decide) ?_
  refine lv_icmp_ge (tgt := 74) hx hb dX12_feed_66 (by decide) (fun _ => ?_) (fun c9 => absurd c9 (by decide))
  refine lv_iload hx hb dX12_feed_74 (lv_at hl 7 rfl) ?_
  refine lv_istore (lv' := [(7, .int p4), (6, .int 17), (0, .ref h0), (1, .int p0), (2, .int p1), (3, .int p2), (4, .int p3), (5, .int p4)]) hx hb dX12_feed_76 hl (by decide) rfl (fun ls hl => ?_)
  refine lv_aload_n hx hb dX12_feed_78 rfl (lv_at hl 2 rfl) ?_
  refine va_get (D := D) (ci := 12) (v := .ref m_tape) (C := RX12) (T := TX12) (N := 109) hx hb hts (fun _ h => List.mem_cons_of_mem _ (List.mem_append_right _ h)) hown hK hP 0 rfl rfl 21 (by decide) (hts (.fieldLink RX12 47 "PuppetFilmModel" "tape" "[I") (List.mem_of_getElem? (i := 3) (by decide +kernel))) (fun _ h9 => h9) ((List.getElem?_set_ne (by decide)).trans ((List.getElem?_set_ne (by decide)).trans ((List.getElem?_set_ne (by decide)).trans ((List.getElem?_set_ne (by decide)).trans ((List.getElem?_set_ne (by decide)).trans ((List.getElem?_set_ne (by decide)).trans ((List.getElem?_set_ne (by decide)).trans ((List.getElem?_set_ne (by decide)).trans ((List.getElem?_set_ne (by decide)).trans ((List.getElem?_set_ne (by decide)).trans ((List.getElem?_set_ne (by decide)).trans ((List.getElem?_set_ne (by decide)).trans ((List.getElem?_set_ne (by decide)).trans ((List.getElem?_set_ne (by decide)).trans ((List.getElem?_set_ne (by decide)).trans ((List.getElem?_set_ne (by decide)).trans ((List.getElem?_set_ne (by decide)).trans ((List.getElem?_set_ne (by decide)).trans (hfs_21))))))))))))))))))) dX12_feed_79 ?_
  refine lv_aload_n hx hb dX12_feed_82 rfl (lv_at hl 2 rfl) ?_
  refine va_get (D := D) (ci := 12) (v := .int 17) (C := RX12) (T := TX12) (N := 109) hx hb hts (fun _ h => List.mem_cons_of_mem _ (List.mem_append_right _ h)) hown hK hP 0 rfl rfl 12 (by decide) (hts (.fieldLink RX12 279 "PuppetFilmModel" "taped" "I") (List.mem_of_getElem? (i := 2) (by decide +kernel))) (fun _ h9 => h9) (List.getElem?_set_self (by simp only [List.length_set, hfs]; decide)) dX12_feed_83 ?_
  refine lv_iload hx hb dX12_feed_86 (lv_at hl 0 rfl) ?_
  refine lv_bipush (v := 24) hx hb dX12_feed_88 (by decide) ?_
  refine lv_bipush (v := 8) hx hb dX12_feed_90 (by decide) ?_
  refine lv_iload hx hb dX12_feed_92 (lv_at hl 1 rfl) ?_
  refine lv_iconst (v := 4) hx hb dX12_feed_94 (by decide) ?_
  refine lv_irem hx hb dX12_feed_95 (by decide) ?_
  refine lv_topi (fun z_121 ez_121 => ?_)
  obtain rfl : z_121 = 1 := ez_121.trans (by decide)
  refine lv_imul hx hb dX12_feed_96 ?_
  refine lv_topi (fun z_122 ez_122 => ?_)
  obtain rfl : z_122 = 8 := ez_122.trans (by decide)
  refine lv_isub hx hb dX12_feed_97 ?_
  refine lv_topi (fun z_123 ez_123 => ?_)
  obtain rfl : z_123 = 16 := ez_123.trans (by decide)
  refine lv_ishr hx hb dX12_feed_98 ?_
  refine lv_topi (fun x_124 ex_124 => ?_)
  refine lv_sipush (v := 255) hx hb dX12_feed_99 (by decide) ?_
  refine lv_iand hx hb dX12_feed_102 ?_
  refine lv_topi (fun x_125 ex_125 => ?_)
  refine va_iast hx hb hK hP hD hS 1 0 rfl rfl (by unfold vp_in; decide) dX12_feed_103 (fun H locs hP hD hS => ?_)
  generalize upd f_119 (Int32.toNatClampNeg 17) x_125 = f_126 at hP hD
  have hP : va_P D vwCl [(h0, .inr (12, ((((((((((((((((((fs.set 0 (.int 0)).set 12 (.int 1)).set 12 (.int 2)).set 12 (.int 3)).set 12 (.int 4)).set 12 (.int 5)).set 12 (.int 6)).set 12 (.int 7)).set 12 (.int 8)).set 12 (.int 9)).set 12 (.int 10)).set 12 (.int 11)).set 12 (.int 12)).set 12 (.int 13)).set 12 (.int 14)).set 12 (.int 15)).set 12 (.int 16)).set 12 (.int 17)))), (m_tape, .inl (cT 0, 400, .inl f_126))] _ := hP
  have hD : va_D A [(h0, .inr (12, ((((((((((((((((((fs.set 0 (.int 0)).set 12 (.int 1)).set 12 (.int 2)).set 12 (.int 3)).set 12 (.int 4)).set 12 (.int 5)).set 12 (.int 6)).set 12 (.int 7)).set 12 (.int 8)).set 12 (.int 9)).set 12 (.int 10)).set 12 (.int 11)).set 12 (.int 12)).set 12 (.int 13)).set 12 (.int 14)).set 12 (.int 15)).set 12 (.int 16)).set 12 (.int 17)))), (m_tape, .inl (cT 0, 400, .inl f_126))] := hD
  refine lv_aload_n hx hb dX12_feed_104 rfl (lv_at hl 2 rfl) ?_
  refine lv_dup hx hb dX12_feed_105 rfl ?_
  refine va_get (D := D) (ci := 12) (v := .int 17) (C := RX12) (T := TX12) (N := 109) hx hb hts (fun _ h => List.mem_cons_of_mem _ (List.mem_append_right _ h)) hown hK hP 0 rfl rfl 12 (by decide) (hts (.fieldLink RX12 279 "PuppetFilmModel" "taped" "I") (List.mem_of_getElem? (i := 2) (by decide +kernel))) (fun _ h9 => h9) (List.getElem?_set_self (by simp only [List.length_set, hfs]; decide)) dX12_feed_106 ?_
  refine lv_iconst (v := 1) hx hb dX12_feed_109 (by decide) ?_
  refine lv_iadd hx hb dX12_feed_110 ?_
  refine lv_topi (fun z_127 ez_127 => ?_)
  obtain rfl : z_127 = 18 := ez_127.trans (by decide)
  refine va_put (D := D) (ci := 12) (v := .int 18) (ty := .int) (C := RX12) (T := TX12) (N := 109) hx hb hts (fun _ h => List.mem_cons_of_mem _ (List.mem_append_right _ h)) tyX12 tyX12_ok nmX12 hown hK hP hD hS 0 rfl rfl 12 (by decide) (hts (.fieldLink RX12 279 "PuppetFilmModel" "taped" "I") (List.mem_of_getElem? (i := 2) (by decide +kernel))) (fun _ h9 => h9) rfl (by decide +kernel) rfl rfl (by simp only [List.length_set, hfs]; decide) dX12_feed_111 (fun H locs hP hD hS => ?_)
  have hP : va_P D vwCl [(h0, .inr (12, (((((((((((((((((((fs.set 0 (.int 0)).set 12 (.int 1)).set 12 (.int 2)).set 12 (.int 3)).set 12 (.int 4)).set 12 (.int 5)).set 12 (.int 6)).set 12 (.int 7)).set 12 (.int 8)).set 12 (.int 9)).set 12 (.int 10)).set 12 (.int 11)).set 12 (.int 12)).set 12 (.int 13)).set 12 (.int 14)).set 12 (.int 15)).set 12 (.int 16)).set 12 (.int 17)).set 12 (.int 18)))), (m_tape, .inl (cT 0, 400, .inl f_126))] _ := hP
  have hD : va_D A [(h0, .inr (12, (((((((((((((((((((fs.set 0 (.int 0)).set 12 (.int 1)).set 12 (.int 2)).set 12 (.int 3)).set 12 (.int 4)).set 12 (.int 5)).set 12 (.int 6)).set 12 (.int 7)).set 12 (.int 8)).set 12 (.int 9)).set 12 (.int 10)).set 12 (.int 11)).set 12 (.int 12)).set 12 (.int 13)).set 12 (.int 14)).set 12 (.int 15)).set 12 (.int 16)).set 12 (.int 17)).set 12 (.int 18)))), (m_tape, .inl (cT 0, 400, .inl f_126))] := hD
  refine lv_iinc (v := 18) (lv' := [(6, .int 18), (7, .int p4), (0, .ref h0), (1, .int p0), (2, .int p1), (3, .int p2), (4, .int p3), (5, .int p4)]) hx hb dX12_feed_114 hl (k := 1) rfl (by decide) (by decide) rfl (fun ls hl => ?_)
  refine lv_goto (tgt := 23) hx hb dX12_feed_117 (by decide) ?_
  refine lv_iload hx hb dX12_feed_23 (lv_at hl 0 rfl) ?_
  refine lv_bipush (v := 20) hx hb dX12_feed_25 (by decide) ?_
  refine lv_icmp_ge (tgt := 120) hx hb dX12_feed_27 (by decide) (fun c9 => absurd c9 (by decide)) (fun _ => ?_)
  refine lv_iload hx hb dX12_feed_30 (lv_at hl 0 rfl) ?_
  refine lv_iconst (v := 4) hx hb dX12_feed_32 (by decide) ?_
  refine lv_icmp_ge (tgt := 40) hx hb dX12_feed_33 (by decide) (fun _ => ?_) (fun c9 => absurd c9 (by decide))
  refine lv_iload hx hb dX12_feed_40 (lv_at hl 0 rfl) ?_
  refine lv_bipush (v := 8) hx hb dX12_feed_42 (by decide) ?_
  refine lv_icmp_ge (tgt := 51) hx hb dX12_feed_44 (by decide) (fun _ => ?_) (fun c9 => absurd c9 (by decide))
  refine lv_iload hx hb dX12_feed_51 (lv_at hl 0 rfl) ?_
  refine lv_bipush (v := 12) hx hb dX12_feed_53 (by decide) ?_
  refine lv_icmp_ge (tgt := 62) hx hb dX12_feed_55 (by decide) (fun _ => ?_) (fun c9 => absurd c9 (by decide))
  refine lv_iload hx hb dX12_feed_62 (lv_at hl 0 rfl) ?_
  refine lv_bipush (v := 16) hx hb dX12_feed_64 (by decide) ?_
  refine lv_icmp_ge (tgt := 74) hx hb dX12_feed_66 (by decide) (fun _ => ?_) (fun c9 => absurd c9 (by decide))
  refine lv_iload hx hb dX12_feed_74 (lv_at hl 7 rfl) ?_
  refine lv_istore (lv' := [(7, .int p4), (6, .int 18), (0, .ref h0), (1, .int p0), (2, .int p1), (3, .int p2), (4, .int p3), (5, .int p4)]) hx hb dX12_feed_76 hl (by decide) rfl (fun ls hl => ?_)
  refine lv_aload_n hx hb dX12_feed_78 rfl (lv_at hl 2 rfl) ?_
  refine va_get (D := D) (ci := 12) (v := .ref m_tape) (C := RX12) (T := TX12) (N := 109) hx hb hts (fun _ h => List.mem_cons_of_mem _ (List.mem_append_right _ h)) hown hK hP 0 rfl rfl 21 (by decide) (hts (.fieldLink RX12 47 "PuppetFilmModel" "tape" "[I") (List.mem_of_getElem? (i := 3) (by decide +kernel))) (fun _ h9 => h9) ((List.getElem?_set_ne (by decide)).trans ((List.getElem?_set_ne (by decide)).trans ((List.getElem?_set_ne (by decide)).trans ((List.getElem?_set_ne (by decide)).trans ((List.getElem?_set_ne (by decide)).trans ((List.getElem?_set_ne (by decide)).trans ((List.getElem?_set_ne (by decide)).trans ((List.getElem?_set_ne (by decide)).trans ((List.getElem?_set_ne (by decide)).trans ((List.getElem?_set_ne (by decide)).trans ((List.getElem?_set_ne (by decide)).trans ((List.getElem?_set_ne (by decide)).trans ((List.getElem?_set_ne (by decide)).trans ((List.getElem?_set_ne (by decide)).trans ((List.getElem?_set_ne (by decide)).trans ((List.getElem?_set_ne (by decide)).trans ((List.getElem?_set_ne (by decide)).trans ((List.getElem?_set_ne (by decide)).trans ((List.getElem?_set_ne (by decide)).trans (hfs_21)))))))))))))))))))) dX12_feed_79 ?_
  refine lv_aload_n hx hb dX12_feed_82 rfl (lv_at hl 2 rfl) ?_
  refine va_get (D := D) (ci := 12) (v := .int 18) (C := RX12) (T := TX12) (N := 109) hx hb hts (fun _ h => List.mem_cons_of_mem _ (List.mem_append_right _ h)) hown hK hP 0 rfl rfl 12 (by decide) (hts (.fieldLink RX12 279 "PuppetFilmModel" "taped" "I") (List.mem_of_getElem? (i := 2) (by decide +kernel))) (fun _ h9 => h9) (List.getElem?_set_self (by simp only [List.length_set, hfs]; decide)) dX12_feed_83 ?_
  refine lv_iload hx hb dX12_feed_86 (lv_at hl 0 rfl) ?_
  refine lv_bipush (v := 24) hx hb dX12_feed_88 (by decide) ?_
  refine lv_bipush (v := 8) hx hb dX12_feed_90 (by decide) ?_
  refine lv_iload hx hb dX12_feed_92 (lv_at hl 1 rfl) ?_
  refine lv_iconst (v := 4) hx hb dX12_feed_94 (by decide) ?_
  refine lv_irem hx hb dX12_feed_95 (by decide) ?_
  refine lv_topi (fun z_128 ez_128 => ?_)
  obtain rfl : z_128 = 2 := ez_128.trans (by decide)
  refine lv_imul hx hb dX12_feed_96 ?_
  refine lv_topi (fun z_129 ez_129 => ?_)
  obtain rfl : z_129 = 16 := ez_129.trans (by decide)
  refine lv_isub hx hb dX12_feed_97 ?_
  refine lv_topi (fun z_130 ez_130 => ?_)
  obtain rfl : z_130 = 8 := ez_130.trans (by decide)
  refine lv_ishr hx hb dX12_feed_98 ?_
  refine lv_topi (fun x_131 ex_131 => ?_)
  refine lv_sipush (v := 255) hx hb dX12_feed_99 (by decide) ?_
  refine lv_iand hx hb dX12_feed_102 ?_
  refine lv_topi (fun x_132 ex_132 => ?_)
  refine va_iast hx hb hK hP hD hS 1 0 rfl rfl (by unfold vp_in; decide) dX12_feed_103 (fun H locs hP hD hS => ?_)
  generalize upd f_126 (Int32.toNatClampNeg 18) x_132 = f_133 at hP hD
  have hP : va_P D vwCl [(h0, .inr (12, (((((((((((((((((((fs.set 0 (.int 0)).set 12 (.int 1)).set 12 (.int 2)).set 12 (.int 3)).set 12 (.int 4)).set 12 (.int 5)).set 12 (.int 6)).set 12 (.int 7)).set 12 (.int 8)).set 12 (.int 9)).set 12 (.int 10)).set 12 (.int 11)).set 12 (.int 12)).set 12 (.int 13)).set 12 (.int 14)).set 12 (.int 15)).set 12 (.int 16)).set 12 (.int 17)).set 12 (.int 18)))), (m_tape, .inl (cT 0, 400, .inl f_133))] _ := hP
  have hD : va_D A [(h0, .inr (12, (((((((((((((((((((fs.set 0 (.int 0)).set 12 (.int 1)).set 12 (.int 2)).set 12 (.int 3)).set 12 (.int 4)).set 12 (.int 5)).set 12 (.int 6)).set 12 (.int 7)).set 12 (.int 8)).set 12 (.int 9)).set 12 (.int 10)).set 12 (.int 11)).set 12 (.int 12)).set 12 (.int 13)).set 12 (.int 14)).set 12 (.int 15)).set 12 (.int 16)).set 12 (.int 17)).set 12 (.int 18)))), (m_tape, .inl (cT 0, 400, .inl f_133))] := hD
  refine lv_aload_n hx hb dX12_feed_104 rfl (lv_at hl 2 rfl) ?_
  refine lv_dup hx hb dX12_feed_105 rfl ?_
  refine va_get (D := D) (ci := 12) (v := .int 18) (C := RX12) (T := TX12) (N := 109) hx hb hts (fun _ h => List.mem_cons_of_mem _ (List.mem_append_right _ h)) hown hK hP 0 rfl rfl 12 (by decide) (hts (.fieldLink RX12 279 "PuppetFilmModel" "taped" "I") (List.mem_of_getElem? (i := 2) (by decide +kernel))) (fun _ h9 => h9) (List.getElem?_set_self (by simp only [List.length_set, hfs]; decide)) dX12_feed_106 ?_
  refine lv_iconst (v := 1) hx hb dX12_feed_109 (by decide) ?_
  refine lv_iadd hx hb dX12_feed_110 ?_
  refine lv_topi (fun z_134 ez_134 => ?_)
  obtain rfl : z_134 = 19 := ez_134.trans (by decide)
  refine va_put (D := D) (ci := 12) (v := .int 19) (ty := .int) (C := RX12) (T := TX12) (N := 109) hx hb hts (fun _ h => List.mem_cons_of_mem _ (List.mem_append_right _ h)) tyX12 tyX12_ok nmX12 hown hK hP hD hS 0 rfl rfl 12 (by decide) (hts (.fieldLink RX12 279 "PuppetFilmModel" "taped" "I") (List.mem_of_getElem? (i := 2) (by decide +kernel))) (fun _ h9 => h9) rfl (by decide +kernel) rfl rfl (by simp only [List.length_set, hfs]; decide) dX12_feed_111 (fun H locs hP hD hS => ?_)
  have hP : va_P D vwCl [(h0, .inr (12, ((((((((((((((((((((fs.set 0 (.int 0)).set 12 (.int 1)).set 12 (.int 2)).set 12 (.int 3)).set 12 (.int 4)).set 12 (.int 5)).set 12 (.int 6)).set 12 (.int 7)).set 12 (.int 8)).set 12 (.int 9)).set 12 (.int 10)).set 12 (.int 11)).set 12 (.int 12)).set 12 (.int 13)).set 12 (.int 14)).set 12 (.int 15)).set 12 (.int 16)).set 12 (.int 17)).set 12 (.int 18)).set 12 (.int 19)))), (m_tape, .inl (cT 0, 400, .inl f_133))] _ := hP
  have hD : va_D A [(h0, .inr (12, ((((((((((((((((((((fs.set 0 (.int 0)).set 12 (.int 1)).set 12 (.int 2)).set 12 (.int 3)).set 12 (.int 4)).set 12 (.int 5)).set 12 (.int 6)).set 12 (.int 7)).set 12 (.int 8)).set 12 (.int 9)).set 12 (.int 10)).set 12 (.int 11)).set 12 (.int 12)).set 12 (.int 13)).set 12 (.int 14)).set 12 (.int 15)).set 12 (.int 16)).set 12 (.int 17)).set 12 (.int 18)).set 12 (.int 19)))), (m_tape, .inl (cT 0, 400, .inl f_133))] := hD
  refine lv_iinc (v := 19) (lv' := [(6, .int 19), (7, .int p4), (0, .ref h0), (1, .int p0), (2, .int p1), (3, .int p2), (4, .int p3), (5, .int p4)]) hx hb dX12_feed_114 hl (k := 1) rfl (by decide) (by decide) rfl (fun ls hl => ?_)
  refine lv_goto (tgt := 23) hx hb dX12_feed_117 (by decide) ?_
  refine lv_iload hx hb dX12_feed_23 (lv_at hl 0 rfl) ?_
  refine lv_bipush (v := 20) hx hb dX12_feed_25 (by decide) ?_
  refine lv_icmp_ge (tgt := 120) hx hb dX12_feed_27 (by decide) (fun c9 => absurd c9 (by decide)) (fun _ => ?_)
  refine lv_iload hx hb dX12_feed_30 (lv_at hl 0 rfl) ?_
  refine lv_iconst (v := 4) hx hb dX12_feed_32 (by decide) ?_
  refine lv_icmp_ge (tgt := 40) hx hb dX12_feed_33 (by decide) (fun _ => ?_) (fun c9 => absurd c9 (by decide))
  refine lv_iload hx hb dX12_feed_40 (lv_at hl 0 rfl) ?_
  refine lv_bipush (v := 8) hx hb dX12_feed_42 (by decide) ?_
  refine lv_icmp_ge (tgt := 51) hx hb dX12_feed_44 (by decide) (fun _ => ?_) (fun c9 => absurd c9 (by decide))
  refine lv_iload hx hb dX12_feed_51 (lv_at hl 0 rfl) ?_
  refine lv_bipush (v := 12) hx hb dX12_feed_53 (by decide) ?_
  refine lv_icmp_ge (tgt := 62) hx hb dX12_feed_55 (by decide) (fun _ => ?_) (fun c9 => absurd c9 (by decide))
  refine lv_iload hx hb dX12_feed_62 (lv_at hl 0 rfl) ?_
  refine lv_bipush (v := 16) hx hb dX12_feed_64 (by decide) ?_
  refine lv_icmp_ge (tgt := 74) hx hb dX12_feed_66 (by decide) (fun _ => ?_) (fun c9 => absurd c9 (by decide))
  refine lv_iload hx hb dX12_feed_74 (lv_at hl 7 rfl) ?_
  refine lv_istore (lv' := [(7, .int p4), (6, .int 19), (0, .ref h0), (1, .int p0), (2, .int p1), (3, .int p2), (4, .int p3), (5, .int p4)]) hx hb dX12_feed_76 hl (by decide) rfl (fun ls hl => ?_)
  refine lv_aload_n hx hb dX12_feed_78 rfl (lv_at hl 2 rfl) ?_
  refine va_get (D := D) (ci := 12) (v := .ref m_tape) (C := RX12) (T := TX12) (N := 109) hx hb hts (fun _ h => List.mem_cons_of_mem _ (List.mem_append_right _ h)) hown hK hP 0 rfl rfl 21 (by decide) (hts (.fieldLink RX12 47 "PuppetFilmModel" "tape" "[I") (List.mem_of_getElem? (i := 3) (by decide +kernel))) (fun _ h9 => h9) ((List.getElem?_set_ne (by decide)).trans ((List.getElem?_set_ne (by decide)).trans ((List.getElem?_set_ne (by decide)).trans ((List.getElem?_set_ne (by decide)).trans ((List.getElem?_set_ne (by decide)).trans ((List.getElem?_set_ne (by decide)).trans ((List.getElem?_set_ne (by decide)).trans ((List.getElem?_set_ne (by decide)).trans ((List.getElem?_set_ne (by decide)).trans ((List.getElem?_set_ne (by decide)).trans ((List.getElem?_set_ne (by decide)).trans ((List.getElem?_set_ne (by decide)).trans ((List.getElem?_set_ne (by decide)).trans ((List.getElem?_set_ne (by decide)).trans ((List.getElem?_set_ne (by decide)).trans ((List.getElem?_set_ne (by decide)).trans ((List.getElem?_set_ne (by decide)).trans ((List.getElem?_set_ne (by decide)).trans ((List.getElem?_set_ne (by decide)).trans ((List.getElem?_set_ne (by decide)).trans (hfs_21))))))))))))))))))))) dX12_feed_79 ?_
  refine lv_aload_n hx hb dX12_feed_82 rfl (lv_at hl 2 rfl) ?_
  refine va_get (D := D) (ci := 12) (v := .int 19) (C := RX12) (T := TX12) (N := 109) hx hb hts (fun _ h => List.mem_cons_of_mem _ (List.mem_append_right _ h)) hown hK hP 0 rfl rfl 12 (by decide) (hts (.fieldLink RX12 279 "PuppetFilmModel" "taped" "I") (List.mem_of_getElem? (i := 2) (by decide +kernel))) (fun _ h9 => h9) (List.getElem?_set_self (by simp only [List.length_set, hfs]; decide)) dX12_feed_83 ?_
  refine lv_iload hx hb dX12_feed_86 (lv_at hl 0 rfl) ?_
  refine lv_bipush (v := 24) hx hb dX12_feed_88 (by decide) ?_
  refine lv_bipush (v := 8) hx hb dX12_feed_90 (by decide) ?_
  refine lv_iload hx hb dX12_feed_92 (lv_at hl 1 rfl) ?_
  refine lv_iconst (v := 4) hx hb dX12_feed_94 (by decide) ?_
  refine lv_irem hx hb dX12_feed_95 (by decide) ?_
  refine lv_topi (fun z_135 ez_135 => ?_)
  obtain rfl : z_135 = 3 := ez_135.trans (by decide)
  refine lv_imul hx hb dX12_feed_96 ?_
  refine lv_topi (fun z_136 ez_136 => ?_)
  obtain rfl : z_136 = 24 := ez_136.trans (by decide)
  refine lv_isub hx hb dX12_feed_97 ?_
  refine lv_topi (fun z_137 ez_137 => ?_)
  obtain rfl : z_137 = 0 := ez_137.trans (by decide)
  refine lv_ishr hx hb dX12_feed_98 ?_
  refine lv_topi (fun x_138 ex_138 => ?_)
  refine lv_sipush (v := 255) hx hb dX12_feed_99 (by decide) ?_
  refine lv_iand hx hb dX12_feed_102 ?_
  refine lv_topi (fun x_139 ex_139 => ?_)
  refine va_iast hx hb hK hP hD hS 1 0 rfl rfl (by unfold vp_in; decide) dX12_feed_103 (fun H locs hP hD hS => ?_)
  generalize upd f_133 (Int32.toNatClampNeg 19) x_139 = f_140 at hP hD
  have hP : va_P D vwCl [(h0, .inr (12, ((((((((((((((((((((fs.set 0 (.int 0)).set 12 (.int 1)).set 12 (.int 2)).set 12 (.int 3)).set 12 (.int 4)).set 12 (.int 5)).set 12 (.int 6)).set 12 (.int 7)).set 12 (.int 8)).set 12 (.int 9)).set 12 (.int 10)).set 12 (.int 11)).set 12 (.int 12)).set 12 (.int 13)).set 12 (.int 14)).set 12 (.int 15)).set 12 (.int 16)).set 12 (.int 17)).set 12 (.int 18)).set 12 (.int 19)))), (m_tape, .inl (cT 0, 400, .inl f_140))] _ := hP
  have hD : va_D A [(h0, .inr (12, ((((((((((((((((((((fs.set 0 (.int 0)).set 12 (.int 1)).set 12 (.int 2)).set 12 (.int 3)).set 12 (.int 4)).set 12 (.int 5)).set 12 (.int 6)).set 12 (.int 7)).set 12 (.int 8)).set 12 (.int 9)).set 12 (.int 10)).set 12 (.int 11)).set 12 (.int 12)).set 12 (.int 13)).set 12 (.int 14)).set 12 (.int 15)).set 12 (.int 16)).set 12 (.int 17)).set 12 (.int 18)).set 12 (.int 19)))), (m_tape, .inl (cT 0, 400, .inl f_140))] := hD
  refine lv_aload_n hx hb dX12_feed_104 rfl (lv_at hl 2 rfl) ?_
  refine lv_dup hx hb dX12_feed_105 rfl ?_
  refine va_get (D := D) (ci := 12) (v := .int 19) (C := RX12) (T := TX12) (N := 109) hx hb hts (fun _ h => List.mem_cons_of_mem _ (List.mem_append_right _ h)) hown hK hP 0 rfl rfl 12 (by decide) (hts (.fieldLink RX12 279 "PuppetFilmModel" "taped" "I") (List.mem_of_getElem? (i := 2) (by decide +kernel))) (fun _ h9 => h9) (List.getElem?_set_self (by simp only [List.length_set, hfs]; decide)) dX12_feed_106 ?_
  refine lv_iconst (v := 1) hx hb dX12_feed_109 (by decide) ?_
  refine lv_iadd hx hb dX12_feed_110 ?_
  refine lv_topi (fun z_141 ez_141 => ?_)
  obtain rfl : z_141 = 20 := ez_141.trans (by decide)
  refine va_put (D := D) (ci := 12) (v := .int 20) (ty := .int) (C := RX12) (T := TX12) (N := 109) hx hb hts (fun _ h => List.mem_cons_of_mem _ (List.mem_append_right _ h)) tyX12 tyX12_ok nmX12 hown hK hP hD hS 0 rfl rfl 12 (by decide) (hts (.fieldLink RX12 279 "PuppetFilmModel" "taped" "I") (List.mem_of_getElem? (i := 2) (by decide +kernel))) (fun _ h9 => h9) rfl (by decide +kernel) rfl rfl (by simp only [List.length_set, hfs]; decide) dX12_feed_111 (fun H locs hP hD hS => ?_)
  have hP : va_P D vwCl [(h0, .inr (12, (((((((((((((((((((((fs.set 0 (.int 0)).set 12 (.int 1)).set 12 (.int 2)).set 12 (.int 3)).set 12 (.int 4)).set 12 (.int 5)).set 12 (.int 6)).set 12 (.int 7)).set 12 (.int 8)).set 12 (.int 9)).set 12 (.int 10)).set 12 (.int 11)).set 12 (.int 12)).set 12 (.int 13)).set 12 (.int 14)).set 12 (.int 15)).set 12 (.int 16)).set 12 (.int 17)).set 12 (.int 18)).set 12 (.int 19)).set 12 (.int 20)))), (m_tape, .inl (cT 0, 400, .inl f_140))] _ := hP
  have hD : va_D A [(h0, .inr (12, (((((((((((((((((((((fs.set 0 (.int 0)).set 12 (.int 1)).set 12 (.int 2)).set 12 (.int 3)).set 12 (.int 4)).set 12 (.int 5)).set 12 (.int 6)).set 12 (.int 7)).set 12 (.int 8)).set 12 (.int 9)).set 12 (.int 10)).set 12 (.int 11)).set 12 (.int 12)).set 12 (.int 13)).set 12 (.int 14)).set 12 (.int 15)).set 12 (.int 16)).set 12 (.int 17)).set 12 (.int 18)).set 12 (.int 19)).set 12 (.int 20)))), (m_tape, .inl (cT 0, 400, .inl f_140))] := hD
  refine lv_iinc (v := 20) (lv' := [(6, .int 20), (7, .int p4), (0, .ref h0), (1, .int p0), (2, .int p1), (3, .int p2), (4, .int p3), (5, .int p4)]) hx hb dX12_feed_114 hl (k := 1) rfl (by decide) (by decide) rfl (fun ls hl => ?_)
  refine lv_goto (tgt := 23) hx hb dX12_feed_117 (by decide) ?_
  refine lv_iload hx hb dX12_feed_23 (lv_at hl 0 rfl) ?_
  refine lv_bipush (v := 20) hx hb dX12_feed_25 (by decide) ?_
  refine lv_icmp_ge (tgt := 120) hx hb dX12_feed_27 (by decide) (fun _ => ?_) (fun c9 => absurd c9 (by decide))
  refine lv_aload_n hx hb dX12_feed_120 rfl (lv_at hl 2 rfl) ?_
  refine va_get (D := D) (ci := 12) (v := .int 20) (C := RX12) (T := TX12) (N := 109) hx hb hts (fun _ h => List.mem_cons_of_mem _ (List.mem_append_right _ h)) hown hK hP 0 rfl rfl 12 (by decide) (hts (.fieldLink RX12 279 "PuppetFilmModel" "taped" "I") (List.mem_of_getElem? (i := 2) (by decide +kernel))) (fun _ h9 => h9) (List.getElem?_set_self (by simp only [List.length_set, hfs]; decide)) dX12_feed_121 ?_
  have hP9 := hP.sub (ws' := [(h0, .inr (12, (((((((((((((((((((((fs.set 0 (.int 0)).set 12 (.int 1)).set 12 (.int 2)).set 12 (.int 3)).set 12 (.int 4)).set 12 (.int 5)).set 12 (.int 6)).set 12 (.int 7)).set 12 (.int 8)).set 12 (.int 9)).set 12 (.int 10)).set 12 (.int 11)).set 12 (.int 12)).set 12 (.int 13)).set 12 (.int 14)).set 12 (.int 15)).set 12 (.int 16)).set 12 (.int 17)).set 12 (.int 18)).set 12 (.int 19)).set 12 (.int 20))))]) [0] rfl
  have hD9 := hD.sub (ws' := [(h0, .inr (12, (((((((((((((((((((((fs.set 0 (.int 0)).set 12 (.int 1)).set 12 (.int 2)).set 12 (.int 3)).set 12 (.int 4)).set 12 (.int 5)).set 12 (.int 6)).set 12 (.int 7)).set 12 (.int 8)).set 12 (.int 9)).set 12 (.int 10)).set 12 (.int 11)).set 12 (.int 12)).set 12 (.int 13)).set 12 (.int 14)).set 12 (.int 15)).set 12 (.int 16)).set 12 (.int 17)).set 12 (.int 18)).set 12 (.int 19)).set 12 (.int 20))))]) [0] (by decide) rfl
  exact W.iret (v := 20) hx hb hr (fun t ht hW => ⟨⟨20, (), rfl, rfl, ⟨(((((((((((((((((((((fs.set 0 (.int 0)).set 12 (.int 1)).set 12 (.int 2)).set 12 (.int 3)).set 12 (.int 4)).set 12 (.int 5)).set 12 (.int 6)).set 12 (.int 7)).set 12 (.int 8)).set 12 (.int 9)).set 12 (.int 10)).set 12 (.int 11)).set 12 (.int 12)).set 12 (.int 13)).set 12 (.int 14)).set 12 (.int 15)).set 12 (.int 16)).set 12 (.int 17)).set 12 (.int 18)).set 12 (.int 19)).set 12 (.int 20)), by simp only [List.length_set]; exact hfs, (List.getElem?_set_ne (by decide)).trans ((List.getElem?_set_ne (by decide)).trans ((List.getElem?_set_ne (by decide)).trans ((List.getElem?_set_ne (by decide)).trans ((List.getElem?_set_ne (by decide)).trans ((List.getElem?_set_ne (by decide)).trans ((List.getElem?_set_ne (by decide)).trans ((List.getElem?_set_ne (by decide)).trans ((List.getElem?_set_ne (by decide)).trans ((List.getElem?_set_ne (by decide)).trans ((List.getElem?_set_ne (by decide)).trans ((List.getElem?_set_ne (by decide)).trans ((List.getElem?_set_ne (by decide)).trans ((List.getElem?_set_ne (by decide)).trans ((List.getElem?_set_ne (by decide)).trans ((List.getElem?_set_ne (by decide)).trans ((List.getElem?_set_ne (by decide)).trans ((List.getElem?_set_ne (by decide)).trans ((List.getElem?_set_ne (by decide)).trans ((List.getElem?_set_ne (by decide)).trans (List.getElem?_set_self (by simp only [List.length_set, hfs]; decide))))))))))))))))))))), by rw [ht]; exact hP9, hD9⟩⟩, hS.F ht⟩) hS.2.2 dX12_feed_124
theorem dX12_sound_0 : decode cX12_sound 0 = .ok (.aload_n 0, 1) := by decide +kernel
theorem dX12_sound_1 : decode cX12_sound 1 = .ok (.iconst 0, 1) := by decide +kernel
theorem dX12_sound_10 : decode cX12_sound 10 = .ok (.invokestatic 267, 3) := by decide +kernel
theorem dX12_sound_13 : decode cX12_sound 13 = .ok (.ifCond .eq 17, 3) := by decide +kernel
theorem dX12_sound_16 : decode cX12_sound 16 = .ok (.iload_n 2, 1) := by decide +kernel
theorem dX12_sound_17 : decode cX12_sound 17 = .ok (.iconst 1, 1) := by decide +kernel
theorem dX12_sound_18 : decode cX12_sound 18 = .ok (.bipush 9, 2) := by decide +kernel
theorem dX12_sound_2 : decode cX12_sound 2 = .ok (.putfield 1, 3) := by decide +kernel
theorem dX12_sound_20 : decode cX12_sound 20 = .ok (.invokestatic 267, 3) := by decide +kernel
theorem dX12_sound_23 : decode cX12_sound 23 = .ok (.ifCond .eq 7, 3) := by decide +kernel
theorem dX12_sound_26 : decode cX12_sound 26 = .ok (.iconst 1, 1) := by decide +kernel
theorem dX12_sound_27 : decode cX12_sound 27 = .ok (.goto 4, 3) := by decide +kernel
theorem dX12_sound_30 : decode cX12_sound 30 = .ok (.iconst 0, 1) := by decide +kernel
theorem dX12_sound_31 : decode cX12_sound 31 = .ok (.iconst 1, 1) := by decide +kernel
theorem dX12_sound_32 : decode cX12_sound 32 = .ok (.invokevirtual 271, 3) := by decide +kernel
theorem dX12_sound_35 : decode cX12_sound 35 = .ok (.ifCond .ne 5, 3) := by decide +kernel
theorem dX12_sound_38 : decode cX12_sound 38 = .ok (.iconst 0, 1) := by decide +kernel
theorem dX12_sound_39 : decode cX12_sound 39 = .ok (.ireturn, 1) := by decide +kernel
theorem dX12_sound_40 : decode cX12_sound 40 = .ok (.aload_n 0, 1) := by decide +kernel
theorem dX12_sound_41 : decode cX12_sound 41 = .ok (.getfield 41, 3) := by decide +kernel
theorem dX12_sound_44 : decode cX12_sound 44 = .ok (.iload_n 1, 1) := by decide +kernel
theorem dX12_sound_45 : decode cX12_sound 45 = .ok (.iaload, 1) := by decide +kernel
theorem dX12_sound_46 : decode cX12_sound 46 = .ok (.istore_n 3, 1) := by decide +kernel
theorem dX12_sound_47 : decode cX12_sound 47 = .ok (.aload_n 0, 1) := by decide +kernel
theorem dX12_sound_48 : decode cX12_sound 48 = .ok (.getfield 41, 3) := by decide +kernel
theorem dX12_sound_5 : decode cX12_sound 5 = .ok (.aload_n 0, 1) := by decide +kernel
theorem dX12_sound_51 : decode cX12_sound 51 = .ok (.iload_n 1, 1) := by decide +kernel
theorem dX12_sound_52 : decode cX12_sound 52 = .ok (.iload_n 2, 1) := by decide +kernel
theorem dX12_sound_53 : decode cX12_sound 53 = .ok (.iastore, 1) := by decide +kernel
theorem dX12_sound_54 : decode cX12_sound 54 = .ok (.iload_n 3, 1) := by decide +kernel
theorem dX12_sound_55 : decode cX12_sound 55 = .ok (.ireturn, 1) := by decide +kernel
theorem dX12_sound_6 : decode cX12_sound 6 = .ok (.iload_n 1, 1) := by decide +kernel
theorem dX12_sound_7 : decode cX12_sound 7 = .ok (.iconst 0, 1) := by decide +kernel
theorem dX12_sound_8 : decode cX12_sound 8 = .ok (.bipush 25, 2) := by decide +kernel
set_option maxRecDepth 20000 in
theorem ggX12_sound_X12_may : GoodIn wsX12_sound wsX12_may := goodIn_r _ [10, 1, 11, 12, 13, 14, 15, 16, 17, 18, 19, 20, 21, 22, 23, 24, 25, 26, 27, 28, 29, 30, 31, 32, 33, 34, 35, 36, 37, 38, 39, 40, 41, 42, 43, 44, 45, 46, 47, 48, 49, 50, 51, 52, 53, 54, 55, 56, 57, 58, 59, 60, 61, 62, 63, 64, 65, 66, 67, 68, 69, 70, 71, 72, 73, 74, 75, 76, 77, 78, 79, 80, 81, 82, 83, 84, 85, 86, 87, 88, 89, 90, 91, 92, 93, 94, 95, 96, 97, 98, 99, 100, 101, 102, 103, 104, 105, 106, 107, 108, 109, 110, 111, 112, 113, 114, 115, 116, 117, 118, 119] (by decide +kernel) (by decide +kernel)
set_option maxRecDepth 20000 in
theorem gX12_sound_X12_may : GoodIn wsX12_sound (wsV RX12 271 RX12 yX12_may wsX12_may) := goodIn_app (goodIn_of _ (by decide +kernel)) ggX12_sound_X12_may
set_option maxRecDepth 20000 in
theorem ggX12_sound_X12_within : GoodIn wsX12_sound wsX12_within := goodIn_r _ [6] (by decide +kernel) (by decide +kernel)
set_option maxRecDepth 20000 in
theorem gX12_sound_X12_within : GoodIn wsX12_sound (va_wsS RX12 267 yX12_within wsX12_within) := goodIn_app (goodIn_of _ (by decide +kernel)) ggX12_sound_X12_within
set_option maxHeartbeats 4000000 in
set_option maxRecDepth 100000 in
theorem c_X12_sound (l : Launch) (D : va_G) (cT : Nat → ClassId) (h0 : Nat) (p0 : Int32) (p1 : Int32) (fs : List Value) (m_th : Int32) (m_sounds : Nat) (mso : Nat → Int32) (sz : Nat) (hso : ∀ k, k < 26 → mso k = nI (k % 9 + 1)) (hfs : fs.length = 109) (hfs_0 : fs[0]? = some (.int m_th)) (hfs_11 : fs[11]? = some (.ref m_sounds)) : Met l yX12_sound wsX12_sound ({ frames := 9, cells := 0, slots := 0, locals := 220 }) (va_Pc [.ref h0, .int p0, .int p1] (PW D cT [(h0, .inr (12, fs)), (m_sounds, .inl (cT 0, 26, .inl mso))] sz)) (va_Qi (fun (r : Int32) (_ : Unit) => th_sound p0 p1 = 0 → r = vl_sound p0) (fun (_ : Unit) (t : State) => ∃ (gs : List Value), ∃ (tt : Int32), (gs.length = 109) ∧ (gs[0]? = some (.int tt)) ∧ (tt = th_sound p0 p1) ∧ va_P D vwCl [(h0, .inr (12, gs))] t.heap ∧ va_D (va_A [(h0, .inr (12, fs)), (m_sounds, .inl (cT 0, 26, .inl mso))] sz) [(h0, .inr (12, gs))]) (va_A [(h0, .inr (12, fs)), (m_sounds, .inl (cT 0, 26, .inl mso))] sz)) 0 0 (va_A [(h0, .inr (12, fs)), (m_sounds, .inl (cT 0, 26, .inl mso))] sz) := by
  refine Met.ofW (cc := cX12_sound) (maxL := 4) (ret := (some .int)) (by decide) rfl ?_
  intro p e s m args below meth c s₁ B hml hv
  obtain ⟨rfl, hsz, hP, hK, hD0, hG⟩ := hv
  have hx := B.exec
  have hb := B.bytes
  have hr := B.returns
  have hts := atoms_spec (ws := wsX12_sound) B.pre
  have hown : s.vm.findClass RX12 = some m.cls := findClass_of_methodNamed B.named
  have hlocks := B.notSynchronized
  subst hsz
  have hD := hD0.self (sz := s.heap.size)
  generalize hAe : va_A [(h0, .inr (12, fs)), (m_sounds, .inl (cT 0, 26, .inl mso))] s.heap.size = A at hD ⊢
  have hA : ∀ q : Nat, s.heap.size ≤ q → A q := fun q h => by rw [← hAe]; exact Or.inr h
  have hS : va_S A s.heap s.heap [] := va_S.rf
  have hP : va_P D vwCl [(h0, .inr (12, fs)), (m_sounds, .inl (cT 0, 26, .inl mso))] s.heap := hP
  have hl := lv_entry ([.ref h0, .int p0, .int p1]) (n := 4) (Nat.le_of_ble_eq_true rfl)
  rw [lg_entry_eq]
  generalize (lg_sl ([.ref h0, .int p0, .int p1]) ++ List.replicate (4 - (lg_sl ([.ref h0, .int p0, .int p1])).length) Slot.unset).toArray = ls at hl ⊢
  have hl : lv_has ls 4 [(0, .ref h0), (1, .int p0), (2, .int p1)] := hl
  refine lv_aload_n hx hb dX12_sound_0 rfl (lv_at hl 0 rfl) ?_
  refine lv_iconst (v := 0) hx hb dX12_sound_1 (by decide) ?_
  refine va_put (D := D) (ci := 12) (v := .int 0) (ty := .int) (C := RX12) (T := TX12) (N := 109) hx hb hts (fun _ h => List.mem_cons_of_mem _ (List.mem_append_right _ h)) tyX12 tyX12_ok nmX12 hown hK hP hD hS 0 rfl rfl 0 (by decide) (hts (.fieldLink RX12 1 "PuppetFilmModel" "thrown" "I") (List.mem_of_getElem? (i := 1) (by decide +kernel))) (fun _ h9 => h9) rfl (by decide +kernel) rfl rfl (by simp only [List.length_set, hfs]; decide) dX12_sound_2 (fun H locs hP hD hS => ?_)
  have hP : va_P D vwCl [(h0, .inr (12, (fs.set 0 (.int 0)))), (m_sounds, .inl (cT 0, 26, .inl mso))] _ := hP
  have hD : va_D A [(h0, .inr (12, (fs.set 0 (.int 0)))), (m_sounds, .inl (cT 0, 26, .inl mso))] := hD
  refine lv_aload_n hx hb dX12_sound_5 rfl (lv_at hl 0 rfl) ?_
  refine lv_iload_n hx hb dX12_sound_6 rfl (lv_at hl 1 rfl) ?_
  refine lv_iconst (v := 0) hx hb dX12_sound_7 (by decide) ?_
  refine lv_bipush (v := 25) hx hb dX12_sound_8 (by decide) ?_
  have hF := va_free (wc := []) hD hS hA [] rfl
  refine va_calli (va_runS (As := [.int p0, .int 0, .int 25]) (rest := [.ref h0]) ⟨hx, hb, hml, hown, hts⟩ (c_X12_within l D cT p0 0 25 _ ) (va_cwS 3 hts gX12_sound_X12_within rfl rfl rfl (by decide +kernel) ⟨Nat.le_of_ble_eq_true rfl, Nat.le_of_ble_eq_true rfl⟩) (ps_w hP hD hK hG [] rfl rfl rfl) rfl rfl hl.1 rfl (lv_room (Nat.le_of_ble_eq_true rfl)) dX12_sound_10 ⟨Nat.le_of_ble_eq_true rfl, Nat.le_of_ble_eq_true rfl⟩) hS (fun q _ h => hF q h) hF (fun r_1 uu9 tt9 H locs ht hvm wr_1 hB hz1 hk1 hS => ?_)
  obtain ⟨hP, hD⟩ := va_join (wr := [(h0, .inr (12, (fs.set 0 (.int 0)))), (m_sounds, .inl (cT 0, 26, .inl mso))]) (w1 := []) hP hD [] [0, 1] rfl rfl (by decide) (by decide) hk1 hF vp_nil vd_nil
  have hP : va_P D vwCl [(h0, .inr (12, (fs.set 0 (.int 0)))), (m_sounds, .inl (cT 0, 26, .inl mso))] _ := hP
  have hD : va_D A [(h0, .inr (12, (fs.set 0 (.int 0)))), (m_sounds, .inl (cT 0, 26, .inl mso))] := hD
  have g9 := wi_01 p0 0 25
  rw [← wr_1] at g9
  rcases g9 with rfl | rfl
  · refine lv_if_eq (tgt := 30) hx hb dX12_sound_13 (by decide) (fun _ => ?_) (fun c9 => absurd c9 (by decide))
    refine lv_iconst (v := 0) hx hb dX12_sound_30 (by decide) ?_
    refine lv_iconst (v := 1) hx hb dX12_sound_31 (by decide) ?_
    have hF := va_free (wc := [(h0, .inr (12, (fs.set 0 (.int 0))))]) hD hS hA [0] rfl
    refine va_calli (va_runV (As := [.int 0, .int 1]) (rest := []) ⟨hx, hb, hml, hown, hts⟩ (c_X12_may_0_1 l D cT h0 (fs.set 0 (.int 0)) _ (by simp only [List.length_set]; exact hfs) (List.getElem?_set_self (by simp only [List.length_set, hfs]; decide))) (cwV 2 hts gX12_sound_X12_may rfl rfl rfl (by decide +kernel) ⟨Nat.le_of_ble_eq_true rfl, Nat.le_of_ble_eq_true rfl⟩) (pv_w hP hD hK hG [0] rfl rfl rfl 0 rfl rfl) rfl rfl hl.1 rfl (lv_room (Nat.le_of_ble_eq_true rfl)) dX12_sound_32 ⟨Nat.le_of_ble_eq_true rfl, Nat.le_of_ble_eq_true rfl⟩) hS (fun q _ h => hF q h) hF (fun r_2 uu9 tt9 H locs ht hvm wr_2 hB hz1 hk1 hS => ?_)
    obtain ⟨hP1, hD1⟩ := hB
    rw [ht] at hP1
    obtain ⟨hP, hD⟩ := va_join (wr := [(m_sounds, .inl (cT 0, 26, .inl mso))]) (w1 := [(h0, .inr (12, ((fs.set 0 (.int 0)).set 0 (.int 1))))]) hP hD [0] [1] rfl rfl (by decide) (by decide) hk1 hF hP1 hD1
    have hP : va_P D vwCl [(m_sounds, .inl (cT 0, 26, .inl mso)), (h0, .inr (12, ((fs.set 0 (.int 0)).set 0 (.int 1))))] _ := hP
    have hD : va_D A [(m_sounds, .inl (cT 0, 26, .inl mso)), (h0, .inr (12, ((fs.set 0 (.int 0)).set 0 (.int 1))))] := hD
    obtain rfl : r_2 = 0 := wr_2.trans (rfl)
    refine lv_if_ne (tgt := 40) hx hb dX12_sound_35 (by decide) (fun c9 => absurd c9 (by decide)) (fun _ => ?_)
    refine lv_iconst (v := 0) hx hb dX12_sound_38 (by decide) ?_
    have hP9 := hP.sub (ws' := [(h0, .inr (12, ((fs.set 0 (.int 0)).set 0 (.int 1))))]) [1] rfl
    have hD9 := hD.sub (ws' := [(h0, .inr (12, ((fs.set 0 (.int 0)).set 0 (.int 1))))]) [1] (by decide) rfl
    exact W.iret (v := 0) hx hb hr (fun t ht hW => ⟨⟨0, (), rfl, fun h => absurd h (by simp [th_sound, ← wr_1]), ⟨((fs.set 0 (.int 0)).set 0 (.int 1)), 1, by simp only [List.length_set]; exact hfs, List.getElem?_set_self (by simp only [List.length_set, hfs]; decide), by simp [th_sound, ← wr_1], by rw [ht]; exact hP9, hD9⟩⟩, hS.F ht⟩) hS.2.2 dX12_sound_39
  · refine lv_if_eq (tgt := 30) hx hb dX12_sound_13 (by decide) (fun c9 => absurd c9 (by decide)) (fun _ => ?_)
    refine lv_iload_n hx hb dX12_sound_16 rfl (lv_at hl 2 rfl) ?_
    refine lv_iconst (v := 1) hx hb dX12_sound_17 (by decide) ?_
    refine lv_bipush (v := 9) hx hb dX12_sound_18 (by decide) ?_
    have hF := va_free (wc := []) hD hS hA [] rfl
    refine va_calli (va_runS (As := [.int p1, .int 1, .int 9]) (rest := [.ref h0]) ⟨hx, hb, hml, hown, hts⟩ (c_X12_within l D cT p1 1 9 _ ) (va_cwS 3 hts gX12_sound_X12_within rfl rfl rfl (by decide +kernel) ⟨Nat.le_of_ble_eq_true rfl, Nat.le_of_ble_eq_true rfl⟩) (ps_w hP hD hK hG [] rfl rfl rfl) rfl rfl hl.1 rfl (lv_room (Nat.le_of_ble_eq_true rfl)) dX12_sound_20 ⟨Nat.le_of_ble_eq_true rfl, Nat.le_of_ble_eq_true rfl⟩) hS (fun q _ h => hF q h) hF (fun r_3 uu9 tt9 H locs ht hvm wr_3 hB hz1 hk1 hS => ?_)
    obtain ⟨hP, hD⟩ := va_join (wr := [(h0, .inr (12, (fs.set 0 (.int 0)))), (m_sounds, .inl (cT 0, 26, .inl mso))]) (w1 := []) hP hD [] [0, 1] rfl rfl (by decide) (by decide) hk1 hF vp_nil vd_nil
    have hP : va_P D vwCl [(h0, .inr (12, (fs.set 0 (.int 0)))), (m_sounds, .inl (cT 0, 26, .inl mso))] _ := hP
    have hD : va_D A [(h0, .inr (12, (fs.set 0 (.int 0)))), (m_sounds, .inl (cT 0, 26, .inl mso))] := hD
    have g9 := wi_01 p1 1 9
    rw [← wr_3] at g9
    rcases g9 with rfl | rfl
    · refine lv_if_eq (tgt := 30) hx hb dX12_sound_23 (by decide) (fun _ => ?_) (fun c9 => absurd c9 (by decide))
      refine lv_iconst (v := 0) hx hb dX12_sound_30 (by decide) ?_
      refine lv_iconst (v := 1) hx hb dX12_sound_31 (by decide) ?_
      have hF := va_free (wc := [(h0, .inr (12, (fs.set 0 (.int 0))))]) hD hS hA [0] rfl
      refine va_calli (va_runV (As := [.int 0, .int 1]) (rest := []) ⟨hx, hb, hml, hown, hts⟩ (c_X12_may_0_1 l D cT h0 (fs.set 0 (.int 0)) _ (by simp only [List.length_set]; exact hfs) (List.getElem?_set_self (by simp only [List.length_set, hfs]; decide))) (cwV 2 hts gX12_sound_X12_may rfl rfl rfl (by decide +kernel) ⟨Nat.le_of_ble_eq_true rfl, Nat.le_of_ble_eq_true rfl⟩) (pv_w hP hD hK hG [0] rfl rfl rfl 0 rfl rfl) rfl rfl hl.1 rfl (lv_room (Nat.le_of_ble_eq_true rfl)) dX12_sound_32 ⟨Nat.le_of_ble_eq_true rfl, Nat.le_of_ble_eq_true rfl⟩) hS (fun q _ h => hF q h) hF (fun r_4 uu9 tt9 H locs ht hvm wr_4 hB hz1 hk1 hS => ?_)
      obtain ⟨hP1, hD1⟩ := hB
      rw [ht] at hP1
      obtain ⟨hP, hD⟩ := va_join (wr := [(m_sounds, .inl (cT 0, 26, .inl mso))]) (w1 := [(h0, .inr (12, ((fs.set 0 (.int 0)).set 0 (.int 1))))]) hP hD [0] [1] rfl rfl (by decide) (by decide) hk1 hF hP1 hD1
      have hP : va_P D vwCl [(m_sounds, .inl (cT 0, 26, .inl mso)), (h0, .inr (12, ((fs.set 0 (.int 0)).set 0 (.int 1))))] _ := hP
      have hD : va_D A [(m_sounds, .inl (cT 0, 26, .inl mso)), (h0, .inr (12, ((fs.set 0 (.int 0)).set 0 (.int 1))))] := hD
      obtain rfl : r_4 = 0 := wr_4.trans (rfl)
      refine lv_if_ne (tgt := 40) hx hb dX12_sound_35 (by decide) (fun c9 => absurd c9 (by decide)) (fun _ => ?_)
      refine lv_iconst (v := 0) hx hb dX12_sound_38 (by decide) ?_
      have hP9 := hP.sub (ws' := [(h0, .inr (12, ((fs.set 0 (.int 0)).set 0 (.int 1))))]) [1] rfl
      have hD9 := hD.sub (ws' := [(h0, .inr (12, ((fs.set 0 (.int 0)).set 0 (.int 1))))]) [1] (by decide) rfl
      exact W.iret (v := 0) hx hb hr (fun t ht hW => ⟨⟨0, (), rfl, fun h => absurd h (by simp [th_sound, ← wr_1, ← wr_3]), ⟨((fs.set 0 (.int 0)).set 0 (.int 1)), 1, by simp only [List.length_set]; exact hfs, List.getElem?_set_self (by simp only [List.length_set, hfs]; decide), by simp [th_sound, ← wr_1, ← wr_3], by rw [ht]; exact hP9, hD9⟩⟩, hS.F ht⟩) hS.2.2 dX12_sound_39
    · refine lv_if_eq (tgt := 30) hx hb dX12_sound_23 (by decide) (fun c9 => absurd c9 (by decide)) (fun _ => ?_)
      refine lv_iconst (v := 1) hx hb dX12_sound_26 (by decide) ?_
      refine lv_goto (tgt := 31) hx hb dX12_sound_27 (by decide) ?_
      refine lv_iconst (v := 1) hx hb dX12_sound_31 (by decide) ?_
      have hF := va_free (wc := [(h0, .inr (12, (fs.set 0 (.int 0))))]) hD hS hA [0] rfl
      refine va_calli (va_runV (As := [.int 1, .int 1]) (rest := []) ⟨hx, hb, hml, hown, hts⟩ (c_X12_may_1 l D cT h0 1 (fs.set 0 (.int 0)) _ (by simp only [List.length_set]; exact hfs) (List.getElem?_set_self (by simp only [List.length_set, hfs]; decide))) (cwV 2 hts gX12_sound_X12_may rfl rfl rfl (by decide +kernel) ⟨Nat.le_of_ble_eq_true rfl, Nat.le_of_ble_eq_true rfl⟩) (pv_w hP hD hK hG [0] rfl rfl rfl 0 rfl rfl) rfl rfl hl.1 rfl (lv_room (Nat.le_of_ble_eq_true rfl)) dX12_sound_32 ⟨Nat.le_of_ble_eq_true rfl, Nat.le_of_ble_eq_true rfl⟩) hS (fun q _ h => hF q h) hF (fun r_5 uu9 tt9 H locs ht hvm wr_5 hB hz1 hk1 hS => ?_)
      obtain ⟨hP1, hD1⟩ := hB
      rw [ht] at hP1
      obtain ⟨hP, hD⟩ := va_join (wr := [(m_sounds, .inl (cT 0, 26, .inl mso))]) (w1 := [(h0, .inr (12, (fs.set 0 (.int 0))))]) hP hD [0] [1] rfl rfl (by decide) (by decide) hk1 hF hP1 hD1
      have hP : va_P D vwCl [(m_sounds, .inl (cT 0, 26, .inl mso)), (h0, .inr (12, (fs.set 0 (.int 0))))] _ := hP
      have hD : va_D A [(m_sounds, .inl (cT 0, 26, .inl mso)), (h0, .inr (12, (fs.set 0 (.int 0))))] := hD
      obtain rfl : r_5 = 1 := wr_5.trans (rfl)
      refine lv_if_ne (tgt := 40) hx hb dX12_sound_35 (by decide) (fun _ => ?_) (fun c9 => absurd c9 (by decide))
      refine lv_aload_n hx hb dX12_sound_40 rfl (lv_at hl 0 rfl) ?_
      refine va_get (D := D) (ci := 12) (v := .ref m_sounds) (C := RX12) (T := TX12) (N := 109) hx hb hts (fun _ h => List.mem_cons_of_mem _ (List.mem_append_right _ h)) hown hK hP 1 rfl rfl 11 (by decide) (hts (.fieldLink RX12 41 "PuppetFilmModel" "sounds" "[I") (List.mem_of_getElem? (i := 2) (by decide +kernel))) (fun _ h9 => h9) ((List.getElem?_set_ne (by decide)).trans (hfs_11)) dX12_sound_41 ?_
      refine lv_iload_n hx hb dX12_sound_44 rfl (lv_at hl 1 rfl) ?_
      refine va_iald hx hb hK hP 0 0 rfl rfl (wi_vin (hi := 25) (by decide) wr_1) dX12_sound_45 ?_
      refine lv_topi (fun x_6 ex_6 => ?_)
      refine lv_istore_n (lv' := [(3, .int x_6), (0, .ref h0), (1, .int p0), (2, .int p1)]) hx hb dX12_sound_46 rfl hl (by decide) rfl (fun ls hl => ?_)
      refine lv_aload_n hx hb dX12_sound_47 rfl (lv_at hl 1 rfl) ?_
      refine va_get (D := D) (ci := 12) (v := .ref m_sounds) (C := RX12) (T := TX12) (N := 109) hx hb hts (fun _ h => List.mem_cons_of_mem _ (List.mem_append_right _ h)) hown hK hP 1 rfl rfl 11 (by decide) (hts (.fieldLink RX12 41 "PuppetFilmModel" "sounds" "[I") (List.mem_of_getElem? (i := 2) (by decide +kernel))) (fun _ h9 => h9) ((List.getElem?_set_ne (by decide)).trans (hfs_11)) dX12_sound_48 ?_
      refine lv_iload_n hx hb dX12_sound_51 rfl (lv_at hl 2 rfl) ?_
      refine lv_iload_n hx hb dX12_sound_52 rfl (lv_at hl 3 rfl) ?_
      refine va_iast hx hb hK hP hD hS 0 0 rfl rfl (wi_vin (hi := 25) (by decide) wr_1) dX12_sound_53 (fun H locs hP hD hS => ?_)
      have hP : va_P D vwCl [(m_sounds, .inl (cT 0, 26, .inl (upd mso (p0.toNatClampNeg) p1))), (h0, .inr (12, (fs.set 0 (.int 0))))] _ := hP
      have hD : va_D A [(m_sounds, .inl (cT 0, 26, .inl (upd mso (p0.toNatClampNeg) p1))), (h0, .inr (12, (fs.set 0 (.int 0))))] := hD
      refine lv_iload_n hx hb dX12_sound_54 rfl (lv_at hl 0 rfl) ?_
      have hP9 := hP.sub (ws' := [(h0, .inr (12, (fs.set 0 (.int 0))))]) [1] rfl
      have hD9 := hD.sub (ws' := [(h0, .inr (12, (fs.set 0 (.int 0))))]) [1] (by decide) rfl
      exact W.iret (v := x_6) hx hb hr (fun t ht hW => ⟨⟨x_6, (), rfl, fun _ => ex_6.trans (hso _ (wi_lt (hi := 25) (by decide) wr_1)), ⟨(fs.set 0 (.int 0)), 0, by simp only [List.length_set]; exact hfs, List.getElem?_set_self (by simp only [List.length_set, hfs]; decide), by simp [th_sound, ← wr_1, ← wr_3], by rw [ht]; exact hP9, hD9⟩⟩, hS.F ht⟩) hS.2.2 dX12_sound_55
