theorem dX12_fine_0 : decode cX12_fine 0 = .ok (.aload_n 0, 1) := by decide +kernel
theorem dX12_fine_1 : decode cX12_fine 1 = .ok (.getfield 282, 3) := by decide +kernel
theorem dX12_fine_13 : decode cX12_fine 13 = .ok (.ireturn, 1) := by decide +kernel
theorem dX12_fine_4 : decode cX12_fine 4 = .ok (.iconst (-1), 1) := by decide +kernel
theorem dX12_fine_5 : decode cX12_fine 5 = .ok (.if_icmp .ne 7, 3) := by decide +kernel
theorem dX12_fine_8 : decode cX12_fine 8 = .ok (.iconst 1, 1) := by decide +kernel
theorem dX12_fine_9 : decode cX12_fine 9 = .ok (.goto 4, 3) := by decide +kernel
set_option maxHeartbeats 4000000 in
set_option maxRecDepth 100000 in
theorem c_X12_fine_1 (l : Launch) (D : va_G) (cT : Nat → ClassId) (h0 : Nat) (fs : List Value) (sz : Nat) (hfs : fs.length = 109) (hfs_15 : fs[15]? = some (.int (-1))) : Met l yX12_fine wsX12_fine ({ frames := 8, cells := 0, slots := 0, locals := 160 }) (va_Pc [.ref h0] (PW D cT [(h0, .inr (12, fs))] sz)) (va_Qi (fun (r : Int32) (_ : Unit) => r = 1) (fun (_ : Unit) (t : State) => va_P D vwCl [(h0, .inr (12, fs))] t.heap ∧ va_D (va_A [(h0, .inr (12, fs))] sz) [(h0, .inr (12, fs))]) (va_A [(h0, .inr (12, fs))] sz)) 0 0 (va_A [(h0, .inr (12, fs))] sz) := by
  refine Met.ofW (cc := cX12_fine) (maxL := 1) (ret := (some .boolean)) (by decide) rfl ?_
  intro p e s m args below meth c s₁ B hml hv
  obtain ⟨rfl, hsz, hP, hK, hD0, hG⟩ := hv
  have hx := B.exec
  have hb := B.bytes
  have hr := B.returns
  have hts := atoms_spec (ws := wsX12_fine) B.pre
  have hown : s.vm.findClass RX12 = some m.cls := findClass_of_methodNamed B.named
  have hlocks := B.notSynchronized
  subst hsz
  have hD := hD0.self (sz := s.heap.size)
  generalize hAe : va_A [(h0, .inr (12, fs))] s.heap.size = A at hD ⊢
  have hA : ∀ q : Nat, s.heap.size ≤ q → A q := fun q h => by rw [← hAe]; exact Or.inr h
  have hS : va_S A s.heap s.heap [] := va_S.rf
  have hP : va_P D vwCl [(h0, .inr (12, fs))] s.heap := hP
  have hl := lv_entry ([.ref h0]) (n := 1) (Nat.le_of_ble_eq_true rfl)
  rw [lg_entry_eq]
  generalize (lg_sl ([.ref h0]) ++ List.replicate (1 - (lg_sl ([.ref h0])).length) Slot.unset).toArray = ls at hl ⊢
  have hl : lv_has ls 1 [(0, .ref h0)] := hl
  refine lv_aload_n hx hb dX12_fine_0 rfl (lv_at hl 0 rfl) ?_
  refine va_get (D := D) (ci := 12) (v := .int (-1)) (C := RX12) (T := TX12) (N := 109) hx hb hts (fun _ h => List.mem_cons_of_mem _ (List.mem_append_right _ h)) hown hK hP 0 rfl rfl 15 (by decide) (hts (.fieldLink RX12 282 "PuppetFilmModel" "bad" "I") (List.mem_of_getElem? (i := 1) (by decide +kernel))) (fun _ h9 => h9) (hfs_15) dX12_fine_1 ?_
  refine lv_iconst (v := (-1)) hx hb dX12_fine_4 (by decide) ?_
  refine lv_icmp_ne (tgt := 12) hx hb dX12_fine_5 (by decide) (fun c9 => absurd c9 (by decide)) (fun _ => ?_)
  refine lv_iconst (v := 1) hx hb dX12_fine_8 (by decide) ?_
  refine lv_goto (tgt := 13) hx hb dX12_fine_9 (by decide) ?_
  have hP9 := hP.sub (ws' := [(h0, .inr (12, fs))]) [0] rfl
  have hD9 := hD.sub (ws' := [(h0, .inr (12, fs))]) [0] (by decide) rfl
  exact W.zret (v := 1) (ty := .boolean) hx hb hr rfl (fun t ht hW => ⟨⟨1, (), rfl, rfl, ⟨by rw [ht]; exact hP9, hD9⟩⟩, hS.F ht⟩) hS.2.2 dX12_fine_13
theorem dX12_fine_12 : decode cX12_fine 12 = .ok (.iconst 0, 1) := by decide +kernel
set_option maxHeartbeats 4000000 in
set_option maxRecDepth 100000 in
theorem c_X12_fine_0 (l : Launch) (D : va_G) (cT : Nat → ClassId) (h0 : Nat) (fs : List Value) (sz : Nat) (hfs : fs.length = 109) (hfs_15 : fs[15]? = some (.int 0)) : Met l yX12_fine wsX12_fine ({ frames := 8, cells := 0, slots := 0, locals := 160 }) (va_Pc [.ref h0] (PW D cT [(h0, .inr (12, fs))] sz)) (va_Qi (fun (r : Int32) (_ : Unit) => r = 0) (fun (_ : Unit) (t : State) => va_P D vwCl [(h0, .inr (12, fs))] t.heap ∧ va_D (va_A [(h0, .inr (12, fs))] sz) [(h0, .inr (12, fs))]) (va_A [(h0, .inr (12, fs))] sz)) 0 0 (va_A [(h0, .inr (12, fs))] sz) := by
  refine Met.ofW (cc := cX12_fine) (maxL := 1) (ret := (some .boolean)) (by decide) rfl ?_
  intro p e s m args below meth c s₁ B hml hv
  obtain ⟨rfl, hsz, hP, hK, hD0, hG⟩ := hv
  have hx := B.exec
  have hb := B.bytes
  have hr := B.returns
  have hts := atoms_spec (ws := wsX12_fine) B.pre
  have hown : s.vm.findClass RX12 = some m.cls := findClass_of_methodNamed B.named
  have hlocks := B.notSynchronized
  subst hsz
  have hD := hD0.self (sz := s.heap.size)
  generalize hAe : va_A [(h0, .inr (12, fs))] s.heap.size = A at hD ⊢
  have hA : ∀ q : Nat, s.heap.size ≤ q → A q := fun q h => by rw [← hAe]; exact Or.inr h
  have hS : va_S A s.heap s.heap [] := va_S.rf
  have hP : va_P D vwCl [(h0, .inr (12, fs))] s.heap := hP
  have hl := lv_entry ([.ref h0]) (n := 1) (Nat.le_of_ble_eq_true rfl)
  rw [lg_entry_eq]
  generalize (lg_sl ([.ref h0]) ++ List.replicate (1 - (lg_sl ([.ref h0])).length) Slot.unset).toArray = ls at hl ⊢
  have hl : lv_has ls 1 [(0, .ref h0)] := hl
  refine lv_aload_n hx hb dX12_fine_0 rfl (lv_at hl 0 rfl) ?_
  refine va_get (D := D) (ci := 12) (v := .int 0) (C := RX12) (T := TX12) (N := 109) hx hb hts (fun _ h => List.mem_cons_of_mem _ (List.mem_append_right _ h)) hown hK hP 0 rfl rfl 15 (by decide) (hts (.fieldLink RX12 282 "PuppetFilmModel" "bad" "I") (List.mem_of_getElem? (i := 1) (by decide +kernel))) (fun _ h9 => h9) (hfs_15) dX12_fine_1 ?_
  refine lv_iconst (v := (-1)) hx hb dX12_fine_4 (by decide) ?_
  refine lv_icmp_ne (tgt := 12) hx hb dX12_fine_5 (by decide) (fun _ => ?_) (fun c9 => absurd c9 (by decide))
  refine lv_iconst (v := 0) hx hb dX12_fine_12 (by decide) ?_
  have hP9 := hP.sub (ws' := [(h0, .inr (12, fs))]) [0] rfl
  have hD9 := hD.sub (ws' := [(h0, .inr (12, fs))]) [0] (by decide) rfl
  exact W.zret (v := 0) (ty := .boolean) hx hb hr rfl (fun t ht hW => ⟨⟨0, (), rfl, rfl, ⟨by rw [ht]; exact hP9, hD9⟩⟩, hS.F ht⟩) hS.2.2 dX12_fine_13
theorem dX12_here_0 : decode cX12_here 0 = .ok (.aload_n 0, 1) := by decide +kernel
theorem dX12_here_1 : decode cX12_here 1 = .ok (.getfield 288, 3) := by decide +kernel
theorem dX12_here_38 : decode cX12_here 38 = .ok (.aload_n 0, 1) := by decide +kernel
theorem dX12_here_39 : decode cX12_here 39 = .ok (.getfield 288, 3) := by decide +kernel
theorem dX12_here_4 : decode cX12_here 4 = .ok (.aload_n 0, 1) := by decide +kernel
theorem dX12_here_42 : decode cX12_here 42 = .ok (.aload_n 0, 1) := by decide +kernel
theorem dX12_here_43 : decode cX12_here 43 = .ok (.getfield 291, 3) := by decide +kernel
theorem dX12_here_46 : decode cX12_here 46 = .ok (.if_icmp .ge 15, 3) := by decide +kernel
theorem dX12_here_5 : decode cX12_here 5 = .ok (.getfield 291, 3) := by decide +kernel
theorem dX12_here_61 : decode cX12_here 61 = .ok (.iconst 0, 1) := by decide +kernel
theorem dX12_here_62 : decode cX12_here 62 = .ok (.ireturn, 1) := by decide +kernel
theorem dX12_here_8 : decode cX12_here 8 = .ok (.if_icmp .ge 30, 3) := by decide +kernel
set_option maxHeartbeats 4000000 in
set_option maxRecDepth 100000 in
theorem c_X12_here (l : Launch) (D : va_G) (cT : Nat → ClassId) (h0 : Nat) (fs : List Value) (sz : Nat) (hfs : fs.length = 109) (hfs_13 : fs[13]? = some (.int 0)) (hfs_14 : fs[14]? = some (.int 0)) : Met l yX12_here wsX12_here ({ frames := 8, cells := 0, slots := 0, locals := 160 }) (va_Pc [.ref h0] (PW D cT [(h0, .inr (12, fs))] sz)) (va_Qi (fun (r : Int32) (_ : Unit) => r = 0) (fun (_ : Unit) (t : State) => va_P D vwCl [(h0, .inr (12, fs))] t.heap ∧ va_D (va_A [(h0, .inr (12, fs))] sz) [(h0, .inr (12, fs))]) (va_A [(h0, .inr (12, fs))] sz)) 0 0 (va_A [(h0, .inr (12, fs))] sz) := by
  refine Met.ofW (cc := cX12_here) (maxL := 1) (ret := (some .int)) (by decide) rfl ?_
  intro p e s m args below meth c s₁ B hml hv
  obtain ⟨rfl, hsz, hP, hK, hD0, hG⟩ := hv
  have hx := B.exec
  have hb := B.bytes
  have hr := B.returns
  have hts := atoms_spec (ws := wsX12_here) B.pre
  have hown : s.vm.findClass RX12 = some m.cls := findClass_of_methodNamed B.named
  have hlocks := B.notSynchronized
  subst hsz
  have hD := hD0.self (sz := s.heap.size)
  generalize hAe : va_A [(h0, .inr (12, fs))] s.heap.size = A at hD ⊢
  have hA : ∀ q : Nat, s.heap.size ≤ q → A q := fun q h => by rw [← hAe]; exact Or.inr h
  have hS : va_S A s.heap s.heap [] := va_S.rf
  have hP : va_P D vwCl [(h0, .inr (12, fs))] s.heap := hP
  have hl := lv_entry ([.ref h0]) (n := 1) (Nat.le_of_ble_eq_true rfl)
  rw [lg_entry_eq]
  generalize (lg_sl ([.ref h0]) ++ List.replicate (1 - (lg_sl ([.ref h0])).length) Slot.unset).toArray = ls at hl ⊢
  have hl : lv_has ls 1 [(0, .ref h0)] := hl
  refine lv_aload_n hx hb dX12_here_0 rfl (lv_at hl 0 rfl) ?_
  refine va_get (D := D) (ci := 12) (v := .int 0) (C := RX12) (T := TX12) (N := 109) hx hb hts (fun _ h => List.mem_cons_of_mem _ (List.mem_append_right _ h)) hown hK hP 0 rfl rfl 14 (by decide) (hts (.fieldLink RX12 288 "PuppetFilmModel" "at" "I") (List.mem_of_getElem? (i := 1) (by decide +kernel))) (fun _ h9 => h9) (hfs_14) dX12_here_1 ?_
  refine lv_aload_n hx hb dX12_here_4 rfl (lv_at hl 0 rfl) ?_
  refine va_get (D := D) (ci := 12) (v := .int 0) (C := RX12) (T := TX12) (N := 109) hx hb hts (fun _ h => List.mem_cons_of_mem _ (List.mem_append_right _ h)) hown hK hP 0 rfl rfl 13 (by decide) (hts (.fieldLink RX12 291 "PuppetFilmModel" "size" "I") (List.mem_of_getElem? (i := 2) (by decide +kernel))) (fun _ h9 => h9) (hfs_13) dX12_here_5 ?_
  refine lv_icmp_ge (tgt := 38) hx hb dX12_here_8 (by decide) (fun _ => ?_) (fun c9 => absurd c9 (by decide))
  refine lv_aload_n hx hb dX12_here_38 rfl (lv_at hl 0 rfl) ?_
  refine va_get (D := D) (ci := 12) (v := .int 0) (C := RX12) (T := TX12) (N := 109) hx hb hts (fun _ h => List.mem_cons_of_mem _ (List.mem_append_right _ h)) hown hK hP 0 rfl rfl 14 (by decide) (hts (.fieldLink RX12 288 "PuppetFilmModel" "at" "I") (List.mem_of_getElem? (i := 1) (by decide +kernel))) (fun _ h9 => h9) (hfs_14) dX12_here_39 ?_
  refine lv_aload_n hx hb dX12_here_42 rfl (lv_at hl 0 rfl) ?_
  refine va_get (D := D) (ci := 12) (v := .int 0) (C := RX12) (T := TX12) (N := 109) hx hb hts (fun _ h => List.mem_cons_of_mem _ (List.mem_append_right _ h)) hown hK hP 0 rfl rfl 13 (by decide) (hts (.fieldLink RX12 291 "PuppetFilmModel" "size" "I") (List.mem_of_getElem? (i := 2) (by decide +kernel))) (fun _ h9 => h9) (hfs_13) dX12_here_43 ?_
  refine lv_icmp_ge (tgt := 61) hx hb dX12_here_46 (by decide) (fun _ => ?_) (fun c9 => absurd c9 (by decide))
  refine lv_iconst (v := 0) hx hb dX12_here_61 (by decide) ?_
  have hP9 := hP.sub (ws' := [(h0, .inr (12, fs))]) [0] rfl
  have hD9 := hD.sub (ws' := [(h0, .inr (12, fs))]) [0] (by decide) rfl
  exact W.iret (v := 0) hx hb hr (fun t ht hW => ⟨⟨0, (), rfl, rfl, ⟨by rw [ht]; exact hP9, hD9⟩⟩, hS.F ht⟩) hS.2.2 dX12_here_62
theorem dX12_isMore_0 : decode cX12_isMore 0 = .ok (.aload_n 0, 1) := by decide +kernel
theorem dX12_isMore_1 : decode cX12_isMore 1 = .ok (.invokevirtual 294, 3) := by decide +kernel
theorem dX12_isMore_10 : decode cX12_isMore 10 = .ok (.getfield 291, 3) := by decide +kernel
theorem dX12_isMore_13 : decode cX12_isMore 13 = .ok (.if_icmp .ge 7, 3) := by decide +kernel
theorem dX12_isMore_20 : decode cX12_isMore 20 = .ok (.iconst 0, 1) := by decide +kernel
theorem dX12_isMore_21 : decode cX12_isMore 21 = .ok (.ireturn, 1) := by decide +kernel
theorem dX12_isMore_4 : decode cX12_isMore 4 = .ok (.pop, 1) := by decide +kernel
theorem dX12_isMore_5 : decode cX12_isMore 5 = .ok (.aload_n 0, 1) := by decide +kernel
theorem dX12_isMore_6 : decode cX12_isMore 6 = .ok (.getfield 288, 3) := by decide +kernel
theorem dX12_isMore_9 : decode cX12_isMore 9 = .ok (.aload_n 0, 1) := by decide +kernel
set_option maxRecDepth 20000 in
theorem ggX12_isMore_X12_here : GoodIn wsX12_isMore wsX12_here := goodIn_r _ [7, 1, 2, 8, 9, 10, 11, 12, 13, 14, 15, 16, 17, 18, 19, 20, 21, 22, 23, 24, 25, 26, 27, 28, 29, 30, 31, 32, 33, 34, 35, 36, 37, 38, 39, 40, 41, 42, 43, 44, 45, 46, 47, 48, 49, 50, 51, 52, 53, 54, 55, 56, 57, 58, 59, 60, 61, 62, 63, 64, 65, 66, 67, 68, 69, 70, 71, 72, 73, 74, 75, 76, 77, 78, 79, 80, 81, 82, 83, 84, 85, 86, 87, 88, 89, 90, 91, 92, 93, 94, 95, 96, 97, 98, 99, 100, 101, 102, 103, 104, 105, 106, 107, 108, 109, 110, 111, 112, 113, 114, 115, 116, 117] (by decide +kernel) (by decide +kernel)
set_option maxRecDepth 20000 in
theorem gX12_isMore_X12_here : GoodIn wsX12_isMore (wsV RX12 294 RX12 yX12_here wsX12_here) := goodIn_app (goodIn_of _ (by decide +kernel)) ggX12_isMore_X12_here
set_option maxHeartbeats 4000000 in
set_option maxRecDepth 100000 in
theorem c_X12_isMore (l : Launch) (D : va_G) (cT : Nat → ClassId) (h0 : Nat) (fs : List Value) (sz : Nat) (hfs : fs.length = 109) (hfs_13 : fs[13]? = some (.int 0)) (hfs_14 : fs[14]? = some (.int 0)) : Met l yX12_isMore wsX12_isMore ({ frames := 9, cells := 0, slots := 0, locals := 220 }) (va_Pc [.ref h0] (PW D cT [(h0, .inr (12, fs))] sz)) (va_Qi (fun (r : Int32) (_ : Unit) => r = 0) (fun (_ : Unit) (t : State) => va_P D vwCl [(h0, .inr (12, fs))] t.heap ∧ va_D (va_A [(h0, .inr (12, fs))] sz) [(h0, .inr (12, fs))]) (va_A [(h0, .inr (12, fs))] sz)) 0 0 (va_A [(h0, .inr (12, fs))] sz) := by
  refine Met.ofW (cc := cX12_isMore) (maxL := 1) (ret := (some .boolean)) (by decide) rfl ?_
  intro p e s m args below meth c s₁ B hml hv
  obtain ⟨rfl, hsz, hP, hK, hD0, hG⟩ := hv
  have hx := B.exec
  have hb := B.bytes
  have hr := B.returns
  have hts := atoms_spec (ws := wsX12_isMore) B.pre
  have hown : s.vm.findClass RX12 = some m.cls := findClass_of_methodNamed B.named
  have hlocks := B.notSynchronized
  subst hsz
  have hD := hD0.self (sz := s.heap.size)
  generalize hAe : va_A [(h0, .inr (12, fs))] s.heap.size = A at hD ⊢
  have hA : ∀ q : Nat, s.heap.size ≤ q → A q := fun q h => by rw [← hAe]; exact Or.inr h
  have hS : va_S A s.heap s.heap [] := va_S.rf
  have hP : va_P D vwCl [(h0, .inr (12, fs))] s.heap := hP
  have hl := lv_entry ([.ref h0]) (n := 1) (Nat.le_of_ble_eq_true rfl)
  rw [lg_entry_eq]
  generalize (lg_sl ([.ref h0]) ++ List.replicate (1 - (lg_sl ([.ref h0])).length) Slot.unset).toArray = ls at hl ⊢
  have hl : lv_has ls 1 [(0, .ref h0)] := hl
  refine lv_aload_n hx hb dX12_isMore_0 rfl (lv_at hl 0 rfl) ?_
  have hF := va_free (wc := [(h0, .inr (12, fs))]) hD hS hA [0] rfl
  refine va_calli (va_runV (As := []) (rest := []) ⟨hx, hb, hml, hown, hts⟩ (c_X12_here l D cT h0 fs _ (hfs) (hfs_13) (hfs_14)) (cwV 0 hts gX12_isMore_X12_here rfl rfl rfl (by decide +kernel) ⟨Nat.le_of_ble_eq_true rfl, Nat.le_of_ble_eq_true rfl⟩) (pv_w hP hD hK hG [0] rfl rfl rfl 0 rfl rfl) rfl rfl hl.1 rfl (lv_room (Nat.le_of_ble_eq_true rfl)) dX12_isMore_1 ⟨Nat.le_of_ble_eq_true rfl, Nat.le_of_ble_eq_true rfl⟩) hS (fun q _ h => hF q h) hF (fun r_1 uu9 tt9 H locs ht hvm wr_1 hB hz1 hk1 hS => ?_)
  obtain ⟨hP1, hD1⟩ := hB
  rw [ht] at hP1
  obtain ⟨hP, hD⟩ := va_join (wr := []) (w1 := [(h0, .inr (12, fs))]) hP hD [0] [] rfl rfl (by decide) (by decide) hk1 hF hP1 hD1
  have hP : va_P D vwCl [(h0, .inr (12, fs))] _ := hP
  have hD : va_D A [(h0, .inr (12, fs))] := hD
  obtain rfl : r_1 = 0 := wr_1.trans (rfl)
  refine lv_pop hx hb dX12_isMore_4 rfl ?_
  refine lv_aload_n hx hb dX12_isMore_5 rfl (lv_at hl 0 rfl) ?_
  refine va_get (D := D) (ci := 12) (v := .int 0) (C := RX12) (T := TX12) (N := 109) hx hb hts (fun _ h => List.mem_cons_of_mem _ (List.mem_append_right _ h)) hown hK hP 0 rfl rfl 14 (by decide) (hts (.fieldLink RX12 288 "PuppetFilmModel" "at" "I") (List.mem_of_getElem? (i := 1) (by decide +kernel))) (fun _ h9 => h9) (hfs_14) dX12_isMore_6 ?_
  refine lv_aload_n hx hb dX12_isMore_9 rfl (lv_at hl 0 rfl) ?_
  refine va_get (D := D) (ci := 12) (v := .int 0) (C := RX12) (T := TX12) (N := 109) hx hb hts (fun _ h => List.mem_cons_of_mem _ (List.mem_append_right _ h)) hown hK hP 0 rfl rfl 13 (by decide) (hts (.fieldLink RX12 291 "PuppetFilmModel" "size" "I") (List.mem_of_getElem? (i := 2) (by decide +kernel))) (fun _ h9 => h9) (hfs_13) dX12_isMore_10 ?_
  refine lv_icmp_ge (tgt := 20) hx hb dX12_isMore_13 (by decide) (fun _ => ?_) (fun c9 => absurd c9 (by decide))
  refine lv_iconst (v := 0) hx hb dX12_isMore_20 (by decide) ?_
  have hP9 := hP.sub (ws' := [(h0, .inr (12, fs))]) [0] rfl
  have hD9 := hD.sub (ws' := [(h0, .inr (12, fs))]) [0] (by decide) rfl
  exact W.zret (v := 0) (ty := .boolean) hx hb hr rfl (fun t ht hW => ⟨⟨0, (), rfl, rfl, ⟨by rw [ht]; exact hP9, hD9⟩⟩, hS.F ht⟩) hS.2.2 dX12_isMore_21
theorem dX12_wrong_0 : decode cX12_wrong 0 = .ok (.aload_n 0, 1) := by decide +kernel
theorem dX12_wrong_1 : decode cX12_wrong 1 = .ok (.getfield 282, 3) := by decide +kernel
theorem dX12_wrong_10 : decode cX12_wrong 10 = .ok (.iload_n 2, 1) := by decide +kernel
theorem dX12_wrong_11 : decode cX12_wrong 11 = .ok (.putfield 282, 3) := by decide +kernel
theorem dX12_wrong_14 : decode cX12_wrong 14 = .ok (.aload_n 0, 1) := by decide +kernel
theorem dX12_wrong_15 : decode cX12_wrong 15 = .ok (.iload_n 1, 1) := by decide +kernel
theorem dX12_wrong_16 : decode cX12_wrong 16 = .ok (.putfield 285, 3) := by decide +kernel
theorem dX12_wrong_19 : decode cX12_wrong 19 = .ok (.return_, 1) := by decide +kernel
theorem dX12_wrong_4 : decode cX12_wrong 4 = .ok (.iconst (-1), 1) := by decide +kernel
theorem dX12_wrong_5 : decode cX12_wrong 5 = .ok (.if_icmp .eq 4, 3) := by decide +kernel
theorem dX12_wrong_9 : decode cX12_wrong 9 = .ok (.aload_n 0, 1) := by decide +kernel
set_option maxHeartbeats 4000000 in
set_option maxRecDepth 100000 in
theorem c_X12_wrong (l : Launch) (D : va_G) (cT : Nat → ClassId) (h0 : Nat) (p0 : Int32) (p1 : Int32) (fs : List Value) (sz : Nat) (hfs : fs.length = 109) (hfs_15 : fs[15]? = some (.int (-1))) : Met l yX12_wrong wsX12_wrong ({ frames := 8, cells := 0, slots := 0, locals := 160 }) (va_Pc [.ref h0, .int p0, .int p1] (PW D cT [(h0, .inr (12, fs))] sz)) (va_Qv (fun _ : Unit => True) (fun (_ : Unit) (t : State) => va_P D vwCl [(h0, .inr (12, ((fs.set 15 (.int p1)).set 16 (.int p0))))] t.heap ∧ va_D (va_A [(h0, .inr (12, fs))] sz) [(h0, .inr (12, ((fs.set 15 (.int p1)).set 16 (.int p0))))]) (va_A [(h0, .inr (12, fs))] sz)) 0 0 (va_A [(h0, .inr (12, fs))] sz) := by
  refine Met.ofW (cc := cX12_wrong) (maxL := 3) (ret := none) (by decide) rfl ?_
  intro p e s m args below meth c s₁ B hml hv
  obtain ⟨rfl, hsz, hP, hK, hD0, hG⟩ := hv
  have hx := B.exec
  have hb := B.bytes
  have hr := B.returns
  have hts := atoms_spec (ws := wsX12_wrong) B.pre
  have hown : s.vm.findClass RX12 = some m.cls := findClass_of_methodNamed B.named
  have hlocks := B.notSynchronized
  subst hsz
  have hD := hD0.self (sz := s.heap.size)
  generalize hAe : va_A [(h0, .inr (12, fs))] s.heap.size = A at hD ⊢
  have hA : ∀ q : Nat, s.heap.size ≤ q → A q := fun q h => by rw [← hAe]; exact Or.inr h
  have hS : va_S A s.heap s.heap [] := va_S.rf
  have hP : va_P D vwCl [(h0, .inr (12, fs))] s.heap := hP
  have hl := lv_entry ([.ref h0, .int p0, .int p1]) (n := 3) (Nat.le_of_ble_eq_true rfl)
  rw [lg_entry_eq]
  generalize (lg_sl ([.ref h0, .int p0, .int p1]) ++ List.replicate (3 - (lg_sl ([.ref h0, .int p0, .int p1])).length) Slot.unset).toArray = ls at hl ⊢
  have hl : lv_has ls 3 [(0, .ref h0), (1, .int p0), (2, .int p1)] := hl
  refine lv_aload_n hx hb dX12_wrong_0 rfl (lv_at hl 0 rfl) ?_
  refine va_get (D := D) (ci := 12) (v := .int (-1)) (C := RX12) (T := TX12) (N := 109) hx hb hts (fun _ h => List.mem_cons_of_mem _ (List.mem_append_right _ h)) hown hK hP 0 rfl rfl 15 (by decide) (hts (.fieldLink RX12 282 "PuppetFilmModel" "bad" "I") (List.mem_of_getElem? (i := 1) (by decide +kernel))) (fun _ h9 => h9) (hfs_15) dX12_wrong_1 ?_
  refine lv_iconst (v := (-1)) hx hb dX12_wrong_4 (by decide) ?_
  refine lv_icmp_eq (tgt := 9) hx hb dX12_wrong_5 (by decide) (fun _ => ?_) (fun c9 => absurd c9 (by decide))
  refine lv_aload_n hx hb dX12_wrong_9 rfl (lv_at hl 0 rfl) ?_
  refine lv_iload_n hx hb dX12_wrong_10 rfl (lv_at hl 2 rfl) ?_
  refine va_put (D := D) (ci := 12) (v := .int p1) (ty := .int) (C := RX12) (T := TX12) (N := 109) hx hb hts (fun _ h => List.mem_cons_of_mem _ (List.mem_append_right _ h)) tyX12 tyX12_ok nmX12 hown hK hP hD hS 0 rfl rfl 15 (by decide) (hts (.fieldLink RX12 282 "PuppetFilmModel" "bad" "I") (List.mem_of_getElem? (i := 1) (by decide +kernel))) (fun _ h9 => h9) rfl (by decide +kernel) rfl rfl (by simp only [List.length_set, hfs]; decide) dX12_wrong_11 (fun H locs hP hD hS => ?_)
  have hP : va_P D vwCl [(h0, .inr (12, (fs.set 15 (.int p1))))] _ := hP
  have hD : va_D A [(h0, .inr (12, (fs.set 15 (.int p1))))] := hD
  refine lv_aload_n hx hb dX12_wrong_14 rfl (lv_at hl 0 rfl) ?_
  refine lv_iload_n hx hb dX12_wrong_15 rfl (lv_at hl 1 rfl) ?_
  refine va_put (D := D) (ci := 12) (v := .int p0) (ty := .int) (C := RX12) (T := TX12) (N := 109) hx hb hts (fun _ h => List.mem_cons_of_mem _ (List.mem_append_right _ h)) tyX12 tyX12_ok nmX12 hown hK hP hD hS 0 rfl rfl 16 (by decide) (hts (.fieldLink RX12 285 "PuppetFilmModel" "badKind" "I") (List.mem_of_getElem? (i := 2) (by decide +kernel))) (fun _ h9 => h9) rfl (by decide +kernel) rfl rfl (by simp only [List.length_set, hfs]; decide) dX12_wrong_16 (fun H locs hP hD hS => ?_)
  have hP : va_P D vwCl [(h0, .inr (12, ((fs.set 15 (.int p1)).set 16 (.int p0))))] _ := hP
  have hD : va_D A [(h0, .inr (12, ((fs.set 15 (.int p1)).set 16 (.int p0))))] := hD
  have hP9 := hP.sub (ws' := [(h0, .inr (12, ((fs.set 15 (.int p1)).set 16 (.int p0))))]) [0] rfl
  have hD9 := hD.sub (ws' := [(h0, .inr (12, ((fs.set 15 (.int p1)).set 16 (.int p0))))]) [0] (by decide) rfl
  exact W.vret hx hb hr (fun t ht hW => ⟨⟨(), rfl, trivial, ⟨by rw [ht]; exact hP9, hD9⟩⟩, hS.F ht⟩) hS.2.2 dX12_wrong_19
theorem dX12_counts_0 : decode cX12_counts 0 = .ok (.lconst 0, 1) := by decide +kernel
theorem dX12_counts_1 : decode cX12_counts 1 = .ok (.lstore_n 3, 1) := by decide +kernel
theorem dX12_counts_10 : decode cX12_counts 10 = .ok (.iload_n 2, 1) := by decide +kernel
theorem dX12_counts_11 : decode cX12_counts 11 = .ok (.if_icmp .ge 114, 3) := by decide +kernel
theorem dX12_counts_125 : decode cX12_counts 125 = .ok (.aload_n 0, 1) := by decide +kernel
theorem dX12_counts_126 : decode cX12_counts 126 = .ok (.lload_n 3, 1) := by decide +kernel
theorem dX12_counts_127 : decode cX12_counts 127 = .ok (.putfield 389, 3) := by decide +kernel
theorem dX12_counts_130 : decode cX12_counts 130 = .ok (.aload_n 0, 1) := by decide +kernel
theorem dX12_counts_131 : decode cX12_counts 131 = .ok (.lload 5, 2) := by decide +kernel
theorem dX12_counts_133 : decode cX12_counts 133 = .ok (.putfield 393, 3) := by decide +kernel
theorem dX12_counts_136 : decode cX12_counts 136 = .ok (.return_, 1) := by decide +kernel
theorem dX12_counts_2 : decode cX12_counts 2 = .ok (.lconst 0, 1) := by decide +kernel
theorem dX12_counts_3 : decode cX12_counts 3 = .ok (.lstore 5, 2) := by decide +kernel
theorem dX12_counts_5 : decode cX12_counts 5 = .ok (.iload_n 1, 1) := by decide +kernel
theorem dX12_counts_6 : decode cX12_counts 6 = .ok (.istore 7, 2) := by decide +kernel
theorem dX12_counts_8 : decode cX12_counts 8 = .ok (.iload 7, 2) := by decide +kernel
set_option maxHeartbeats 4000000 in
set_option maxRecDepth 100000 in
theorem c_X12_counts (l : Launch) (D : va_G) (cT : Nat → ClassId) (h0 : Nat) (fs : List Value) (sz : Nat) (hfs : fs.length = 109) : Met l yX12_counts wsX12_counts ({ frames := 8, cells := 0, slots := 0, locals := 160 }) (va_Pc [.ref h0, .int 0, .int 0] (PW D cT [(h0, .inr (12, fs))] sz)) (va_Qv (fun _ : Unit => True) (fun (_ : Unit) (t : State) => va_P D vwCl [(h0, .inr (12, ((fs.set 36 (.long 0)).set 37 (.long 0))))] t.heap ∧ va_D (va_A [(h0, .inr (12, fs))] sz) [(h0, .inr (12, ((fs.set 36 (.long 0)).set 37 (.long 0))))]) (va_A [(h0, .inr (12, fs))] sz)) 0 0 (va_A [(h0, .inr (12, fs))] sz) := by
  refine Met.ofW (cc := cX12_counts) (maxL := 8) (ret := none) (by decide) rfl ?_
  intro p e s m args below meth c s₁ B hml hv
  obtain ⟨rfl, hsz, hP, hK, hD0, hG⟩ := hv
  have hx := B.exec
  have hb := B.bytes
  have hr := B.returns
  have hts := atoms_spec (ws := wsX12_counts) B.pre
  have hown : s.vm.findClass RX12 = some m.cls := findClass_of_methodNamed B.named
  have hlocks := B.notSynchronized
  subst hsz
  have hD := hD0.self (sz := s.heap.size)
  generalize hAe : va_A [(h0, .inr (12, fs))] s.heap.size = A at hD ⊢
  have hA : ∀ q : Nat, s.heap.size ≤ q → A q := fun q h => by rw [← hAe]; exact Or.inr h
  have hS : va_S A s.heap s.heap [] := va_S.rf
  have hP : va_P D vwCl [(h0, .inr (12, fs))] s.heap := hP
  have hl := lv_entry ([.ref h0, .int 0, .int 0]) (n := 8) (Nat.le_of_ble_eq_true rfl)
  rw [lg_entry_eq]
  generalize (lg_sl ([.ref h0, .int 0, .int 0]) ++ List.replicate (8 - (lg_sl ([.ref h0, .int 0, .int 0])).length) Slot.unset).toArray = ls at hl ⊢
  have hl : lv_has ls 8 [(0, .ref h0), (1, .int 0), (2, .int 0)] := hl
  refine lv_lconst (v := 0) hx hb dX12_counts_0 rfl ?_
  refine lv_lstore_n (lv' := [(3, .long 0), (0, .ref h0), (1, .int 0), (2, .int 0)]) hx hb dX12_counts_1 rfl hl (by decide) rfl (fun ls hl => ?_)
  refine lv_lconst (v := 0) hx hb dX12_counts_2 rfl ?_
  refine lv_lstore (lv' := [(5, .long 0), (3, .long 0), (0, .ref h0), (1, .int 0), (2, .int 0)]) hx hb dX12_counts_3 hl (by decide) rfl (fun ls hl => ?_)
  refine lv_iload_n hx hb dX12_counts_5 rfl (lv_at hl 3 rfl) ?_
  refine lv_istore (lv' := [(7, .int 0), (5, .long 0), (3, .long 0), (0, .ref h0), (1, .int 0), (2, .int 0)]) hx hb dX12_counts_6 hl (by decide) rfl (fun ls hl => ?_)
  refine lv_iload hx hb dX12_counts_8 (lv_at hl 0 rfl) ?_
  refine lv_iload_n hx hb dX12_counts_10 rfl (lv_at hl 5 rfl) ?_
  refine lv_icmp_ge (tgt := 125) hx hb dX12_counts_11 (by decide) (fun _ => ?_) (fun c9 => absurd c9 (by decide))
  refine lv_aload_n hx hb dX12_counts_125 rfl (lv_at hl 3 rfl) ?_
  refine lv_lload_n hx hb dX12_counts_126 rfl (lv_at hl 2 rfl) ?_
  refine va_put (D := D) (ci := 12) (v := .long 0) (ty := .long) (C := RX12) (T := TX12) (N := 109) hx hb hts (fun _ h => List.mem_cons_of_mem _ (List.mem_append_right _ h)) tyX12 tyX12_ok nmX12 hown hK hP hD hS 0 rfl rfl 36 (by decide) (hts (.fieldLink RX12 389 "PuppetFilmModel" "doneFrames" "J") (List.mem_of_getElem? (i := 4) (by decide +kernel))) (fun _ h9 => h9) rfl (by decide +kernel) rfl rfl (by simp only [List.length_set, hfs]; decide) dX12_counts_127 (fun H locs hP hD hS => ?_)
  have hP : va_P D vwCl [(h0, .inr (12, (fs.set 36 (.long 0))))] _ := hP
  have hD : va_D A [(h0, .inr (12, (fs.set 36 (.long 0))))] := hD
  refine lv_aload_n hx hb dX12_counts_130 rfl (lv_at hl 3 rfl) ?_
  refine lv_lload hx hb dX12_counts_131 (lv_at hl 1 rfl) ?_
  refine va_put (D := D) (ci := 12) (v := .long 0) (ty := .long) (C := RX12) (T := TX12) (N := 109) hx hb hts (fun _ h => List.mem_cons_of_mem _ (List.mem_append_right _ h)) tyX12 tyX12_ok nmX12 hown hK hP hD hS 0 rfl rfl 37 (by decide) (hts (.fieldLink RX12 393 "PuppetFilmModel" "doneSaid" "J") (List.mem_of_getElem? (i := 5) (by decide +kernel))) (fun _ h9 => h9) rfl (by decide +kernel) rfl rfl (by simp only [List.length_set, hfs]; decide) dX12_counts_133 (fun H locs hP hD hS => ?_)
  have hP : va_P D vwCl [(h0, .inr (12, ((fs.set 36 (.long 0)).set 37 (.long 0))))] _ := hP
  have hD : va_D A [(h0, .inr (12, ((fs.set 36 (.long 0)).set 37 (.long 0))))] := hD
  have hP9 := hP.sub (ws' := [(h0, .inr (12, ((fs.set 36 (.long 0)).set 37 (.long 0))))]) [0] rfl
  have hD9 := hD.sub (ws' := [(h0, .inr (12, ((fs.set 36 (.long 0)).set 37 (.long 0))))]) [0] (by decide) rfl
  exact W.vret hx hb hr (fun t ht hW => ⟨⟨(), rfl, trivial, ⟨by rw [ht]; exact hP9, hD9⟩⟩, hS.F ht⟩) hS.2.2 dX12_counts_136
theorem dX12_shot_0 : decode cX12_shot 0 = .ok (.aload_n 0, 1) := by decide +kernel
theorem dX12_shot_1 : decode cX12_shot 1 = .ok (.iconst 0, 1) := by decide +kernel
theorem dX12_shot_10 : decode cX12_shot 10 = .ok (.iload_n 1, 1) := by decide +kernel
theorem dX12_shot_100 : decode cX12_shot 100 = .ok (.invokevirtual 302, 3) := by decide +kernel
theorem dX12_shot_103 : decode cX12_shot 103 = .ok (.ifCond .eq 24, 3) := by decide +kernel
theorem dX12_shot_106 : decode cX12_shot 106 = .ok (.aload_n 0, 1) := by decide +kernel
theorem dX12_shot_107 : decode cX12_shot 107 = .ok (.invokevirtual 429, 3) := by decide +kernel
theorem dX12_shot_11 : decode cX12_shot 11 = .ok (.aload_n 0, 1) := by decide +kernel
theorem dX12_shot_110 : decode cX12_shot 110 = .ok (.ifCond .eq 17, 3) := by decide +kernel
theorem dX12_shot_12 : decode cX12_shot 12 = .ok (.getfield 279, 3) := by decide +kernel
theorem dX12_shot_127 : decode cX12_shot 127 = .ok (.aload_n 0, 1) := by decide +kernel
theorem dX12_shot_128 : decode cX12_shot 128 = .ok (.invokevirtual 302, 3) := by decide +kernel
theorem dX12_shot_131 : decode cX12_shot 131 = .ok (.ifCond .eq 52, 3) := by decide +kernel
theorem dX12_shot_134 : decode cX12_shot 134 = .ok (.aload_n 0, 1) := by decide +kernel
theorem dX12_shot_135 : decode cX12_shot 135 = .ok (.iconst 0, 1) := by decide +kernel
theorem dX12_shot_136 : decode cX12_shot 136 = .ok (.aload_n 0, 1) := by decide +kernel
theorem dX12_shot_137 : decode cX12_shot 137 = .ok (.getfield 368, 3) := by decide +kernel
theorem dX12_shot_140 : decode cX12_shot 140 = .ok (.invokevirtual 386, 3) := by decide +kernel
theorem dX12_shot_143 : decode cX12_shot 143 = .ok (.aload_n 0, 1) := by decide +kernel
theorem dX12_shot_144 : decode cX12_shot 144 = .ok (.getfield 389, 3) := by decide +kernel
theorem dX12_shot_147 : decode cX12_shot 147 = .ok (.lconst 1, 1) := by decide +kernel
theorem dX12_shot_148 : decode cX12_shot 148 = .ok (.lcmp, 1) := by decide +kernel
theorem dX12_shot_149 : decode cX12_shot 149 = .ok (.ifCond .lt 25, 3) := by decide +kernel
theorem dX12_shot_15 : decode cX12_shot 15 = .ok (.if_icmp .gt 7, 3) := by decide +kernel
theorem dX12_shot_174 : decode cX12_shot 174 = .ok (.aload_n 0, 1) := by decide +kernel
theorem dX12_shot_175 : decode cX12_shot 175 = .ok (.iconst 4, 1) := by decide +kernel
theorem dX12_shot_176 : decode cX12_shot 176 = .ok (.aload_n 0, 1) := by decide +kernel
theorem dX12_shot_177 : decode cX12_shot 177 = .ok (.getfield 291, 3) := by decide +kernel
theorem dX12_shot_18 : decode cX12_shot 18 = .ok (.iconst 1, 1) := by decide +kernel
theorem dX12_shot_180 : decode cX12_shot 180 = .ok (.invokevirtual 309, 3) := by decide +kernel
theorem dX12_shot_183 : decode cX12_shot 183 = .ok (.aload_n 0, 1) := by decide +kernel
theorem dX12_shot_184 : decode cX12_shot 184 = .ok (.aload_n 0, 1) := by decide +kernel
theorem dX12_shot_185 : decode cX12_shot 185 = .ok (.getfield 282, 3) := by decide +kernel
theorem dX12_shot_188 : decode cX12_shot 188 = .ok (.putfield 44, 3) := by decide +kernel
theorem dX12_shot_19 : decode cX12_shot 19 = .ok (.goto 4, 3) := by decide +kernel
theorem dX12_shot_191 : decode cX12_shot 191 = .ok (.aload_n 0, 1) := by decide +kernel
theorem dX12_shot_192 : decode cX12_shot 192 = .ok (.invokevirtual 302, 3) := by decide +kernel
theorem dX12_shot_195 : decode cX12_shot 195 = .ok (.ifCond .ne 11, 3) := by decide +kernel
theorem dX12_shot_198 : decode cX12_shot 198 = .ok (.aload_n 0, 1) := by decide +kernel
theorem dX12_shot_199 : decode cX12_shot 199 = .ok (.getfield 285, 3) := by decide +kernel
theorem dX12_shot_2 : decode cX12_shot 2 = .ok (.putfield 1, 3) := by decide +kernel
theorem dX12_shot_202 : decode cX12_shot 202 = .ok (.bipush 10, 2) := by decide +kernel
theorem dX12_shot_204 : decode cX12_shot 204 = .ok (.isub, 1) := by decide +kernel
theorem dX12_shot_205 : decode cX12_shot 205 = .ok (.ireturn, 1) := by decide +kernel
theorem dX12_shot_22 : decode cX12_shot 22 = .ok (.iconst 0, 1) := by decide +kernel
theorem dX12_shot_23 : decode cX12_shot 23 = .ok (.iconst 1, 1) := by decide +kernel
theorem dX12_shot_24 : decode cX12_shot 24 = .ok (.invokevirtual 271, 3) := by decide +kernel
theorem dX12_shot_27 : decode cX12_shot 27 = .ok (.ifCond .eq 25, 3) := by decide +kernel
theorem dX12_shot_30 : decode cX12_shot 30 = .ok (.aload_n 0, 1) := by decide +kernel
theorem dX12_shot_31 : decode cX12_shot 31 = .ok (.aload_n 0, 1) := by decide +kernel
theorem dX12_shot_32 : decode cX12_shot 32 = .ok (.getfield 398, 3) := by decide +kernel
theorem dX12_shot_35 : decode cX12_shot 35 = .ok (.bipush 12, 2) := by decide +kernel
theorem dX12_shot_37 : decode cX12_shot 37 = .ok (.if_icmp .ge 7, 3) := by decide +kernel
theorem dX12_shot_40 : decode cX12_shot 40 = .ok (.iconst 1, 1) := by decide +kernel
theorem dX12_shot_41 : decode cX12_shot 41 = .ok (.goto 4, 3) := by decide +kernel
theorem dX12_shot_45 : decode cX12_shot 45 = .ok (.iconst 2, 1) := by decide +kernel
theorem dX12_shot_46 : decode cX12_shot 46 = .ok (.invokevirtual 271, 3) := by decide +kernel
theorem dX12_shot_49 : decode cX12_shot 49 = .ok (.ifCond .ne 5, 3) := by decide +kernel
theorem dX12_shot_5 : decode cX12_shot 5 = .ok (.aload_n 0, 1) := by decide +kernel
theorem dX12_shot_52 : decode cX12_shot 52 = .ok (.iconst 0, 1) := by decide +kernel
theorem dX12_shot_53 : decode cX12_shot 53 = .ok (.ireturn, 1) := by decide +kernel
theorem dX12_shot_54 : decode cX12_shot 54 = .ok (.aload_n 0, 1) := by decide +kernel
theorem dX12_shot_55 : decode cX12_shot 55 = .ok (.iconst 0, 1) := by decide +kernel
theorem dX12_shot_56 : decode cX12_shot 56 = .ok (.putfield 279, 3) := by decide +kernel
theorem dX12_shot_59 : decode cX12_shot 59 = .ok (.aload_n 0, 1) := by decide +kernel
theorem dX12_shot_6 : decode cX12_shot 6 = .ok (.iload_n 1, 1) := by decide +kernel
theorem dX12_shot_60 : decode cX12_shot 60 = .ok (.iload_n 1, 1) := by decide +kernel
theorem dX12_shot_61 : decode cX12_shot 61 = .ok (.putfield 291, 3) := by decide +kernel
theorem dX12_shot_64 : decode cX12_shot 64 = .ok (.aload_n 0, 1) := by decide +kernel
theorem dX12_shot_65 : decode cX12_shot 65 = .ok (.iconst 0, 1) := by decide +kernel
theorem dX12_shot_66 : decode cX12_shot 66 = .ok (.putfield 288, 3) := by decide +kernel
theorem dX12_shot_69 : decode cX12_shot 69 = .ok (.aload_n 0, 1) := by decide +kernel
theorem dX12_shot_7 : decode cX12_shot 7 = .ok (.ifCond .lt 15, 3) := by decide +kernel
theorem dX12_shot_70 : decode cX12_shot 70 = .ok (.iconst (-1), 1) := by decide +kernel
theorem dX12_shot_71 : decode cX12_shot 71 = .ok (.putfield 282, 3) := by decide +kernel
theorem dX12_shot_74 : decode cX12_shot 74 = .ok (.aload_n 0, 1) := by decide +kernel
theorem dX12_shot_75 : decode cX12_shot 75 = .ok (.iconst 0, 1) := by decide +kernel
theorem dX12_shot_76 : decode cX12_shot 76 = .ok (.putfield 368, 3) := by decide +kernel
theorem dX12_shot_79 : decode cX12_shot 79 = .ok (.aload_n 0, 1) := by decide +kernel
theorem dX12_shot_80 : decode cX12_shot 80 = .ok (.iconst 0, 1) := by decide +kernel
theorem dX12_shot_81 : decode cX12_shot 81 = .ok (.putfield 332, 3) := by decide +kernel
theorem dX12_shot_84 : decode cX12_shot 84 = .ok (.aload_n 0, 1) := by decide +kernel
theorem dX12_shot_85 : decode cX12_shot 85 = .ok (.iconst 0, 1) := by decide +kernel
theorem dX12_shot_86 : decode cX12_shot 86 = .ok (.putfield 351, 3) := by decide +kernel
theorem dX12_shot_89 : decode cX12_shot 89 = .ok (.aload_n 0, 1) := by decide +kernel
theorem dX12_shot_90 : decode cX12_shot 90 = .ok (.iconst 0, 1) := by decide +kernel
theorem dX12_shot_91 : decode cX12_shot 91 = .ok (.putfield 325, 3) := by decide +kernel
theorem dX12_shot_94 : decode cX12_shot 94 = .ok (.aload_n 0, 1) := by decide +kernel
theorem dX12_shot_95 : decode cX12_shot 95 = .ok (.iconst 0, 1) := by decide +kernel
theorem dX12_shot_96 : decode cX12_shot 96 = .ok (.putfield 348, 3) := by decide +kernel
theorem dX12_shot_99 : decode cX12_shot 99 = .ok (.aload_n 0, 1) := by decide +kernel
set_option maxRecDepth 20000 in
theorem ggX12_shot_X12_counts : GoodIn wsX12_shot wsX12_counts := goodIn_r _ [146, 52, 53, 55, 12, 14, 143, 144, 145, 33, 178, 179, 180, 181, 182, 183, 184, 185, 186, 187, 188, 189, 190, 191, 192, 193, 194, 195, 196, 197, 198, 199, 200, 201, 202, 203, 204, 205, 206, 207, 208, 209, 210, 211, 212, 213, 214, 215, 216, 217, 218, 219, 220, 221, 222, 223, 224, 225, 226, 227, 228, 229, 230, 231, 232, 233, 234, 235, 236, 237, 238, 239, 240, 241, 242, 243, 244, 245, 246, 247, 248, 249, 250, 251, 252, 253, 254, 255, 256, 257, 258, 259, 260, 261, 262, 263, 264, 265, 266, 267, 268, 269, 270, 271, 272, 273, 274, 275, 276, 277, 278, 279, 280, 281, 282, 283, 284, 285, 286] (by decide +kernel) (by decide +kernel)
set_option maxRecDepth 20000 in
theorem gX12_shot_X12_counts : GoodIn wsX12_shot (wsV RX12 386 RX12 yX12_counts wsX12_counts) := goodIn_app (goodIn_of _ (by decide +kernel)) ggX12_shot_X12_counts
set_option maxRecDepth 20000 in
theorem ggX12_shot_X12_fine : GoodIn wsX12_shot wsX12_fine := goodIn_r _ [38, 6, 178, 179, 180, 181, 182, 183, 184, 185, 186, 187, 188, 189, 190, 191, 192, 193, 194, 195, 196, 197, 198, 199, 200, 201, 202, 203, 204, 205, 206, 207, 208, 209, 210, 211, 212, 213, 214, 215, 216, 217, 218, 219, 220, 221, 222, 223, 224, 225, 226, 227, 228, 229, 230, 231, 232, 233, 234, 235, 236, 237, 238, 239, 240, 241, 242, 243, 244, 245, 246, 247, 248, 249, 250, 251, 252, 253, 254, 255, 256, 257, 258, 259, 260, 261, 262, 263, 264, 265, 266, 267, 268, 269, 270, 271, 272, 273, 274, 275, 276, 277, 278, 279, 280, 281, 282, 283, 284, 285, 286] (by decide +kernel) (by decide +kernel)
set_option maxRecDepth 20000 in
theorem gX12_shot_X12_fine : GoodIn wsX12_shot (wsV RX12 302 RX12 yX12_fine wsX12_fine) := goodIn_app (goodIn_of _ (by decide +kernel)) ggX12_shot_X12_fine
set_option maxRecDepth 20000 in
theorem ggX12_shot_X12_isMore : GoodIn wsX12_shot wsX12_isMore := goodIn_r _ [42, 5, 4, 43, 44, 45, 33, 46, 47, 178, 179, 180, 181, 182, 183, 184, 185, 186, 187, 188, 189, 190, 191, 192, 193, 194, 195, 196, 197, 198, 199, 200, 201, 202, 203, 204, 205, 206, 207, 208, 209, 210, 211, 212, 213, 214, 215, 216, 217, 218, 219, 220, 221, 222, 223, 224, 225, 226, 227, 228, 229, 230, 231, 232, 233, 234, 235, 236, 237, 238, 239, 240, 241, 242, 243, 244, 245, 246, 247, 248, 249, 250, 251, 252, 253, 254, 255, 256, 257, 258, 259, 260, 261, 262, 263, 264, 265, 266, 267, 268, 269, 270, 271, 272, 273, 274, 275, 276, 277, 278, 279, 280, 281, 282, 283, 284, 285, 286] (by decide +kernel) (by decide +kernel)
set_option maxRecDepth 20000 in
theorem gX12_shot_X12_isMore : GoodIn wsX12_shot (wsV RX12 429 RX12 yX12_isMore wsX12_isMore) := goodIn_app (goodIn_of _ (by decide +kernel)) ggX12_shot_X12_isMore
set_option maxRecDepth 20000 in
theorem ggX12_shot_X12_may : GoodIn wsX12_shot wsX12_may := goodIn_r _ [34, 1, 178, 179, 180, 181, 182, 183, 184, 185, 186, 187, 188, 189, 190, 191, 192, 193, 194, 195, 196, 197, 198, 199, 200, 201, 202, 203, 204, 205, 206, 207, 208, 209, 210, 211, 212, 213, 214, 215, 216, 217, 218, 219, 220, 221, 222, 223, 224, 225, 226, 227, 228, 229, 230, 231, 232, 233, 234, 235, 236, 237, 238, 239, 240, 241, 242, 243, 244, 245, 246, 247, 248, 249, 250, 251, 252, 253, 254, 255, 256, 257, 258, 259, 260, 261, 262, 263, 264, 265, 266, 267, 268, 269, 270, 271, 272, 273, 274, 275, 276, 277, 278, 279, 280, 281, 282, 283, 284, 285, 286] (by decide +kernel) (by decide +kernel)
set_option maxRecDepth 20000 in
theorem gX12_shot_X12_may : GoodIn wsX12_shot (wsV RX12 271 RX12 yX12_may wsX12_may) := goodIn_app (goodIn_of _ (by decide +kernel)) ggX12_shot_X12_may
set_option maxRecDepth 20000 in
theorem ggX12_shot_X12_wrong : GoodIn wsX12_shot wsX12_wrong := goodIn_r _ [74, 6, 17, 178, 179, 180, 181, 182, 183, 184, 185, 186, 187, 188, 189, 190, 191, 192, 193, 194, 195, 196, 197, 198, 199, 200, 201, 202, 203, 204, 205, 206, 207, 208, 209, 210, 211, 212, 213, 214, 215, 216, 217, 218, 219, 220, 221, 222, 223, 224, 225, 226, 227, 228, 229, 230, 231, 232, 233, 234, 235, 236, 237, 238, 239, 240, 241, 242, 243, 244, 245, 246, 247, 248, 249, 250, 251, 252, 253, 254, 255, 256, 257, 258, 259, 260, 261, 262, 263, 264, 265, 266, 267, 268, 269, 270, 271, 272, 273, 274, 275, 276, 277, 278, 279, 280, 281, 282, 283, 284, 285, 286] (by decide +kernel) (by decide +kernel)
set_option maxRecDepth 20000 in
theorem gX12_shot_X12_wrong : GoodIn wsX12_shot (wsV RX12 309 RX12 yX12_wrong wsX12_wrong) := goodIn_app (goodIn_of _ (by decide +kernel)) ggX12_shot_X12_wrong
set_option maxHeartbeats 4000000 in
set_option maxRecDepth 100000 in
theorem c_X12_shot (l : Launch) (D : va_G) (cT : Nat → ClassId) (h0 : Nat) (p0 : Int32) (fs : List Value) (m_th : Int32) (sz : Nat) (hfs : fs.length = 109) (hfs_0 : fs[0]? = some (.int m_th)) (hfs_12 : fs[12]? = some (.int 0)) (hfs_38 : fs[38]? = some (.int 0)) : Met l yX12_shot wsX12_shot ({ frames := 10, cells := 0, slots := 0, locals := 280 }) (va_Pc [.ref h0, .int p0] (PW D cT [(h0, .inr (12, fs))] sz)) (va_Qi (fun (r : Int32) (_ : Unit) => th_shot p0 = 0 → r = -6) (fun (_ : Unit) (t : State) => ∃ (gs : List Value), ∃ (tt : Int32), (gs.length = 109) ∧ (gs[0]? = some (.int tt)) ∧ (tt = th_shot p0) ∧ va_P D vwCl [(h0, .inr (12, gs))] t.heap ∧ va_D (va_A [(h0, .inr (12, fs))] sz) [(h0, .inr (12, gs))]) (va_A [(h0, .inr (12, fs))] sz)) 0 0 (va_A [(h0, .inr (12, fs))] sz) := by
  refine Met.ofW (cc := cX12_shot) (maxL := 5) (ret := (some .int)) (by decide) rfl ?_
  intro p e s m args below meth c s₁ B hml hv
  obtain ⟨rfl, hsz, hP, hK, hD0, hG⟩ := hv
  have hx := B.exec
  have hb := B.bytes
  have hr := B.returns
  have hts := atoms_spec (ws := wsX12_shot) B.pre
  have hown : s.vm.findClass RX12 = some m.cls := findClass_of_methodNamed B.named
  have hlocks := B.notSynchronized
  subst hsz
  have hD := hD0.self (sz := s.heap.size)
  generalize hAe : va_A [(h0, .inr (12, fs))] s.heap.size = A at hD ⊢
  have hA : ∀ q : Nat, s.heap.size ≤ q → A q := fun q h => by rw [← hAe]; exact Or.inr h
  have hS : va_S A s.heap s.heap [] := va_S.rf
  have hP : va_P D vwCl [(h0, .inr (12, fs))] s.heap := hP
  have hl := lv_entry ([.ref h0, .int p0]) (n := 5) (Nat.le_of_ble_eq_true rfl)
  rw [lg_entry_eq]
  generalize (lg_sl ([.ref h0, .int p0]) ++ List.replicate (5 - (lg_sl ([.ref h0, .int p0])).length) Slot.unset).toArray = ls at hl ⊢
  have hl : lv_has ls 5 [(0, .ref h0), (1, .int p0)] := hl
  refine lv_aload_n hx hb dX12_shot_0 rfl (lv_at hl 0 rfl) ?_
  refine lv_iconst (v := 0) hx hb dX12_shot_1 (by decide) ?_
  refine va_put (D := D) (ci := 12) (v := .int 0) (ty := .int) (C := RX12) (T := TX12) (N := 109) hx hb hts (fun _ h => List.mem_cons_of_mem _ (List.mem_append_right _ h)) tyX12 tyX12_ok nmX12 hown hK hP hD hS 0 rfl rfl 0 (by decide) (hts (.fieldLink RX12 1 "PuppetFilmModel" "thrown" "I") (List.mem_of_getElem? (i := 1) (by decide +kernel))) (fun _ h9 => h9) rfl (by decide +kernel) rfl rfl (by simp only [List.length_set, hfs]; decide) dX12_shot_2 (fun H locs hP hD hS => ?_)
  have hP : va_P D vwCl [(h0, .inr (12, (fs.set 0 (.int 0))))] _ := hP
  have hD : va_D A [(h0, .inr (12, (fs.set 0 (.int 0))))] := hD
  refine lv_aload_n hx hb dX12_shot_5 rfl (lv_at hl 0 rfl) ?_
  refine lv_iload_n hx hb dX12_shot_6 rfl (lv_at hl 1 rfl) ?_
  refine lv_if_lt (tgt := 22) hx hb dX12_shot_7 (by decide) (fun c_1 => ?_) (fun c_1 => ?_)
  · refine lv_iconst (v := 0) hx hb dX12_shot_22 (by decide) ?_
    refine lv_iconst (v := 1) hx hb dX12_shot_23 (by decide) ?_
    have hF := va_free (wc := [(h0, .inr (12, (fs.set 0 (.int 0))))]) hD hS hA [0] rfl
    refine va_calli (va_runV (As := [.int 0, .int 1]) (rest := []) ⟨hx, hb, hml, hown, hts⟩ (c_X12_may_0_1 l D cT h0 (fs.set 0 (.int 0)) _ (by simp only [List.length_set]; exact hfs) (List.getElem?_set_self (by simp only [List.length_set, hfs]; decide))) (cwV 2 hts gX12_shot_X12_may rfl rfl rfl (by decide +kernel) ⟨Nat.le_of_ble_eq_true rfl, Nat.le_of_ble_eq_true rfl⟩) (pv_w hP hD hK hG [0] rfl rfl rfl 0 rfl rfl) rfl rfl hl.1 rfl (lv_room (Nat.le_of_ble_eq_true rfl)) dX12_shot_24 ⟨Nat.le_of_ble_eq_true rfl, Nat.le_of_ble_eq_true rfl⟩) hS (fun q _ h => hF q h) hF (fun r_2 uu9 tt9 H locs ht hvm wr_2 hB hz1 hk1 hS => ?_)
    obtain ⟨hP1, hD1⟩ := hB
    rw [ht] at hP1
    obtain ⟨hP, hD⟩ := va_join (wr := []) (w1 := [(h0, .inr (12, ((fs.set 0 (.int 0)).set 0 (.int 1))))]) hP hD [0] [] rfl rfl (by decide) (by decide) hk1 hF hP1 hD1
    have hP : va_P D vwCl [(h0, .inr (12, ((fs.set 0 (.int 0)).set 0 (.int 1))))] _ := hP
    have hD : va_D A [(h0, .inr (12, ((fs.set 0 (.int 0)).set 0 (.int 1))))] := hD
    obtain rfl : r_2 = 0 := wr_2.trans (rfl)
    refine lv_if_eq (tgt := 52) hx hb dX12_shot_27 (by decide) (fun _ => ?_) (fun c9 => absurd c9 (by decide))
    refine lv_iconst (v := 0) hx hb dX12_shot_52 (by decide) ?_
    have hP9 := hP.sub (ws' := [(h0, .inr (12, ((fs.set 0 (.int 0)).set 0 (.int 1))))]) [0] rfl
    have hD9 := hD.sub (ws' := [(h0, .inr (12, ((fs.set 0 (.int 0)).set 0 (.int 1))))]) [0] (by decide) rfl
    exact W.iret (v := 0) hx hb hr (fun t ht hW => ⟨⟨0, (), rfl, fun h => absurd h (by simp [th_shot, wi_l (i_nle c_1)]), ⟨((fs.set 0 (.int 0)).set 0 (.int 1)), 1, by simp only [List.length_set]; exact hfs, List.getElem?_set_self (by simp only [List.length_set, hfs]; decide), by simp [th_shot, wi_l (i_nle c_1)], by rw [ht]; exact hP9, hD9⟩⟩, hS.F ht⟩) hS.2.2 dX12_shot_53
  · refine lv_iload_n hx hb dX12_shot_10 rfl (lv_at hl 1 rfl) ?_
    refine lv_aload_n hx hb dX12_shot_11 rfl (lv_at hl 0 rfl) ?_
    refine va_get (D := D) (ci := 12) (v := .int 0) (C := RX12) (T := TX12) (N := 109) hx hb hts (fun _ h => List.mem_cons_of_mem _ (List.mem_append_right _ h)) hown hK hP 0 rfl rfl 12 (by decide) (hts (.fieldLink RX12 279 "PuppetFilmModel" "taped" "I") (List.mem_of_getElem? (i := 2) (by decide +kernel))) (fun _ h9 => h9) ((List.getElem?_set_ne (by decide)).trans (hfs_12)) dX12_shot_12 ?_
    refine lv_icmp_gt (tgt := 22) hx hb dX12_shot_15 (by decide) (fun c_3 => ?_) (fun c_3 => ?_)
    · refine lv_iconst (v := 0) hx hb dX12_shot_22 (by decide) ?_
      refine lv_iconst (v := 1) hx hb dX12_shot_23 (by decide) ?_
      have hF := va_free (wc := [(h0, .inr (12, (fs.set 0 (.int 0))))]) hD hS hA [0] rfl
      refine va_calli (va_runV (As := [.int 0, .int 1]) (rest := []) ⟨hx, hb, hml, hown, hts⟩ (c_X12_may_0_1 l D cT h0 (fs.set 0 (.int 0)) _ (by simp only [List.length_set]; exact hfs) (List.getElem?_set_self (by simp only [List.length_set, hfs]; decide))) (cwV 2 hts gX12_shot_X12_may rfl rfl rfl (by decide +kernel) ⟨Nat.le_of_ble_eq_true rfl, Nat.le_of_ble_eq_true rfl⟩) (pv_w hP hD hK hG [0] rfl rfl rfl 0 rfl rfl) rfl rfl hl.1 rfl (lv_room (Nat.le_of_ble_eq_true rfl)) dX12_shot_24 ⟨Nat.le_of_ble_eq_true rfl, Nat.le_of_ble_eq_true rfl⟩) hS (fun q _ h => hF q h) hF (fun r_4 uu9 tt9 H locs ht hvm wr_4 hB hz1 hk1 hS => ?_)
      obtain ⟨hP1, hD1⟩ := hB
      rw [ht] at hP1
      obtain ⟨hP, hD⟩ := va_join (wr := []) (w1 := [(h0, .inr (12, ((fs.set 0 (.int 0)).set 0 (.int 1))))]) hP hD [0] [] rfl rfl (by decide) (by decide) hk1 hF hP1 hD1
      have hP : va_P D vwCl [(h0, .inr (12, ((fs.set 0 (.int 0)).set 0 (.int 1))))] _ := hP
      have hD : va_D A [(h0, .inr (12, ((fs.set 0 (.int 0)).set 0 (.int 1))))] := hD
      obtain rfl : r_4 = 0 := wr_4.trans (rfl)
      refine lv_if_eq (tgt := 52) hx hb dX12_shot_27 (by decide) (fun _ => ?_) (fun c9 => absurd c9 (by decide))
      refine lv_iconst (v := 0) hx hb dX12_shot_52 (by decide) ?_
      have hP9 := hP.sub (ws' := [(h0, .inr (12, ((fs.set 0 (.int 0)).set 0 (.int 1))))]) [0] rfl
      have hD9 := hD.sub (ws' := [(h0, .inr (12, ((fs.set 0 (.int 0)).set 0 (.int 1))))]) [0] (by decide) rfl
      exact W.iret (v := 0) hx hb hr (fun t ht hW => ⟨⟨0, (), rfl, fun h => absurd h (by simp [th_shot, wi_h (i_nle c_3)]), ⟨((fs.set 0 (.int 0)).set 0 (.int 1)), 1, by simp only [List.length_set]; exact hfs, List.getElem?_set_self (by simp only [List.length_set, hfs]; decide), by simp [th_shot, wi_h (i_nle c_3)], by rw [ht]; exact hP9, hD9⟩⟩, hS.F ht⟩) hS.2.2 dX12_shot_53
    · obtain rfl : p0 = 0 := Int32.le_antisymm (i_ge c_3) (i_ge c_1)
      refine lv_iconst (v := 1) hx hb dX12_shot_18 (by decide) ?_
      refine lv_goto (tgt := 23) hx hb dX12_shot_19 (by decide) ?_
      refine lv_iconst (v := 1) hx hb dX12_shot_23 (by decide) ?_
      have hF := va_free (wc := [(h0, .inr (12, (fs.set 0 (.int 0))))]) hD hS hA [0] rfl
      refine va_calli (va_runV (As := [.int 1, .int 1]) (rest := []) ⟨hx, hb, hml, hown, hts⟩ (c_X12_may_1 l D cT h0 1 (fs.set 0 (.int 0)) _ (by simp only [List.length_set]; exact hfs) (List.getElem?_set_self (by simp only [List.length_set, hfs]; decide))) (cwV 2 hts gX12_shot_X12_may rfl rfl rfl (by decide +kernel) ⟨Nat.le_of_ble_eq_true rfl, Nat.le_of_ble_eq_true rfl⟩) (pv_w hP hD hK hG [0] rfl rfl rfl 0 rfl rfl) rfl rfl hl.1 rfl (lv_room (Nat.le_of_ble_eq_true rfl)) dX12_shot_24 ⟨Nat.le_of_ble_eq_true rfl, Nat.le_of_ble_eq_true rfl⟩) hS (fun q _ h => hF q h) hF (fun r_5 uu9 tt9 H locs ht hvm wr_5 hB hz1 hk1 hS => ?_)
      obtain ⟨hP1, hD1⟩ := hB
      rw [ht] at hP1
      obtain ⟨hP, hD⟩ := va_join (wr := []) (w1 := [(h0, .inr (12, (fs.set 0 (.int 0))))]) hP hD [0] [] rfl rfl (by decide) (by decide) hk1 hF hP1 hD1
      have hP : va_P D vwCl [(h0, .inr (12, (fs.set 0 (.int 0))))] _ := hP
      have hD : va_D A [(h0, .inr (12, (fs.set 0 (.int 0))))] := hD
      obtain rfl : r_5 = 1 := wr_5.trans (rfl)
      refine lv_if_eq (tgt := 52) hx hb dX12_shot_27 (by decide) (fun c9 => absurd c9 (by decide)) (fun _ => ?_)
      refine lv_aload_n hx hb dX12_shot_30 rfl (lv_at hl 0 rfl) ?_
      refine lv_aload_n hx hb dX12_shot_31 rfl (lv_at hl 0 rfl) ?_
      refine va_get (D := D) (ci := 12) (v := .int 0) (C := RX12) (T := TX12) (N := 109) hx hb hts (fun _ h => List.mem_cons_of_mem _ (List.mem_append_right _ h)) hown hK hP 0 rfl rfl 38 (by decide) (hts (.fieldLink RX12 398 "PuppetFilmModel" "shots" "I") (List.mem_of_getElem? (i := 3) (by decide +kernel))) (fun _ h9 => h9) ((List.getElem?_set_ne (by decide)).trans (hfs_38)) dX12_shot_32 ?_
      refine lv_bipush (v := 12) hx hb dX12_shot_35 (by decide) ?_
      refine lv_icmp_ge (tgt := 44) hx hb dX12_shot_37 (by decide) (fun c9 => absurd c9 (by decide)) (fun _ => ?_)
      refine lv_iconst (v := 1) hx hb dX12_shot_40 (by decide) ?_
      refine lv_goto (tgt := 45) hx hb dX12_shot_41 (by decide) ?_
      refine lv_iconst (v := 2) hx hb dX12_shot_45 (by decide) ?_
      have hF := va_free (wc := [(h0, .inr (12, (fs.set 0 (.int 0))))]) hD hS hA [0] rfl
      refine va_calli (va_runV (As := [.int 1, .int 2]) (rest := []) ⟨hx, hb, hml, hown, hts⟩ (c_X12_may_1 l D cT h0 2 (fs.set 0 (.int 0)) _ (by simp only [List.length_set]; exact hfs) (List.getElem?_set_self (by simp only [List.length_set, hfs]; decide))) (cwV 2 hts gX12_shot_X12_may rfl rfl rfl (by decide +kernel) ⟨Nat.le_of_ble_eq_true rfl, Nat.le_of_ble_eq_true rfl⟩) (pv_w hP hD hK hG [0] rfl rfl rfl 0 rfl rfl) rfl rfl hl.1 rfl (lv_room (Nat.le_of_ble_eq_true rfl)) dX12_shot_46 ⟨Nat.le_of_ble_eq_true rfl, Nat.le_of_ble_eq_true rfl⟩) hS (fun q _ h => hF q h) hF (fun r_6 uu9 tt9 H locs ht hvm wr_6 hB hz1 hk1 hS => ?_)
      obtain ⟨hP1, hD1⟩ := hB
      rw [ht] at hP1
      obtain ⟨hP, hD⟩ := va_join (wr := []) (w1 := [(h0, .inr (12, (fs.set 0 (.int 0))))]) hP hD [0] [] rfl rfl (by decide) (by decide) hk1 hF hP1 hD1
      have hP : va_P D vwCl [(h0, .inr (12, (fs.set 0 (.int 0))))] _ := hP
      have hD : va_D A [(h0, .inr (12, (fs.set 0 (.int 0))))] := hD
      obtain rfl : r_6 = 1 := wr_6.trans (rfl)
      refine lv_if_ne (tgt := 54) hx hb dX12_shot_49 (by decide) (fun _ => ?_) (fun c9 => absurd c9 (by decide))
      refine lv_aload_n hx hb dX12_shot_54 rfl (lv_at hl 0 rfl) ?_
      refine lv_iconst (v := 0) hx hb dX12_shot_55 (by decide) ?_
      refine va_put (D := D) (ci := 12) (v := .int 0) (ty := .int) (C := RX12) (T := TX12) (N := 109) hx hb hts (fun _ h => List.mem_cons_of_mem _ (List.mem_append_right _ h)) tyX12 tyX12_ok nmX12 hown hK hP hD hS 0 rfl rfl 12 (by decide) (hts (.fieldLink RX12 279 "PuppetFilmModel" "taped" "I") (List.mem_of_getElem? (i := 2) (by decide +kernel))) (fun _ h9 => h9) rfl (by decide +kernel) rfl rfl (by simp only [List.length_set, hfs]; decide) dX12_shot_56 (fun H locs hP hD hS => ?_)
      have hP : va_P D vwCl [(h0, .inr (12, ((fs.set 0 (.int 0)).set 12 (.int 0))))] _ := hP
      have hD : va_D A [(h0, .inr (12, ((fs.set 0 (.int 0)).set 12 (.int 0))))] := hD
      refine lv_aload_n hx hb dX12_shot_59 rfl (lv_at hl 0 rfl) ?_
      refine lv_iload_n hx hb dX12_shot_60 rfl (lv_at hl 1 rfl) ?_
      refine va_put (D := D) (ci := 12) (v := .int 0) (ty := .int) (C := RX12) (T := TX12) (N := 109) hx hb hts (fun _ h => List.mem_cons_of_mem _ (List.mem_append_right _ h)) tyX12 tyX12_ok nmX12 hown hK hP hD hS 0 rfl rfl 13 (by decide) (hts (.fieldLink RX12 291 "PuppetFilmModel" "size" "I") (List.mem_of_getElem? (i := 4) (by decide +kernel))) (fun _ h9 => h9) rfl (by decide +kernel) rfl rfl (by simp only [List.length_set, hfs]; decide) dX12_shot_61 (fun H locs hP hD hS => ?_)
      have hP : va_P D vwCl [(h0, .inr (12, (((fs.set 0 (.int 0)).set 12 (.int 0)).set 13 (.int 0))))] _ := hP
      have hD : va_D A [(h0, .inr (12, (((fs.set 0 (.int 0)).set 12 (.int 0)).set 13 (.int 0))))] := hD
      refine lv_aload_n hx hb dX12_shot_64 rfl (lv_at hl 0 rfl) ?_
      refine lv_iconst (v := 0) hx hb dX12_shot_65 (by decide) ?_
      refine va_put (D := D) (ci := 12) (v := .int 0) (ty := .int) (C := RX12) (T := TX12) (N := 109) hx hb hts (fun _ h => List.mem_cons_of_mem _ (List.mem_append_right _ h)) tyX12 tyX12_ok nmX12 hown hK hP hD hS 0 rfl rfl 14 (by decide) (hts (.fieldLink RX12 288 "PuppetFilmModel" "at" "I") (List.mem_of_getElem? (i := 5) (by decide +kernel))) (fun _ h9 => h9) rfl (by decide +kernel) rfl rfl (by simp only [List.length_set, hfs]; decide) dX12_shot_66 (fun H locs hP hD hS => ?_)
      have hP : va_P D vwCl [(h0, .inr (12, ((((fs.set 0 (.int 0)).set 12 (.int 0)).set 13 (.int 0)).set 14 (.int 0))))] _ := hP
      have hD : va_D A [(h0, .inr (12, ((((fs.set 0 (.int 0)).set 12 (.int 0)).set 13 (.int 0)).set 14 (.int 0))))] := hD
      refine lv_aload_n hx hb dX12_shot_69 rfl (lv_at hl 0 rfl) ?_
      refine lv_iconst (v := (-1)) hx hb dX12_shot_70 (by decide) ?_
      refine va_put (D := D) (ci := 12) (v := .int (-1)) (ty := .int) (C := RX12) (T := TX12) (N := 109) hx hb hts (fun _ h => List.mem_cons_of_mem _ (List.mem_append_right _ h)) tyX12 tyX12_ok nmX12 hown hK hP hD hS 0 rfl rfl 15 (by decide) (hts (.fieldLink RX12 282 "PuppetFilmModel" "bad" "I") (List.mem_of_getElem? (i := 6) (by decide +kernel))) (fun _ h9 => h9) rfl (by decide +kernel) rfl rfl (by simp only [List.length_set, hfs]; decide) dX12_shot_71 (fun H locs hP hD hS => ?_)
      have hP : va_P D vwCl [(h0, .inr (12, (((((fs.set 0 (.int 0)).set 12 (.int 0)).set 13 (.int 0)).set 14 (.int 0)).set 15 (.int (-1)))))] _ := hP
      have hD : va_D A [(h0, .inr (12, (((((fs.set 0 (.int 0)).set 12 (.int 0)).set 13 (.int 0)).set 14 (.int 0)).set 15 (.int (-1)))))] := hD
      refine lv_aload_n hx hb dX12_shot_74 rfl (lv_at hl 0 rfl) ?_
      refine lv_iconst (v := 0) hx hb dX12_shot_75 (by decide) ?_
      refine va_put (D := D) (ci := 12) (v := .int 0) (ty := .int) (C := RX12) (T := TX12) (N := 109) hx hb hts (fun _ h => List.mem_cons_of_mem _ (List.mem_append_right _ h)) tyX12 tyX12_ok nmX12 hown hK hP hD hS 0 rfl rfl 17 (by decide) (hts (.fieldLink RX12 368 "PuppetFilmModel" "said" "I") (List.mem_of_getElem? (i := 7) (by decide +kernel))) (fun _ h9 => h9) rfl (by decide +kernel) rfl rfl (by simp only [List.length_set, hfs]; decide) dX12_shot_76 (fun H locs hP hD hS => ?_)
      have hP : va_P D vwCl [(h0, .inr (12, ((((((fs.set 0 (.int 0)).set 12 (.int 0)).set 13 (.int 0)).set 14 (.int 0)).set 15 (.int (-1))).set 17 (.int 0))))] _ := hP
      have hD : va_D A [(h0, .inr (12, ((((((fs.set 0 (.int 0)).set 12 (.int 0)).set 13 (.int 0)).set 14 (.int 0)).set 15 (.int (-1))).set 17 (.int 0))))] := hD
      refine lv_aload_n hx hb dX12_shot_79 rfl (lv_at hl 0 rfl) ?_
      refine lv_iconst (v := 0) hx hb dX12_shot_80 (by decide) ?_
      refine va_put (D := D) (ci := 12) (v := .int 0) (ty := .int) (C := RX12) (T := TX12) (N := 109) hx hb hts (fun _ h => List.mem_cons_of_mem _ (List.mem_append_right _ h)) tyX12 tyX12_ok nmX12 hown hK hP hD hS 0 rfl rfl 18 (by decide) (hts (.fieldLink RX12 332 "PuppetFilmModel" "acts" "I") (List.mem_of_getElem? (i := 8) (by decide +kernel))) (fun _ h9 => h9) rfl (by decide +kernel) rfl rfl (by simp only [List.length_set, hfs]; decide) dX12_shot_81 (fun H locs hP hD hS => ?_)
      have hP : va_P D vwCl [(h0, .inr (12, (((((((fs.set 0 (.int 0)).set 12 (.int 0)).set 13 (.int 0)).set 14 (.int 0)).set 15 (.int (-1))).set 17 (.int 0)).set 18 (.int 0))))] _ := hP
      have hD : va_D A [(h0, .inr (12, (((((((fs.set 0 (.int 0)).set 12 (.int 0)).set 13 (.int 0)).set 14 (.int 0)).set 15 (.int (-1))).set 17 (.int 0)).set 18 (.int 0))))] := hD
      refine lv_aload_n hx hb dX12_shot_84 rfl (lv_at hl 0 rfl) ?_
      refine lv_iconst (v := 0) hx hb dX12_shot_85 (by decide) ?_
      refine va_put (D := D) (ci := 12) (v := .int 0) (ty := .int) (C := RX12) (T := TX12) (N := 109) hx hb hts (fun _ h => List.mem_cons_of_mem _ (List.mem_append_right _ h)) tyX12 tyX12_ok nmX12 hown hK hP hD hS 0 rfl rfl 19 (by decide) (hts (.fieldLink RX12 351 "PuppetFilmModel" "letters" "I") (List.mem_of_getElem? (i := 9) (by decide +kernel))) (fun _ h9 => h9) rfl (by decide +kernel) rfl rfl (by simp only [List.length_set, hfs]; decide) dX12_shot_86 (fun H locs hP hD hS => ?_)
      have hP : va_P D vwCl [(h0, .inr (12, ((((((((fs.set 0 (.int 0)).set 12 (.int 0)).set 13 (.int 0)).set 14 (.int 0)).set 15 (.int (-1))).set 17 (.int 0)).set 18 (.int 0)).set 19 (.int 0))))] _ := hP
      have hD : va_D A [(h0, .inr (12, ((((((((fs.set 0 (.int 0)).set 12 (.int 0)).set 13 (.int 0)).set 14 (.int 0)).set 15 (.int (-1))).set 17 (.int 0)).set 18 (.int 0)).set 19 (.int 0))))] := hD
      refine lv_aload_n hx hb dX12_shot_89 rfl (lv_at hl 0 rfl) ?_
      refine lv_iconst (v := 0) hx hb dX12_shot_90 (by decide) ?_
      refine va_put (D := D) (ci := 12) (v := .int 0) (ty := .int) (C := RX12) (T := TX12) (N := 109) hx hb hts (fun _ h => List.mem_cons_of_mem _ (List.mem_append_right _ h)) tyX12 tyX12_ok nmX12 hown hK hP hD hS 0 rfl rfl 34 (by decide) (hts (.fieldLink RX12 325 "PuppetFilmModel" "named" "I") (List.mem_of_getElem? (i := 10) (by decide +kernel))) (fun _ h9 => h9) rfl (by decide +kernel) rfl rfl (by simp only [List.length_set, hfs]; decide) dX12_shot_91 (fun H locs hP hD hS => ?_)
      have hP : va_P D vwCl [(h0, .inr (12, (((((((((fs.set 0 (.int 0)).set 12 (.int 0)).set 13 (.int 0)).set 14 (.int 0)).set 15 (.int (-1))).set 17 (.int 0)).set 18 (.int 0)).set 19 (.int 0)).set 34 (.int 0))))] _ := hP
      have hD : va_D A [(h0, .inr (12, (((((((((fs.set 0 (.int 0)).set 12 (.int 0)).set 13 (.int 0)).set 14 (.int 0)).set 15 (.int (-1))).set 17 (.int 0)).set 18 (.int 0)).set 19 (.int 0)).set 34 (.int 0))))] := hD
      refine lv_aload_n hx hb dX12_shot_94 rfl (lv_at hl 0 rfl) ?_
      refine lv_iconst (v := 0) hx hb dX12_shot_95 (by decide) ?_
      refine va_put (D := D) (ci := 12) (v := .int 0) (ty := .int) (C := RX12) (T := TX12) (N := 109) hx hb hts (fun _ h => List.mem_cons_of_mem _ (List.mem_append_right _ h)) tyX12 tyX12_ok nmX12 hown hK hP hD hS 0 rfl rfl 35 (by decide) (hts (.fieldLink RX12 348 "PuppetFilmModel" "speaks" "I") (List.mem_of_getElem? (i := 11) (by decide +kernel))) (fun _ h9 => h9) rfl (by decide +kernel) rfl rfl (by simp only [List.length_set, hfs]; decide) dX12_shot_96 (fun H locs hP hD hS => ?_)
      have hP : va_P D vwCl [(h0, .inr (12, ((((((((((fs.set 0 (.int 0)).set 12 (.int 0)).set 13 (.int 0)).set 14 (.int 0)).set 15 (.int (-1))).set 17 (.int 0)).set 18 (.int 0)).set 19 (.int 0)).set 34 (.int 0)).set 35 (.int 0))))] _ := hP
      have hD : va_D A [(h0, .inr (12, ((((((((((fs.set 0 (.int 0)).set 12 (.int 0)).set 13 (.int 0)).set 14 (.int 0)).set 15 (.int (-1))).set 17 (.int 0)).set 18 (.int 0)).set 19 (.int 0)).set 34 (.int 0)).set 35 (.int 0))))] := hD
      refine lv_aload_n hx hb dX12_shot_99 rfl (lv_at hl 0 rfl) ?_
      have hF := va_free (wc := [(h0, .inr (12, ((((((((((fs.set 0 (.int 0)).set 12 (.int 0)).set 13 (.int 0)).set 14 (.int 0)).set 15 (.int (-1))).set 17 (.int 0)).set 18 (.int 0)).set 19 (.int 0)).set 34 (.int 0)).set 35 (.int 0))))]) hD hS hA [0] rfl
      refine va_calli (va_runV (As := []) (rest := []) ⟨hx, hb, hml, hown, hts⟩ (c_X12_fine_1 l D cT h0 ((((((((((fs.set 0 (.int 0)).set 12 (.int 0)).set 13 (.int 0)).set 14 (.int 0)).set 15 (.int (-1))).set 17 (.int 0)).set 18 (.int 0)).set 19 (.int 0)).set 34 (.int 0)).set 35 (.int 0)) _ (by simp only [List.length_set]; exact hfs) ((List.getElem?_set_ne (by decide)).trans ((List.getElem?_set_ne (by decide)).trans ((List.getElem?_set_ne (by decide)).trans ((List.getElem?_set_ne (by decide)).trans ((List.getElem?_set_ne (by decide)).trans (List.getElem?_set_self (by simp only [List.length_set, hfs]; decide)))))))) (cwV 0 hts gX12_shot_X12_fine rfl rfl rfl (by decide +kernel) ⟨Nat.le_of_ble_eq_true rfl, Nat.le_of_ble_eq_true rfl⟩) (pv_w hP hD hK hG [0] rfl rfl rfl 0 rfl rfl) rfl rfl hl.1 rfl (lv_room (Nat.le_of_ble_eq_true rfl)) dX12_shot_100 ⟨Nat.le_of_ble_eq_true rfl, Nat.le_of_ble_eq_true rfl⟩) hS (fun q _ h => hF q h) hF (fun r_7 uu9 tt9 H locs ht hvm wr_7 hB hz1 hk1 hS => ?_)
      obtain ⟨hP1, hD1⟩ := hB
      rw [ht] at hP1
      obtain ⟨hP, hD⟩ := va_join (wr := []) (w1 := [(h0, .inr (12, ((((((((((fs.set 0 (.int 0)).set 12 (.int 0)).set 13 (.int 0)).set 14 (.int 0)).set 15 (.int (-1))).set 17 (.int 0)).set 18 (.int 0)).set 19 (.int 0)).set 34 (.int 0)).set 35 (.int 0))))]) hP hD [0] [] rfl rfl (by decide) (by decide) hk1 hF hP1 hD1
      have hP : va_P D vwCl [(h0, .inr (12, ((((((((((fs.set 0 (.int 0)).set 12 (.int 0)).set 13 (.int 0)).set 14 (.int 0)).set 15 (.int (-1))).set 17 (.int 0)).set 18 (.int 0)).set 19 (.int 0)).set 34 (.int 0)).set 35 (.int 0))))] _ := hP
      have hD : va_D A [(h0, .inr (12, ((((((((((fs.set 0 (.int 0)).set 12 (.int 0)).set 13 (.int 0)).set 14 (.int 0)).set 15 (.int (-1))).set 17 (.int 0)).set 18 (.int 0)).set 19 (.int 0)).set 34 (.int 0)).set 35 (.int 0))))] := hD
      obtain rfl : r_7 = 1 := wr_7.trans (rfl)
      refine lv_if_eq (tgt := 127) hx hb dX12_shot_103 (by decide) (fun c9 => absurd c9 (by decide)) (fun _ => ?_)
      refine lv_aload_n hx hb dX12_shot_106 rfl (lv_at hl 0 rfl) ?_
      have hF := va_free (wc := [(h0, .inr (12, ((((((((((fs.set 0 (.int 0)).set 12 (.int 0)).set 13 (.int 0)).set 14 (.int 0)).set 15 (.int (-1))).set 17 (.int 0)).set 18 (.int 0)).set 19 (.int 0)).set 34 (.int 0)).set 35 (.int 0))))]) hD hS hA [0] rfl
      refine va_calli (va_runV (As := []) (rest := []) ⟨hx, hb, hml, hown, hts⟩ (c_X12_isMore l D cT h0 ((((((((((fs.set 0 (.int 0)).set 12 (.int 0)).set 13 (.int 0)).set 14 (.int 0)).set 15 (.int (-1))).set 17 (.int 0)).set 18 (.int 0)).set 19 (.int 0)).set 34 (.int 0)).set 35 (.int 0)) _ (by simp only [List.length_set]; exact hfs) ((List.getElem?_set_ne (by decide)).trans ((List.getElem?_set_ne (by decide)).trans ((List.getElem?_set_ne (by decide)).trans ((List.getElem?_set_ne (by decide)).trans ((List.getElem?_set_ne (by decide)).trans ((List.getElem?_set_ne (by decide)).trans ((List.getElem?_set_ne (by decide)).trans (List.getElem?_set_self (by simp only [List.length_set, hfs]; decide))))))))) ((List.getElem?_set_ne (by decide)).trans ((List.getElem?_set_ne (by decide)).trans ((List.getElem?_set_ne (by decide)).trans ((List.getElem?_set_ne (by decide)).trans ((List.getElem?_set_ne (by decide)).trans ((List.getElem?_set_ne (by decide)).trans (List.getElem?_set_self (by simp only [List.length_set, hfs]; decide))))))))) (cwV 0 hts gX12_shot_X12_isMore rfl rfl rfl (by decide +kernel) ⟨Nat.le_of_ble_eq_true rfl, Nat.le_of_ble_eq_true rfl⟩) (pv_w hP hD hK hG [0] rfl rfl rfl 0 rfl rfl) rfl rfl hl.1 rfl (lv_room (Nat.le_of_ble_eq_true rfl)) dX12_shot_107 ⟨Nat.le_of_ble_eq_true rfl, Nat.le_of_ble_eq_true rfl⟩) hS (fun q _ h => hF q h) hF (fun r_8 uu9 tt9 H locs ht hvm wr_8 hB hz1 hk1 hS => ?_)
      obtain ⟨hP1, hD1⟩ := hB
      rw [ht] at hP1
      obtain ⟨hP, hD⟩ := va_join (wr := []) (w1 := [(h0, .inr (12, ((((((((((fs.set 0 (.int 0)).set 12 (.int 0)).set 13 (.int 0)).set 14 (.int 0)).set 15 (.int (-1))).set 17 (.int 0)).set 18 (.int 0)).set 19 (.int 0)).set 34 (.int 0)).set 35 (.int 0))))]) hP hD [0] [] rfl rfl (by decide) (by decide) hk1 hF hP1 hD1
      have hP : va_P D vwCl [(h0, .inr (12, ((((((((((fs.set 0 (.int 0)).set 12 (.int 0)).set 13 (.int 0)).set 14 (.int 0)).set 15 (.int (-1))).set 17 (.int 0)).set 18 (.int 0)).set 19 (.int 0)).set 34 (.int 0)).set 35 (.int 0))))] _ := hP
      have hD : va_D A [(h0, .inr (12, ((((((((((fs.set 0 (.int 0)).set 12 (.int 0)).set 13 (.int 0)).set 14 (.int 0)).set 15 (.int (-1))).set 17 (.int 0)).set 18 (.int 0)).set 19 (.int 0)).set 34 (.int 0)).set 35 (.int 0))))] := hD
      obtain rfl : r_8 = 0 := wr_8.trans (rfl)
      refine lv_if_eq (tgt := 127) hx hb dX12_shot_110 (by decide) (fun _ => ?_) (fun c9 => absurd c9 (by decide))
      refine lv_aload_n hx hb dX12_shot_127 rfl (lv_at hl 0 rfl) ?_
      have hF := va_free (wc := [(h0, .inr (12, ((((((((((fs.set 0 (.int 0)).set 12 (.int 0)).set 13 (.int 0)).set 14 (.int 0)).set 15 (.int (-1))).set 17 (.int 0)).set 18 (.int 0)).set 19 (.int 0)).set 34 (.int 0)).set 35 (.int 0))))]) hD hS hA [0] rfl
      refine va_calli (va_runV (As := []) (rest := []) ⟨hx, hb, hml, hown, hts⟩ (c_X12_fine_1 l D cT h0 ((((((((((fs.set 0 (.int 0)).set 12 (.int 0)).set 13 (.int 0)).set 14 (.int 0)).set 15 (.int (-1))).set 17 (.int 0)).set 18 (.int 0)).set 19 (.int 0)).set 34 (.int 0)).set 35 (.int 0)) _ (by simp only [List.length_set]; exact hfs) ((List.getElem?_set_ne (by decide)).trans ((List.getElem?_set_ne (by decide)).trans ((List.getElem?_set_ne (by decide)).trans ((List.getElem?_set_ne (by decide)).trans ((List.getElem?_set_ne (by decide)).trans (List.getElem?_set_self (by simp only [List.length_set, hfs]; decide)))))))) (cwV 0 hts gX12_shot_X12_fine rfl rfl rfl (by decide +kernel) ⟨Nat.le_of_ble_eq_true rfl, Nat.le_of_ble_eq_true rfl⟩) (pv_w hP hD hK hG [0] rfl rfl rfl 0 rfl rfl) rfl rfl hl.1 rfl (lv_room (Nat.le_of_ble_eq_true rfl)) dX12_shot_128 ⟨Nat.le_of_ble_eq_true rfl, Nat.le_of_ble_eq_true rfl⟩) hS (fun q _ h => hF q h) hF (fun r_9 uu9 tt9 H locs ht hvm wr_9 hB hz1 hk1 hS => ?_)
      obtain ⟨hP1, hD1⟩ := hB
      rw [ht] at hP1
      obtain ⟨hP, hD⟩ := va_join (wr := []) (w1 := [(h0, .inr (12, ((((((((((fs.set 0 (.int 0)).set 12 (.int 0)).set 13 (.int 0)).set 14 (.int 0)).set 15 (.int (-1))).set 17 (.int 0)).set 18 (.int 0)).set 19 (.int 0)).set 34 (.int 0)).set 35 (.int 0))))]) hP hD [0] [] rfl rfl (by decide) (by decide) hk1 hF hP1 hD1
      have hP : va_P D vwCl [(h0, .inr (12, ((((((((((fs.set 0 (.int 0)).set 12 (.int 0)).set 13 (.int 0)).set 14 (.int 0)).set 15 (.int (-1))).set 17 (.int 0)).set 18 (.int 0)).set 19 (.int 0)).set 34 (.int 0)).set 35 (.int 0))))] _ := hP
      have hD : va_D A [(h0, .inr (12, ((((((((((fs.set 0 (.int 0)).set 12 (.int 0)).set 13 (.int 0)).set 14 (.int 0)).set 15 (.int (-1))).set 17 (.int 0)).set 18 (.int 0)).set 19 (.int 0)).set 34 (.int 0)).set 35 (.int 0))))] := hD
      obtain rfl : r_9 = 1 := wr_9.trans (rfl)
      refine lv_if_eq (tgt := 183) hx hb dX12_shot_131 (by decide) (fun c9 => absurd c9 (by decide)) (fun _ => ?_)
      refine lv_aload_n hx hb dX12_shot_134 rfl (lv_at hl 0 rfl) ?_
      refine lv_iconst (v := 0) hx hb dX12_shot_135 (by decide) ?_
      refine lv_aload_n hx hb dX12_shot_136 rfl (lv_at hl 0 rfl) ?_
      refine va_get (D := D) (ci := 12) (v := .int 0) (C := RX12) (T := TX12) (N := 109) hx hb hts (fun _ h => List.mem_cons_of_mem _ (List.mem_append_right _ h)) hown hK hP 0 rfl rfl 17 (by decide) (hts (.fieldLink RX12 368 "PuppetFilmModel" "said" "I") (List.mem_of_getElem? (i := 7) (by decide +kernel))) (fun _ h9 => h9) ((List.getElem?_set_ne (by decide)).trans ((List.getElem?_set_ne (by decide)).trans ((List.getElem?_set_ne (by decide)).trans ((List.getElem?_set_ne (by decide)).trans (List.getElem?_set_self (by simp only [List.length_set, hfs]; decide)))))) dX12_shot_137 ?_
      have hF := va_free (wc := [(h0, .inr (12, ((((((((((fs.set 0 (.int 0)).set 12 (.int 0)).set 13 (.int 0)).set 14 (.int 0)).set 15 (.int (-1))).set 17 (.int 0)).set 18 (.int 0)).set 19 (.int 0)).set 34 (.int 0)).set 35 (.int 0))))]) hD hS hA [0] rfl
      refine va_callv (va_runV (As := [.int 0, .int 0]) (rest := []) ⟨hx, hb, hml, hown, hts⟩ (c_X12_counts l D cT h0 ((((((((((fs.set 0 (.int 0)).set 12 (.int 0)).set 13 (.int 0)).set 14 (.int 0)).set 15 (.int (-1))).set 17 (.int 0)).set 18 (.int 0)).set 19 (.int 0)).set 34 (.int 0)).set 35 (.int 0)) _ (by simp only [List.length_set]; exact hfs)) (cwV 2 hts gX12_shot_X12_counts rfl rfl rfl (by decide +kernel) ⟨Nat.le_of_ble_eq_true rfl, Nat.le_of_ble_eq_true rfl⟩) (pv_w hP hD hK hG [0] rfl rfl rfl 0 rfl rfl) rfl rfl hl.1 rfl (lv_room (Nat.le_of_ble_eq_true rfl)) dX12_shot_140 ⟨Nat.le_of_ble_eq_true rfl, Nat.le_of_ble_eq_true rfl⟩) hS (fun q _ h => hF q h) hF (fun uu9 tt9 H locs ht hvm wr_10 hB hz1 hk1 hS => ?_)
      obtain ⟨hP1, hD1⟩ := hB
      rw [ht] at hP1
      obtain ⟨hP, hD⟩ := va_join (wr := []) (w1 := [(h0, .inr (12, ((((((((((((fs.set 0 (.int 0)).set 12 (.int 0)).set 13 (.int 0)).set 14 (.int 0)).set 15 (.int (-1))).set 17 (.int 0)).set 18 (.int 0)).set 19 (.int 0)).set 34 (.int 0)).set 35 (.int 0)).set 36 (.long 0)).set 37 (.long 0))))]) hP hD [0] [] rfl rfl (by decide) (by decide) hk1 hF hP1 hD1
      have hP : va_P D vwCl [(h0, .inr (12, ((((((((((((fs.set 0 (.int 0)).set 12 (.int 0)).set 13 (.int 0)).set 14 (.int 0)).set 15 (.int (-1))).set 17 (.int 0)).set 18 (.int 0)).set 19 (.int 0)).set 34 (.int 0)).set 35 (.int 0)).set 36 (.long 0)).set 37 (.long 0))))] _ := hP
      have hD : va_D A [(h0, .inr (12, ((((((((((((fs.set 0 (.int 0)).set 12 (.int 0)).set 13 (.int 0)).set 14 (.int 0)).set 15 (.int (-1))).set 17 (.int 0)).set 18 (.int 0)).set 19 (.int 0)).set 34 (.int 0)).set 35 (.int 0)).set 36 (.long 0)).set 37 (.long 0))))] := hD
      refine lv_aload_n hx hb dX12_shot_143 rfl (lv_at hl 0 rfl) ?_
      refine va_get (D := D) (ci := 12) (v := .long 0) (C := RX12) (T := TX12) (N := 109) hx hb hts (fun _ h => List.mem_cons_of_mem _ (List.mem_append_right _ h)) hown hK hP 0 rfl rfl 36 (by decide) (hts (.fieldLink RX12 389 "PuppetFilmModel" "doneFrames" "J") (List.mem_of_getElem? (i := 12) (by decide +kernel))) (fun _ h9 => h9) ((List.getElem?_set_ne (by decide)).trans (List.getElem?_set_self (by simp only [List.length_set, hfs]; decide))) dX12_shot_144 ?_
      refine lv_lconst (v := 1) hx hb dX12_shot_147 rfl ?_
      refine W.lcmp hx hb dX12_shot_148 ?_
      refine lv_topi (fun z_11 ez_11 => ?_)
      obtain rfl : z_11 = (-1) := ez_11.trans (by decide)
      refine lv_if_lt (tgt := 174) hx hb dX12_shot_149 (by decide) (fun _ => ?_) (fun c9 => absurd c9 (by decide))
      refine lv_aload_n hx hb dX12_shot_174 rfl (lv_at hl 0 rfl) ?_
      refine lv_iconst (v := 4) hx hb dX12_shot_175 (by decide) ?_
      refine lv_aload_n hx hb dX12_shot_176 rfl (lv_at hl 0 rfl) ?_
      refine va_get (D := D) (ci := 12) (v := .int 0) (C := RX12) (T := TX12) (N := 109) hx hb hts (fun _ h => List.mem_cons_of_mem _ (List.mem_append_right _ h)) hown hK hP 0 rfl rfl 13 (by decide) (hts (.fieldLink RX12 291 "PuppetFilmModel" "size" "I") (List.mem_of_getElem? (i := 4) (by decide +kernel))) (fun _ h9 => h9) ((List.getElem?_set_ne (by decide)).trans ((List.getElem?_set_ne (by decide)).trans ((List.getElem?_set_ne (by decide)).trans ((List.getElem?_set_ne (by decide)).trans ((List.getElem?_set_ne (by decide)).trans ((List.getElem?_set_ne (by decide)).trans ((List.getElem?_set_ne (by decide)).trans ((List.getElem?_set_ne (by decide)).trans ((List.getElem?_set_ne (by decide)).trans (List.getElem?_set_self (by simp only [List.length_set, hfs]; decide))))))))))) dX12_shot_177 ?_
      have hF := va_free (wc := [(h0, .inr (12, ((((((((((((fs.set 0 (.int 0)).set 12 (.int 0)).set 13 (.int 0)).set 14 (.int 0)).set 15 (.int (-1))).set 17 (.int 0)).set 18 (.int 0)).set 19 (.int 0)).set 34 (.int 0)).set 35 (.int 0)).set 36 (.long 0)).set 37 (.long 0))))]) hD hS hA [0] rfl
      refine va_callv (va_runV (As := [.int 4, .int 0]) (rest := []) ⟨hx, hb, hml, hown, hts⟩ (c_X12_wrong l D cT h0 4 0 ((((((((((((fs.set 0 (.int 0)).set 12 (.int 0)).set 13 (.int 0)).set 14 (.int 0)).set 15 (.int (-1))).set 17 (.int 0)).set 18 (.int 0)).set 19 (.int 0)).set 34 (.int 0)).set 35 (.int 0)).set 36 (.long 0)).set 37 (.long 0)) _ (by simp only [List.length_set]; exact hfs) ((List.getElem?_set_ne (by decide)).trans ((List.getElem?_set_ne (by decide)).trans ((List.getElem?_set_ne (by decide)).trans ((List.getElem?_set_ne (by decide)).trans ((List.getElem?_set_ne (by decide)).trans ((List.getElem?_set_ne (by decide)).trans ((List.getElem?_set_ne (by decide)).trans (List.getElem?_set_self (by simp only [List.length_set, hfs]; decide)))))))))) (cwV 2 hts gX12_shot_X12_wrong rfl rfl rfl (by decide +kernel) ⟨Nat.le_of_ble_eq_true rfl, Nat.le_of_ble_eq_true rfl⟩) (pv_w hP hD hK hG [0] rfl rfl rfl 0 rfl rfl) rfl rfl hl.1 rfl (lv_room (Nat.le_of_ble_eq_true rfl)) dX12_shot_180 ⟨Nat.le_of_ble_eq_true rfl, Nat.le_of_ble_eq_true rfl⟩) hS (fun q _ h => hF q h) hF (fun uu9 tt9 H locs ht hvm wr_12 hB hz1 hk1 hS => ?_)
      obtain ⟨hP1, hD1⟩ := hB
      rw [ht] at hP1
      obtain ⟨hP, hD⟩ := va_join (wr := []) (w1 := [(h0, .inr (12, ((((((((((((((fs.set 0 (.int 0)).set 12 (.int 0)).set 13 (.int 0)).set 14 (.int 0)).set 15 (.int (-1))).set 17 (.int 0)).set 18 (.int 0)).set 19 (.int 0)).set 34 (.int 0)).set 35 (.int 0)).set 36 (.long 0)).set 37 (.long 0)).set 15 (.int 0)).set 16 (.int 4))))]) hP hD [0] [] rfl rfl (by decide) (by decide) hk1 hF hP1 hD1
      have hP : va_P D vwCl [(h0, .inr (12, ((((((((((((((fs.set 0 (.int 0)).set 12 (.int 0)).set 13 (.int 0)).set 14 (.int 0)).set 15 (.int (-1))).set 17 (.int 0)).set 18 (.int 0)).set 19 (.int 0)).set 34 (.int 0)).set 35 (.int 0)).set 36 (.long 0)).set 37 (.long 0)).set 15 (.int 0)).set 16 (.int 4))))] _ := hP
      have hD : va_D A [(h0, .inr (12, ((((((((((((((fs.set 0 (.int 0)).set 12 (.int 0)).set 13 (.int 0)).set 14 (.int 0)).set 15 (.int (-1))).set 17 (.int 0)).set 18 (.int 0)).set 19 (.int 0)).set 34 (.int 0)).set 35 (.int 0)).set 36 (.long 0)).set 37 (.long 0)).set 15 (.int 0)).set 16 (.int 4))))] := hD
      refine lv_aload_n hx hb dX12_shot_183 rfl (lv_at hl 0 rfl) ?_
      refine lv_aload_n hx hb dX12_shot_184 rfl (lv_at hl 0 rfl) ?_
      refine va_get (D := D) (ci := 12) (v := .int 0) (C := RX12) (T := TX12) (N := 109) hx hb hts (fun _ h => List.mem_cons_of_mem _ (List.mem_append_right _ h)) hown hK hP 0 rfl rfl 15 (by decide) (hts (.fieldLink RX12 282 "PuppetFilmModel" "bad" "I") (List.mem_of_getElem? (i := 6) (by decide +kernel))) (fun _ h9 => h9) ((List.getElem?_set_ne (by decide)).trans (List.getElem?_set_self (by simp only [List.length_set, hfs]; decide))) dX12_shot_185 ?_
      refine va_put (D := D) (ci := 12) (v := .int 0) (ty := .int) (C := RX12) (T := TX12) (N := 109) hx hb hts (fun _ h => List.mem_cons_of_mem _ (List.mem_append_right _ h)) tyX12 tyX12_ok nmX12 hown hK hP hD hS 0 rfl rfl 20 (by decide) (hts (.fieldLink RX12 44 "PuppetFilmModel" "faultAt" "I") (List.mem_of_getElem? (i := 16) (by decide +kernel))) (fun _ h9 => h9) rfl (by decide +kernel) rfl rfl (by simp only [List.length_set, hfs]; decide) dX12_shot_188 (fun H locs hP hD hS => ?_)
      have hP : va_P D vwCl [(h0, .inr (12, (((((((((((((((fs.set 0 (.int 0)).set 12 (.int 0)).set 13 (.int 0)).set 14 (.int 0)).set 15 (.int (-1))).set 17 (.int 0)).set 18 (.int 0)).set 19 (.int 0)).set 34 (.int 0)).set 35 (.int 0)).set 36 (.long 0)).set 37 (.long 0)).set 15 (.int 0)).set 16 (.int 4)).set 20 (.int 0))))] _ := hP
      have hD : va_D A [(h0, .inr (12, (((((((((((((((fs.set 0 (.int 0)).set 12 (.int 0)).set 13 (.int 0)).set 14 (.int 0)).set 15 (.int (-1))).set 17 (.int 0)).set 18 (.int 0)).set 19 (.int 0)).set 34 (.int 0)).set 35 (.int 0)).set 36 (.long 0)).set 37 (.long 0)).set 15 (.int 0)).set 16 (.int 4)).set 20 (.int 0))))] := hD
      refine lv_aload_n hx hb dX12_shot_191 rfl (lv_at hl 0 rfl) ?_
      have hF := va_free (wc := [(h0, .inr (12, (((((((((((((((fs.set 0 (.int 0)).set 12 (.int 0)).set 13 (.int 0)).set 14 (.int 0)).set 15 (.int (-1))).set 17 (.int 0)).set 18 (.int 0)).set 19 (.int 0)).set 34 (.int 0)).set 35 (.int 0)).set 36 (.long 0)).set 37 (.long 0)).set 15 (.int 0)).set 16 (.int 4)).set 20 (.int 0))))]) hD hS hA [0] rfl
      refine va_calli (va_runV (As := []) (rest := []) ⟨hx, hb, hml, hown, hts⟩ (c_X12_fine_0 l D cT h0 (((((((((((((((fs.set 0 (.int 0)).set 12 (.int 0)).set 13 (.int 0)).set 14 (.int 0)).set 15 (.int (-1))).set 17 (.int 0)).set 18 (.int 0)).set 19 (.int 0)).set 34 (.int 0)).set 35 (.int 0)).set 36 (.long 0)).set 37 (.long 0)).set 15 (.int 0)).set 16 (.int 4)).set 20 (.int 0)) _ (by simp only [List.length_set]; exact hfs) ((List.getElem?_set_ne (by decide)).trans ((List.getElem?_set_ne (by decide)).trans (List.getElem?_set_self (by simp only [List.length_set, hfs]; decide))))) (cwV 0 hts gX12_shot_X12_fine rfl rfl rfl (by decide +kernel) ⟨Nat.le_of_ble_eq_true rfl, Nat.le_of_ble_eq_true rfl⟩) (pv_w hP hD hK hG [0] rfl rfl rfl 0 rfl rfl) rfl rfl hl.1 rfl (lv_room (Nat.le_of_ble_eq_true rfl)) dX12_shot_192 ⟨Nat.le_of_ble_eq_true rfl, Nat.le_of_ble_eq_true rfl⟩) hS (fun q _ h => hF q h) hF (fun r_13 uu9 tt9 H locs ht hvm wr_13 hB hz1 hk1 hS => ?_)
      obtain ⟨hP1, hD1⟩ := hB
      rw [ht] at hP1
      obtain ⟨hP, hD⟩ := va_join (wr := []) (w1 := [(h0, .inr (12, (((((((((((((((fs.set 0 (.int 0)).set 12 (.int 0)).set 13 (.int 0)).set 14 (.int 0)).set 15 (.int (-1))).set 17 (.int 0)).set 18 (.int 0)).set 19 (.int 0)).set 34 (.int 0)).set 35 (.int 0)).set 36 (.long 0)).set 37 (.long 0)).set 15 (.int 0)).set 16 (.int 4)).set 20 (.int 0))))]) hP hD [0] [] rfl rfl (by decide) (by decide) hk1 hF hP1 hD1
      have hP : va_P D vwCl [(h0, .inr (12, (((((((((((((((fs.set 0 (.int 0)).set 12 (.int 0)).set 13 (.int 0)).set 14 (.int 0)).set 15 (.int (-1))).set 17 (.int 0)).set 18 (.int 0)).set 19 (.int 0)).set 34 (.int 0)).set 35 (.int 0)).set 36 (.long 0)).set 37 (.long 0)).set 15 (.int 0)).set 16 (.int 4)).set 20 (.int 0))))] _ := hP
      have hD : va_D A [(h0, .inr (12, (((((((((((((((fs.set 0 (.int 0)).set 12 (.int 0)).set 13 (.int 0)).set 14 (.int 0)).set 15 (.int (-1))).set 17 (.int 0)).set 18 (.int 0)).set 19 (.int 0)).set 34 (.int 0)).set 35 (.int 0)).set 36 (.long 0)).set 37 (.long 0)).set 15 (.int 0)).set 16 (.int 4)).set 20 (.int 0))))] := hD
      obtain rfl : r_13 = 0 := wr_13.trans (rfl)
      refine lv_if_ne (tgt := 206) hx hb dX12_shot_195 (by decide) (fun c9 => absurd c9 (by decide)) (fun _ => ?_)
      refine lv_aload_n hx hb dX12_shot_198 rfl (lv_at hl 0 rfl) ?_
      refine va_get (D := D) (ci := 12) (v := .int 4) (C := RX12) (T := TX12) (N := 109) hx hb hts (fun _ h => List.mem_cons_of_mem _ (List.mem_append_right _ h)) hown hK hP 0 rfl rfl 16 (by decide) (hts (.fieldLink RX12 285 "PuppetFilmModel" "badKind" "I") (List.mem_of_getElem? (i := 17) (by decide +kernel))) (fun _ h9 => h9) ((List.getElem?_set_ne (by decide)).trans (List.getElem?_set_self (by simp only [List.length_set, hfs]; decide))) dX12_shot_199 ?_
      refine lv_bipush (v := 10) hx hb dX12_shot_202 (by decide) ?_
      refine lv_isub hx hb dX12_shot_204 ?_
      refine lv_topi (fun z_14 ez_14 => ?_)
      obtain rfl : z_14 = (-6) := ez_14.trans (by decide)
      have hP9 := hP.sub (ws' := [(h0, .inr (12, (((((((((((((((fs.set 0 (.int 0)).set 12 (.int 0)).set 13 (.int 0)).set 14 (.int 0)).set 15 (.int (-1))).set 17 (.int 0)).set 18 (.int 0)).set 19 (.int 0)).set 34 (.int 0)).set 35 (.int 0)).set 36 (.long 0)).set 37 (.long 0)).set 15 (.int 0)).set 16 (.int 4)).set 20 (.int 0))))]) [0] rfl
      have hD9 := hD.sub (ws' := [(h0, .inr (12, (((((((((((((((fs.set 0 (.int 0)).set 12 (.int 0)).set 13 (.int 0)).set 14 (.int 0)).set 15 (.int (-1))).set 17 (.int 0)).set 18 (.int 0)).set 19 (.int 0)).set 34 (.int 0)).set 35 (.int 0)).set 36 (.long 0)).set 37 (.long 0)).set 15 (.int 0)).set 16 (.int 4)).set 20 (.int 0))))]) [0] (by decide) rfl
      exact W.iret (v := (-6)) hx hb hr (fun t ht hW => ⟨⟨(-6), (), rfl, fun _ => rfl, ⟨(((((((((((((((fs.set 0 (.int 0)).set 12 (.int 0)).set 13 (.int 0)).set 14 (.int 0)).set 15 (.int (-1))).set 17 (.int 0)).set 18 (.int 0)).set 19 (.int 0)).set 34 (.int 0)).set 35 (.int 0)).set 36 (.long 0)).set 37 (.long 0)).set 15 (.int 0)).set 16 (.int 4)).set 20 (.int 0)), 0, by simp only [List.length_set]; exact hfs, (List.getElem?_set_ne (by decide)).trans ((List.getElem?_set_ne (by decide)).trans ((List.getElem?_set_ne (by decide)).trans ((List.getElem?_set_ne (by decide)).trans ((List.getElem?_set_ne (by decide)).trans ((List.getElem?_set_ne (by decide)).trans ((List.getElem?_set_ne (by decide)).trans ((List.getElem?_set_ne (by decide)).trans ((List.getElem?_set_ne (by decide)).trans ((List.getElem?_set_ne (by decide)).trans ((List.getElem?_set_ne (by decide)).trans ((List.getElem?_set_ne (by decide)).trans ((List.getElem?_set_ne (by decide)).trans ((List.getElem?_set_ne (by decide)).trans (List.getElem?_set_self (by simp only [List.length_set, hfs]; decide))))))))))))))), by decide, by rw [ht]; exact hP9, hD9⟩⟩, hS.F ht⟩) hS.2.2 dX12_shot_205
theorem dX12_copy_0 : decode cX12_copy 0 = .ok (.iconst 0, 1) := by decide +kernel
theorem dX12_copy_1 : decode cX12_copy 1 = .ok (.istore_n 2, 1) := by decide +kernel
theorem dX12_copy_10 : decode cX12_copy 10 = .ok (.aload_n 0, 1) := by decide +kernel
theorem dX12_copy_11 : decode cX12_copy 11 = .ok (.iload_n 2, 1) := by decide +kernel
theorem dX12_copy_12 : decode cX12_copy 12 = .ok (.iaload, 1) := by decide +kernel
theorem dX12_copy_13 : decode cX12_copy 13 = .ok (.iastore, 1) := by decide +kernel
theorem dX12_copy_14 : decode cX12_copy 14 = .ok (.iinc 2 1, 3) := by decide +kernel
theorem dX12_copy_17 : decode cX12_copy 17 = .ok (.goto (-15), 3) := by decide +kernel
theorem dX12_copy_2 : decode cX12_copy 2 = .ok (.iload_n 2, 1) := by decide +kernel
theorem dX12_copy_20 : decode cX12_copy 20 = .ok (.return_, 1) := by decide +kernel
theorem dX12_copy_3 : decode cX12_copy 3 = .ok (.aload_n 0, 1) := by decide +kernel
theorem dX12_copy_4 : decode cX12_copy 4 = .ok (.arraylength, 1) := by decide +kernel
theorem dX12_copy_5 : decode cX12_copy 5 = .ok (.if_icmp .ge 15, 3) := by decide +kernel
theorem dX12_copy_8 : decode cX12_copy 8 = .ok (.aload_n 1, 1) := by decide +kernel
theorem dX12_copy_9 : decode cX12_copy 9 = .ok (.iload_n 2, 1) := by decide +kernel
set_option maxHeartbeats 4000000 in
set_option maxRecDepth 100000 in
theorem c_X12_copy_3 (l : Launch) (D : va_G) (cT : Nat → ClassId) (a0 : Nat) (b0 : Nat) (fa : Nat → Int32) (fb : Nat → Int32) (sz : Nat)  : Met l yX12_copy wsX12_copy ({ frames := 8, cells := 0, slots := 0, locals := 160 }) (va_Pc [.ref a0, .ref b0] (PW D cT [(a0, .inl (cT 0, 3, .inl fa)), (b0, .inl (cT 0, 3, .inl fb))] sz)) (va_Qv (fun _ : Unit => True) (fun (_ : Unit) (t : State) => ∃ (fb2 : Nat → Int32), va_P D vwCl [(a0, .inl (cT 0, 3, .inl fa)), (b0, .inl (cT 0, 3, .inl fb2))] t.heap ∧ va_D (va_A [(a0, .inl (cT 0, 3, .inl fa)), (b0, .inl (cT 0, 3, .inl fb))] sz) [(a0, .inl (cT 0, 3, .inl fa)), (b0, .inl (cT 0, 3, .inl fb2))]) (va_A [(a0, .inl (cT 0, 3, .inl fa)), (b0, .inl (cT 0, 3, .inl fb))] sz)) 0 0 (va_A [(a0, .inl (cT 0, 3, .inl fa)), (b0, .inl (cT 0, 3, .inl fb))] sz) := by
  refine Met.ofW (cc := cX12_copy) (maxL := 3) (ret := none) (by decide) rfl ?_
  intro p e s m args below meth c s₁ B hml hv
  obtain ⟨rfl, hsz, hP, hK, hD0, hG⟩ := hv
  have hx := B.exec
  have hb := B.bytes
  have hr := B.returns
  have hts := atoms_spec (ws := wsX12_copy) B.pre
  have hown : s.vm.findClass RX12 = some m.cls := findClass_of_methodNamed B.named
  have hlocks := B.notSynchronized
  subst hsz
  have hD := hD0.self (sz := s.heap.size)
  generalize hAe : va_A [(a0, .inl (cT 0, 3, .inl fa)), (b0, .inl (cT 0, 3, .inl fb))] s.heap.size = A at hD ⊢
  have hA : ∀ q : Nat, s.heap.size ≤ q → A q := fun q h => by rw [← hAe]; exact Or.inr h
  have hS : va_S A s.heap s.heap [] := va_S.rf
  have hP : va_P D vwCl [(a0, .inl (cT 0, 3, .inl fa)), (b0, .inl (cT 0, 3, .inl fb))] s.heap := hP
  have hl := lv_entry ([.ref a0, .ref b0]) (n := 3) (Nat.le_of_ble_eq_true rfl)
  rw [lg_entry_eq]
  generalize (lg_sl ([.ref a0, .ref b0]) ++ List.replicate (3 - (lg_sl ([.ref a0, .ref b0])).length) Slot.unset).toArray = ls at hl ⊢
  have hl : lv_has ls 3 [(0, .ref a0), (1, .ref b0)] := hl
  refine lv_iconst (v := 0) hx hb dX12_copy_0 (by decide) ?_
  refine lv_istore_n (lv' := [(2, .int 0), (0, .ref a0), (1, .ref b0)]) hx hb dX12_copy_1 rfl hl (by decide) rfl (fun ls hl => ?_)
  refine lv_iload_n hx hb dX12_copy_2 rfl (lv_at hl 0 rfl) ?_
  refine lv_aload_n hx hb dX12_copy_3 rfl (lv_at hl 1 rfl) ?_
  refine va_alen (v := 3) hx hb hK hP 0 0 rfl rfl rfl dX12_copy_4 ?_
  refine lv_icmp_ge (tgt := 20) hx hb dX12_copy_5 (by decide) (fun c9 => absurd c9 (by decide)) (fun _ => ?_)
  refine lv_aload_n hx hb dX12_copy_8 rfl (lv_at hl 2 rfl) ?_
  refine lv_iload_n hx hb dX12_copy_9 rfl (lv_at hl 0 rfl) ?_
  refine lv_aload_n hx hb dX12_copy_10 rfl (lv_at hl 1 rfl) ?_
  refine lv_iload_n hx hb dX12_copy_11 rfl (lv_at hl 0 rfl) ?_
  refine va_iald hx hb hK hP 0 0 rfl rfl (by unfold vp_in; decide) dX12_copy_12 ?_
  refine lv_topi (fun x_1 ex_1 => ?_)
  refine va_iast hx hb hK hP hD hS 1 0 rfl rfl (by unfold vp_in; decide) dX12_copy_13 (fun H locs hP hD hS => ?_)
  generalize upd fb (Int32.toNatClampNeg 0) x_1 = f_2 at hP hD
  have hP : va_P D vwCl [(a0, .inl (cT 0, 3, .inl fa)), (b0, .inl (cT 0, 3, .inl f_2))] _ := hP
  have hD : va_D A [(a0, .inl (cT 0, 3, .inl fa)), (b0, .inl (cT 0, 3, .inl f_2))] := hD
  refine lv_iinc (v := 1) (lv' := [(2, .int 1), (0, .ref a0), (1, .ref b0)]) hx hb dX12_copy_14 hl (k := 0) rfl (by decide) (by decide) rfl (fun ls hl => ?_)
  refine lv_goto (tgt := 2) hx hb dX12_copy_17 (by decide) ?_
  refine lv_iload_n hx hb dX12_copy_2 rfl (lv_at hl 0 rfl) ?_
  refine lv_aload_n hx hb dX12_copy_3 rfl (lv_at hl 1 rfl) ?_
  refine va_alen (v := 3) hx hb hK hP 0 0 rfl rfl rfl dX12_copy_4 ?_
  refine lv_icmp_ge (tgt := 20) hx hb dX12_copy_5 (by decide) (fun c9 => absurd c9 (by decide)) (fun _ => ?_)
  refine lv_aload_n hx hb dX12_copy_8 rfl (lv_at hl 2 rfl) ?_
  refine lv_iload_n hx hb dX12_copy_9 rfl (lv_at hl 0 rfl) ?_
  refine lv_aload_n hx hb dX12_copy_10 rfl (lv_at hl 1 rfl) ?_
  refine lv_iload_n hx hb dX12_copy_11 rfl (lv_at hl 0 rfl) ?_
  refine va_iald hx hb hK hP 0 0 rfl rfl (by unfold vp_in; decide) dX12_copy_12 ?_
  refine lv_topi (fun x_3 ex_3 => ?_)
  refine va_iast hx hb hK hP hD hS 1 0 rfl rfl (by unfold vp_in; decide) dX12_copy_13 (fun H locs hP hD hS => ?_)
  generalize upd f_2 (Int32.toNatClampNeg 1) x_3 = f_4 at hP hD
  have hP : va_P D vwCl [(a0, .inl (cT 0, 3, .inl fa)), (b0, .inl (cT 0, 3, .inl f_4))] _ := hP
  have hD : va_D A [(a0, .inl (cT 0, 3, .inl fa)), (b0, .inl (cT 0, 3, .inl f_4))] := hD
  refine lv_iinc (v := 2) (lv' := [(2, .int 2), (0, .ref a0), (1, .ref b0)]) hx hb dX12_copy_14 hl (k := 0) rfl (by decide) (by decide) rfl (fun ls hl => ?_)
  refine lv_goto (tgt := 2) hx hb dX12_copy_17 (by decide) ?_
  refine lv_iload_n hx hb dX12_copy_2 rfl (lv_at hl 0 rfl) ?_
  refine lv_aload_n hx hb dX12_copy_3 rfl (lv_at hl 1 rfl) ?_
  refine va_alen (v := 3) hx hb hK hP 0 0 rfl rfl rfl dX12_copy_4 ?_
  refine lv_icmp_ge (tgt := 20) hx hb dX12_copy_5 (by decide) (fun c9 => absurd c9 (by decide)) (fun _ => ?_)
  refine lv_aload_n hx hb dX12_copy_8 rfl (lv_at hl 2 rfl) ?_
  refine lv_iload_n hx hb dX12_copy_9 rfl (lv_at hl 0 rfl) ?_
  refine lv_aload_n hx hb dX12_copy_10 rfl (lv_at hl 1 rfl) ?_
  refine lv_iload_n hx hb dX12_copy_11 rfl (lv_at hl 0 rfl) ?_
  refine va_iald hx hb hK hP 0 0 rfl rfl (by unfold vp_in; decide) dX12_copy_12 ?_
  refine lv_topi (fun x_5 ex_5 => ?_)
  refine va_iast hx hb hK hP hD hS 1 0 rfl rfl (by unfold vp_in; decide) dX12_copy_13 (fun H locs hP hD hS => ?_)
  generalize upd f_4 (Int32.toNatClampNeg 2) x_5 = f_6 at hP hD
  have hP : va_P D vwCl [(a0, .inl (cT 0, 3, .inl fa)), (b0, .inl (cT 0, 3, .inl f_6))] _ := hP
  have hD : va_D A [(a0, .inl (cT 0, 3, .inl fa)), (b0, .inl (cT 0, 3, .inl f_6))] := hD
  refine lv_iinc (v := 3) (lv' := [(2, .int 3), (0, .ref a0), (1, .ref b0)]) hx hb dX12_copy_14 hl (k := 0) rfl (by decide) (by decide) rfl (fun ls hl => ?_)
  refine lv_goto (tgt := 2) hx hb dX12_copy_17 (by decide) ?_
  refine lv_iload_n hx hb dX12_copy_2 rfl (lv_at hl 0 rfl) ?_
  refine lv_aload_n hx hb dX12_copy_3 rfl (lv_at hl 1 rfl) ?_
  refine va_alen (v := 3) hx hb hK hP 0 0 rfl rfl rfl dX12_copy_4 ?_
  refine lv_icmp_ge (tgt := 20) hx hb dX12_copy_5 (by decide) (fun _ => ?_) (fun c9 => absurd c9 (by decide))
  have hP9 := hP.sub (ws' := [(a0, .inl (cT 0, 3, .inl fa)), (b0, .inl (cT 0, 3, .inl f_6))]) [0, 1] rfl
  have hD9 := hD.sub (ws' := [(a0, .inl (cT 0, 3, .inl fa)), (b0, .inl (cT 0, 3, .inl f_6))]) [0, 1] (by decide) rfl
  exact W.vret hx hb hr (fun t ht hW => ⟨⟨(), rfl, trivial, ⟨f_6, by rw [ht]; exact hP9, hD9⟩⟩, hS.F ht⟩) hS.2.2 dX12_copy_20
set_option maxHeartbeats 4000000 in
set_option maxRecDepth 100000 in
theorem c_X12_copy_6 (l : Launch) (D : va_G) (cT : Nat → ClassId) (a0 : Nat) (b0 : Nat) (fa : Nat → Int32) (fb : Nat → Int32) (sz : Nat)  : Met l yX12_copy wsX12_copy ({ frames := 8, cells := 0, slots := 0, locals := 160 }) (va_Pc [.ref a0, .ref b0] (PW D cT [(a0, .inl (cT 0, 6, .inl fa)), (b0, .inl (cT 0, 6, .inl fb))] sz)) (va_Qv (fun _ : Unit => True) (fun (_ : Unit) (t : State) => ∃ (fb2 : Nat → Int32), va_P D vwCl [(a0, .inl (cT 0, 6, .inl fa)), (b0, .inl (cT 0, 6, .inl fb2))] t.heap ∧ va_D (va_A [(a0, .inl (cT 0, 6, .inl fa)), (b0, .inl (cT 0, 6, .inl fb))] sz) [(a0, .inl (cT 0, 6, .inl fa)), (b0, .inl (cT 0, 6, .inl fb2))]) (va_A [(a0, .inl (cT 0, 6, .inl fa)), (b0, .inl (cT 0, 6, .inl fb))] sz)) 0 0 (va_A [(a0, .inl (cT 0, 6, .inl fa)), (b0, .inl (cT 0, 6, .inl fb))] sz) := by
  refine Met.ofW (cc := cX12_copy) (maxL := 3) (ret := none) (by decide) rfl ?_
  intro p e s m args below meth c s₁ B hml hv
  obtain ⟨rfl, hsz, hP, hK, hD0, hG⟩ := hv
  have hx := B.exec
  have hb := B.bytes
  have hr := B.returns
  have hts := atoms_spec (ws := wsX12_copy) B.pre
  have hown : s.vm.findClass RX12 = some m.cls := findClass_of_methodNamed B.named
  have hlocks := B.notSynchronized
  subst hsz
  have hD := hD0.self (sz := s.heap.size)
  generalize hAe : va_A [(a0, .inl (cT 0, 6, .inl fa)), (b0, .inl (cT 0, 6, .inl fb))] s.heap.size = A at hD ⊢
  have hA : ∀ q : Nat, s.heap.size ≤ q → A q := fun q h => by rw [← hAe]; exact Or.inr h
  have hS : va_S A s.heap s.heap [] := va_S.rf
  have hP : va_P D vwCl [(a0, .inl (cT 0, 6, .inl fa)), (b0, .inl (cT 0, 6, .inl fb))] s.heap := hP
  have hl := lv_entry ([.ref a0, .ref b0]) (n := 3) (Nat.le_of_ble_eq_true rfl)
  rw [lg_entry_eq]
  generalize (lg_sl ([.ref a0, .ref b0]) ++ List.replicate (3 - (lg_sl ([.ref a0, .ref b0])).length) Slot.unset).toArray = ls at hl ⊢
  have hl : lv_has ls 3 [(0, .ref a0), (1, .ref b0)] := hl
  refine lv_iconst (v := 0) hx hb dX12_copy_0 (by decide) ?_
  refine lv_istore_n (lv' := [(2, .int 0), (0, .ref a0), (1, .ref b0)]) hx hb dX12_copy_1 rfl hl (by decide) rfl (fun ls hl => ?_)
  refine lv_iload_n hx hb dX12_copy_2 rfl (lv_at hl 0 rfl) ?_
  refine lv_aload_n hx hb dX12_copy_3 rfl (lv_at hl 1 rfl) ?_
  refine va_alen (v := 6) hx hb hK hP 0 0 rfl rfl rfl dX12_copy_4 ?_
  refine lv_icmp_ge (tgt := 20) hx hb dX12_copy_5 (by decide) (fun c9 => absurd c9 (by decide)) (fun _ => ?_)
  refine lv_aload_n hx hb dX12_copy_8 rfl (lv_at hl 2 rfl) ?_
  refine lv_iload_n hx hb dX12_copy_9 rfl (lv_at hl 0 rfl) ?_
  refine lv_aload_n hx hb dX12_copy_10 rfl (lv_at hl 1 rfl) ?_
  refine lv_iload_n hx hb dX12_copy_11 rfl (lv_at hl 0 rfl) ?_
  refine va_iald hx hb hK hP 0 0 rfl rfl (by unfold vp_in; decide) dX12_copy_12 ?_
  refine lv_topi (fun x_1 ex_1 => ?_)
  refine va_iast hx hb hK hP hD hS 1 0 rfl rfl (by unfold vp_in; decide) dX12_copy_13 (fun H locs hP hD hS => ?_)
  generalize upd fb (Int32.toNatClampNeg 0) x_1 = f_2 at hP hD
  have hP : va_P D vwCl [(a0, .inl (cT 0, 6, .inl fa)), (b0, .inl (cT 0, 6, .inl f_2))] _ := hP
  have hD : va_D A [(a0, .inl (cT 0, 6, .inl fa)), (b0, .inl (cT 0, 6, .inl f_2))] := hD
  refine lv_iinc (v := 1) (lv' := [(2, .int 1), (0, .ref a0), (1, .ref b0)]) hx hb dX12_copy_14 hl (k := 0) rfl (by decide) (by decide) rfl (fun ls hl => ?_)
  refine lv_goto (tgt := 2) hx hb dX12_copy_17 (by decide) ?_
  refine lv_iload_n hx hb dX12_copy_2 rfl (lv_at hl 0 rfl) ?_
  refine lv_aload_n hx hb dX12_copy_3 rfl (lv_at hl 1 rfl) ?_
  refine va_alen (v := 6) hx hb hK hP 0 0 rfl rfl rfl dX12_copy_4 ?_
  refine lv_icmp_ge (tgt := 20) hx hb dX12_copy_5 (by decide) (fun c9 => absurd c9 (by decide)) (fun _ => ?_)
  refine lv_aload_n hx hb dX12_copy_8 rfl (lv_at hl 2 rfl) ?_
  refine lv_iload_n hx hb dX12_copy_9 rfl (lv_at hl 0 rfl) ?_
  refine lv_aload_n hx hb dX12_copy_10 rfl (lv_at hl 1 rfl) ?_
  refine lv_iload_n hx hb dX12_copy_11 rfl (lv_at hl 0 rfl) ?_
  refine va_iald hx hb hK hP 0 0 rfl rfl (by unfold vp_in; decide) dX12_copy_12 ?_
  refine lv_topi (fun x_3 ex_3 => ?_)
  refine va_iast hx hb hK hP hD hS 1 0 rfl rfl (by unfold vp_in; decide) dX12_copy_13 (fun H locs hP hD hS => ?_)
  generalize upd f_2 (Int32.toNatClampNeg 1) x_3 = f_4 at hP hD
  have hP : va_P D vwCl [(a0, .inl (cT 0, 6, .inl fa)), (b0, .inl (cT 0, 6, .inl f_4))] _ := hP
  have hD : va_D A [(a0, .inl (cT 0, 6, .inl fa)), (b0, .inl (cT 0, 6, .inl f_4))] := hD
  refine lv_iinc (v := 2) (lv' := [(2, .int 2), (0, .ref a0), (1, .ref b0)]) hx hb dX12_copy_14 hl (k := 0) rfl (by decide) (by decide) rfl (fun ls hl => ?_)
  refine lv_goto (tgt := 2) hx hb dX12_copy_17 (by decide) ?_
  refine lv_iload_n hx hb dX12_copy_2 rfl (lv_at hl 0 rfl) ?_
  refine lv_aload_n hx hb dX12_copy_3 rfl (lv_at hl 1 rfl) ?_
  refine va_alen (v := 6) hx hb hK hP 0 0 rfl rfl rfl dX12_copy_4 ?_
  refine lv_icmp_ge (tgt := 20) hx hb dX12_copy_5 (by decide) (fun c9 => absurd c9 (by decide)) (fun _ => ?_)
  refine lv_aload_n hx hb dX12_copy_8 rfl (lv_at hl 2 rfl) ?_
  refine lv_iload_n hx hb dX12_copy_9 rfl (lv_at hl 0 rfl) ?_
  refine lv_aload_n hx hb dX12_copy_10 rfl (lv_at hl 1 rfl) ?_
  refine lv_iload_n hx hb dX12_copy_11 rfl (lv_at hl 0 rfl) ?_
  refine va_iald hx hb hK hP 0 0 rfl rfl (by unfold vp_in; decide) dX12_copy_12 ?_
  refine lv_topi (fun x_5 ex_5 => ?_)
  refine va_iast hx hb hK hP hD hS 1 0 rfl rfl (by unfold vp_in; decide) dX12_copy_13 (fun H locs hP hD hS => ?_)
  generalize upd f_4 (Int32.toNatClampNeg 2) x_5 = f_6 at hP hD
  have hP : va_P D vwCl [(a0, .inl (cT 0, 6, .inl fa)), (b0, .inl (cT 0, 6, .inl f_6))] _ := hP
  have hD : va_D A [(a0, .inl (cT 0, 6, .inl fa)), (b0, .inl (cT 0, 6, .inl f_6))] := hD
  refine lv_iinc (v := 3) (lv' := [(2, .int 3), (0, .ref a0), (1, .ref b0)]) hx hb dX12_copy_14 hl (k := 0) rfl (by decide) (by decide) rfl (fun ls hl => ?_)
  refine lv_goto (tgt := 2) hx hb dX12_copy_17 (by decide) ?_
  refine lv_iload_n hx hb dX12_copy_2 rfl (lv_at hl 0 rfl) ?_
  refine lv_aload_n hx hb dX12_copy_3 rfl (lv_at hl 1 rfl) ?_
  refine va_alen (v := 6) hx hb hK hP 0 0 rfl rfl rfl dX12_copy_4 ?_
  refine lv_icmp_ge (tgt := 20) hx hb dX12_copy_5 (by decide) (fun c9 => absurd c9 (by decide)) (fun _ => ?_)
  refine lv_aload_n hx hb dX12_copy_8 rfl (lv_at hl 2 rfl) ?_
  refine lv_iload_n hx hb dX12_copy_9 rfl (lv_at hl 0 rfl) ?_
  refine lv_aload_n hx hb dX12_copy_10 rfl (lv_at hl 1 rfl) ?_
  refine lv_iload_n hx hb dX12_copy_11 rfl (lv_at hl 0 rfl) ?_
  refine va_iald hx hb hK hP 0 0 rfl rfl (by unfold vp_in; decide) dX12_copy_12 ?_
  refine lv_topi (fun x_7 ex_7 => ?_)
  refine va_iast hx hb hK hP hD hS 1 0 rfl rfl (by unfold vp_in; decide) dX12_copy_13 (fun H locs hP hD hS => ?_)
  generalize upd f_6 (Int32.toNatClampNeg 3) x_7 = f_8 at hP hD
  have hP : va_P D vwCl [(a0, .inl (cT 0, 6, .inl fa)), (b0, .inl (cT 0, 6, .inl f_8))] _ := hP
  have hD : va_D A [(a0, .inl (cT 0, 6, .inl fa)), (b0, .inl (cT 0, 6, .inl f_8))] := hD
  refine lv_iinc (v := 4) (lv' := [(2, .int 4), (0, .ref a0), (1, .ref b0)]) hx hb dX12_copy_14 hl (k := 0) rfl (by decide) (by decide) rfl (fun ls hl => ?_)
  refine lv_goto (tgt := 2) hx hb dX12_copy_17 (by decide) ?_
  refine lv_iload_n hx hb dX12_copy_2 rfl (lv_at hl 0 rfl) ?_
  refine lv_aload_n hx hb dX12_copy_3 rfl (lv_at hl 1 rfl) ?_
  refine va_alen (v := 6) hx hb hK hP 0 0 rfl rfl rfl dX12_copy_4 ?_
  refine lv_icmp_ge (tgt := 20) hx hb dX12_copy_5 (by decide) (fun c9 => absurd c9 (by decide)) (fun _ => ?_)
  refine lv_aload_n hx hb dX12_copy_8 rfl (lv_at hl 2 rfl) ?_
  refine lv_iload_n hx hb dX12_copy_9 rfl (lv_at hl 0 rfl) ?_
  refine lv_aload_n hx hb dX12_copy_10 rfl (lv_at hl 1 rfl) ?_
  refine lv_iload_n hx hb dX12_copy_11 rfl (lv_at hl 0 rfl) ?_
  refine va_iald hx hb hK hP 0 0 rfl rfl (by unfold vp_in; decide) dX12_copy_12 ?_
  refine lv_topi (fun x_9 ex_9 => ?_)
  refine va_iast hx hb hK hP hD hS 1 0 rfl rfl (by unfold vp_in; decide) dX12_copy_13 (fun H locs hP hD hS => ?_)
  generalize upd f_8 (Int32.toNatClampNeg 4) x_9 = f_10 at hP hD
  have hP : va_P D vwCl [(a0, .inl (cT 0, 6, .inl fa)), (b0, .inl (cT 0, 6, .inl f_10))] _ := hP
  have hD : va_D A [(a0, .inl (cT 0, 6, .inl fa)), (b0, .inl (cT 0, 6, .inl f_10))] := hD
  refine lv_iinc (v := 5) (lv' := [(2, .int 5), (0, .ref a0), (1, .ref b0)]) hx hb dX12_copy_14 hl (k := 0) rfl (by decide) (by decide) rfl (fun ls hl => ?_)
  refine lv_goto (tgt := 2) hx hb dX12_copy_17 (by decide) ?_
  refine lv_iload_n hx hb dX12_copy_2 rfl (lv_at hl 0 rfl) ?_
  refine lv_aload_n hx hb dX12_copy_3 rfl (lv_at hl 1 rfl) ?_
  refine va_alen (v := 6) hx hb hK hP 0 0 rfl rfl rfl dX12_copy_4 ?_
  refine lv_icmp_ge (tgt := 20) hx hb dX12_copy_5 (by decide) (fun c9 => absurd c9 (by decide)) (fun _ => ?_)
  refine lv_aload_n hx hb dX12_copy_8 rfl (lv_at hl 2 rfl) ?_
  refine lv_iload_n hx hb dX12_copy_9 rfl (lv_at hl 0 rfl) ?_
  refine lv_aload_n hx hb dX12_copy_10 rfl (lv_at hl 1 rfl) ?_
  refine lv_iload_n hx hb dX12_copy_11 rfl (lv_at hl 0 rfl) ?_
  refine va_iald hx hb hK hP 0 0 rfl rfl (by unfold vp_in; decide) dX12_copy_12 ?_
  refine lv_topi (fun x_11 ex_11 => ?_)
  refine va_iast hx hb hK hP hD hS 1 0 rfl rfl (by unfold vp_in; decide) dX12_copy_13 (fun H locs hP hD hS => ?_)
  generalize upd f_10 (Int32.toNatClampNeg 5) x_11 = f_12 at hP hD
  have hP : va_P D vwCl [(a0, .inl (cT 0, 6, .inl fa)), (b0, .inl (cT 0, 6, .inl f_12))] _ := hP
  have hD : va_D A [(a0, .inl (cT 0, 6, .inl fa)), (b0, .inl (cT 0, 6, .inl f_12))] := hD
  refine lv_iinc (v := 6) (lv' := [(2, .int 6), (0, .ref a0), (1, .ref b0)]) hx hb dX12_copy_14 hl (k := 0) rfl (by decide) (by decide) rfl (fun ls hl => ?_)
  refine lv_goto (tgt := 2) hx hb dX12_copy_17 (by decide) ?_
  refine lv_iload_n hx hb dX12_copy_2 rfl (lv_at hl 0 rfl) ?_
  refine lv_aload_n hx hb dX12_copy_3 rfl (lv_at hl 1 rfl) ?_
  refine va_alen (v := 6) hx hb hK hP 0 0 rfl rfl rfl dX12_copy_4 ?_
  refine lv_icmp_ge (tgt := 20) hx hb dX12_copy_5 (by decide) (fun _ => ?_) (fun c9 => absurd c9 (by decide))
  have hP9 := hP.sub (ws' := [(a0, .inl (cT 0, 6, .inl fa)), (b0, .inl (cT 0, 6, .inl f_12))]) [0, 1] rfl
  have hD9 := hD.sub (ws' := [(a0, .inl (cT 0, 6, .inl fa)), (b0, .inl (cT 0, 6, .inl f_12))]) [0, 1] (by decide) rfl
  exact W.vret hx hb hr (fun t ht hW => ⟨⟨(), rfl, trivial, ⟨f_12, by rw [ht]; exact hP9, hD9⟩⟩, hS.F ht⟩) hS.2.2 dX12_copy_20
set_option maxHeartbeats 4000000 in
set_option maxRecDepth 100000 in
theorem c_X12_copy_8 (l : Launch) (D : va_G) (cT : Nat → ClassId) (a0 : Nat) (b0 : Nat) (fa : Nat → Int32) (fb : Nat → Int32) (sz : Nat)  : Met l yX12_copy wsX12_copy ({ frames := 8, cells := 0, slots := 0, locals := 160 }) (va_Pc [.ref a0, .ref b0] (PW D cT [(a0, .inl (cT 0, 8, .inl fa)), (b0, .inl (cT 0, 8, .inl fb))] sz)) (va_Qv (fun _ : Unit => True) (fun (_ : Unit) (t : State) => ∃ (fb2 : Nat → Int32), va_P D vwCl [(a0, .inl (cT 0, 8, .inl fa)), (b0, .inl (cT 0, 8, .inl fb2))] t.heap ∧ va_D (va_A [(a0, .inl (cT 0, 8, .inl fa)), (b0, .inl (cT 0, 8, .inl fb))] sz) [(a0, .inl (cT 0, 8, .inl fa)), (b0, .inl (cT 0, 8, .inl fb2))]) (va_A [(a0, .inl (cT 0, 8, .inl fa)), (b0, .inl (cT 0, 8, .inl fb))] sz)) 0 0 (va_A [(a0, .inl (cT 0, 8, .inl fa)), (b0, .inl (cT 0, 8, .inl fb))] sz) := by
  refine Met.ofW (cc := cX12_copy) (maxL := 3) (ret := none) (by decide) rfl ?_
  intro p e s m args below meth c s₁ B hml hv
  obtain ⟨rfl, hsz, hP, hK, hD0, hG⟩ := hv
  have hx := B.exec
  have hb := B.bytes
  have hr := B.returns
  have hts := atoms_spec (ws := wsX12_copy) B.pre
  have hown : s.vm.findClass RX12 = some m.cls := findClass_of_methodNamed B.named
  have hlocks := B.notSynchronized
  subst hsz
  have hD := hD0.self (sz := s.heap.size)
  generalize hAe : va_A [(a0, .inl (cT 0, 8, .inl fa)), (b0, .inl (cT 0, 8, .inl fb))] s.heap.size = A at hD ⊢
  have hA : ∀ q : Nat, s.heap.size ≤ q → A q := fun q h => by rw [← hAe]; exact Or.inr h
  have hS : va_S A s.heap s.heap [] := va_S.rf
  have hP : va_P D vwCl [(a0, .inl (cT 0, 8, .inl fa)), (b0, .inl (cT 0, 8, .inl fb))] s.heap := hP
  have hl := lv_entry ([.ref a0, .ref b0]) (n := 3) (Nat.le_of_ble_eq_true rfl)
  rw [lg_entry_eq]
  generalize (lg_sl ([.ref a0, .ref b0]) ++ List.replicate (3 - (lg_sl ([.ref a0, .ref b0])).length) Slot.unset).toArray = ls at hl ⊢
  have hl : lv_has ls 3 [(0, .ref a0), (1, .ref b0)] := hl
  refine lv_iconst (v := 0) hx hb dX12_copy_0 (by decide) ?_
  refine lv_istore_n (lv' := [(2, .int 0), (0, .ref a0), (1, .ref b0)]) hx hb dX12_copy_1 rfl hl (by decide) rfl (fun ls hl => ?_)
  refine lv_iload_n hx hb dX12_copy_2 rfl (lv_at hl 0 rfl) ?_
  refine lv_aload_n hx hb dX12_copy_3 rfl (lv_at hl 1 rfl) ?_
  refine va_alen (v := 8) hx hb hK hP 0 0 rfl rfl rfl dX12_copy_4 ?_
  refine lv_icmp_ge (tgt := 20) hx hb dX12_copy_5 (by decide) (fun c9 => absurd c9 (by decide)) (fun _ => ?_)
  refine lv_aload_n hx hb dX12_copy_8 rfl (lv_at hl 2 rfl) ?_
  refine lv_iload_n hx hb dX12_copy_9 rfl (lv_at hl 0 rfl) ?_
  refine lv_aload_n hx hb dX12_copy_10 rfl (lv_at hl 1 rfl) ?_
  refine lv_iload_n hx hb dX12_copy_11 rfl (lv_at hl 0 rfl) ?_
  refine va_iald hx hb hK hP 0 0 rfl rfl (by unfold vp_in; decide) dX12_copy_12 ?_
  refine lv_topi (fun x_1 ex_1 => ?_)
  refine va_iast hx hb hK hP hD hS 1 0 rfl rfl (by unfold vp_in; decide) dX12_copy_13 (fun H locs hP hD hS => ?_)
  generalize upd fb (Int32.toNatClampNeg 0) x_1 = f_2 at hP hD
  have hP : va_P D vwCl [(a0, .inl (cT 0, 8, .inl fa)), (b0, .inl (cT 0, 8, .inl f_2))] _ := hP
  have hD : va_D A [(a0, .inl (cT 0, 8, .inl fa)), (b0, .inl (cT 0, 8, .inl f_2))] := hD
  refine lv_iinc (v := 1) (lv' := [(2, .int 1), (0, .ref a0), (1, .ref b0)]) hx hb dX12_copy_14 hl (k := 0) rfl (by decide) (by decide) rfl (fun ls hl => ?_)
  refine lv_goto (tgt := 2) hx hb dX12_copy_17 (by decide) ?_
  refine lv_iload_n hx hb dX12_copy_2 rfl (lv_at hl 0 rfl) ?_
  refine lv_aload_n hx hb dX12_copy_3 rfl (lv_at hl 1 rfl) ?_
  refine va_alen (v := 8) hx hb hK hP 0 0 rfl rfl rfl dX12_copy_4 ?_
  refine lv_icmp_ge (tgt := 20) hx hb dX12_copy_5 (by decide) (fun c9 => absurd c9 (by decide)) (fun _ => ?_)
  refine lv_aload_n hx hb dX12_copy_8 rfl (lv_at hl 2 rfl) ?_
  refine lv_iload_n hx hb dX12_copy_9 rfl (lv_at hl 0 rfl) ?_
  refine lv_aload_n hx hb dX12_copy_10 rfl (lv_at hl 1 rfl) ?_
  refine lv_iload_n hx hb dX12_copy_11 rfl (lv_at hl 0 rfl) ?_
  refine va_iald hx hb hK hP 0 0 rfl rfl (by unfold vp_in; decide) dX12_copy_12 ?_
  refine lv_topi (fun x_3 ex_3 => ?_)
  refine va_iast hx hb hK hP hD hS 1 0 rfl rfl (by unfold vp_in; decide) dX12_copy_13 (fun H locs hP hD hS => ?_)
  generalize upd f_2 (Int32.toNatClampNeg 1) x_3 = f_4 at hP hD
  have hP : va_P D vwCl [(a0, .inl (cT 0, 8, .inl fa)), (b0, .inl (cT 0, 8, .inl f_4))] _ := hP
  have hD : va_D A [(a0, .inl (cT 0, 8, .inl fa)), (b0, .inl (cT 0, 8, .inl f_4))] := hD
  refine lv_iinc (v := 2) (lv' := [(2, .int 2), (0, .ref a0), (1, .ref b0)]) hx hb dX12_copy_14 hl (k := 0) rfl (by decide) (by decide) rfl (fun ls hl => ?_)
  refine lv_goto (tgt := 2) hx hb dX12_copy_17 (by decide) ?_
  refine lv_iload_n hx hb dX12_copy_2 rfl (lv_at hl 0 rfl) ?_
  refine lv_aload_n hx hb dX12_copy_3 rfl (lv_at hl 1 rfl) ?_
  refine va_alen (v := 8) hx hb hK hP 0 0 rfl rfl rfl dX12_copy_4 ?_
  refine lv_icmp_ge (tgt := 20) hx hb dX12_copy_5 (by decide) (fun c9 => absurd c9 (by decide)) (fun _ => ?_)
  refine lv_aload_n hx hb dX12_copy_8 rfl (lv_at hl 2 rfl) ?_
  refine lv_iload_n hx hb dX12_copy_9 rfl (lv_at hl 0 rfl) ?_
  refine lv_aload_n hx hb dX12_copy_10 rfl (lv_at hl 1 rfl) ?_
  refine lv_iload_n hx hb dX12_copy_11 rfl (lv_at hl 0 rfl) ?_
  refine va_iald hx hb hK hP 0 0 rfl rfl (by unfold vp_in; decide) dX12_copy_12 ?_
  refine lv_topi (fun x_5 ex_5 => ?_)
  refine va_iast hx hb hK hP hD hS 1 0 rfl rfl (by unfold vp_in; decide) dX12_copy_13 (fun H locs hP hD hS => ?_)
  generalize upd f_4 (Int32.toNatClampNeg 2) x_5 = f_6 at hP hD
  have hP : va_P D vwCl [(a0, .inl (cT 0, 8, .inl fa)), (b0, .inl (cT 0, 8, .inl f_6))] _ := hP
  have hD : va_D A [(a0, .inl (cT 0, 8, .inl fa)), (b0, .inl (cT 0, 8, .inl f_6))] := hD
  refine lv_iinc (v := 3) (lv' := [(2, .int 3), (0, .ref a0), (1, .ref b0)]) hx hb dX12_copy_14 hl (k := 0) rfl (by decide) (by decide) rfl (fun ls hl => ?_)
  refine lv_goto (tgt := 2) hx hb dX12_copy_17 (by decide) ?_
  refine lv_iload_n hx hb dX12_copy_2 rfl (lv_at hl 0 rfl) ?_
  refine lv_aload_n hx hb dX12_copy_3 rfl (lv_at hl 1 rfl) ?_
  refine va_alen (v := 8) hx hb hK hP 0 0 rfl rfl rfl dX12_copy_4 ?_
  refine lv_icmp_ge (tgt := 20) hx hb dX12_copy_5 (by decide) (fun c9 => absurd c9 (by decide)) (fun _ => ?_)
  refine lv_aload_n hx hb dX12_copy_8 rfl (lv_at hl 2 rfl) ?_
  refine lv_iload_n hx hb dX12_copy_9 rfl (lv_at hl 0 rfl) ?_
  refine lv_aload_n hx hb dX12_copy_10 rfl (lv_at hl 1 rfl) ?_
  refine lv_iload_n hx hb dX12_copy_11 rfl (lv_at hl 0 rfl) ?_
  refine va_iald hx hb hK hP 0 0 rfl rfl (by unfold vp_in; decide) dX12_copy_12 ?_
  refine lv_topi (fun x_7 ex_7 => ?_)
  refine va_iast hx hb hK hP hD hS 1 0 rfl rfl (by unfold vp_in; decide) dX12_copy_13 (fun H locs hP hD hS => ?_)
  generalize upd f_6 (Int32.toNatClampNeg 3) x_7 = f_8 at hP hD
  have hP : va_P D vwCl [(a0, .inl (cT 0, 8, .inl fa)), (b0, .inl (cT 0, 8, .inl f_8))] _ := hP
  have hD : va_D A [(a0, .inl (cT 0, 8, .inl fa)), (b0, .inl (cT 0, 8, .inl f_8))] := hD
  refine lv_iinc (v := 4) (lv' := [(2, .int 4), (0, .ref a0), (1, .ref b0)]) hx hb dX12_copy_14 hl (k := 0) rfl (by decide) (by decide) rfl (fun ls hl => ?_)
  refine lv_goto (tgt := 2) hx hb dX12_copy_17 (by decide) ?_
  refine lv_iload_n hx hb dX12_copy_2 rfl (lv_at hl 0 rfl) ?_
  refine lv_aload_n hx hb dX12_copy_3 rfl (lv_at hl 1 rfl) ?_
  refine va_alen (v := 8) hx hb hK hP 0 0 rfl rfl rfl dX12_copy_4 ?_
  refine lv_icmp_ge (tgt := 20) hx hb dX12_copy_5 (by decide) (fun c9 => absurd c9 (by decide)) (fun _ => ?_)
  refine lv_aload_n hx hb dX12_copy_8 rfl (lv_at hl 2 rfl) ?_
  refine lv_iload_n hx hb dX12_copy_9 rfl (lv_at hl 0 rfl) ?_
  refine lv_aload_n hx hb dX12_copy_10 rfl (lv_at hl 1 rfl) ?_
  refine lv_iload_n hx hb dX12_copy_11 rfl (lv_at hl 0 rfl) ?_
  refine va_iald hx hb hK hP 0 0 rfl rfl (by unfold vp_in; decide) dX12_copy_12 ?_
  refine lv_topi (fun x_9 ex_9 => ?_)
  refine va_iast hx hb hK hP hD hS 1 0 rfl rfl (by unfold vp_in; decide) dX12_copy_13 (fun H locs hP hD hS => ?_)
  generalize upd f_8 (Int32.toNatClampNeg 4) x_9 = f_10 at hP hD
  have hP : va_P D vwCl [(a0, .inl (cT 0, 8, .inl fa)), (b0, .inl (cT 0, 8, .inl f_10))] _ := hP
  have hD : va_D A [(a0, .inl (cT 0, 8, .inl fa)), (b0, .inl (cT 0, 8, .inl f_10))] := hD
  refine lv_iinc (v := 5) (lv' := [(2, .int 5), (0, .ref a0), (1, .ref b0)]) hx hb dX12_copy_14 hl (k := 0) rfl (by decide) (by decide) rfl (fun ls hl => ?_)
  refine lv_goto (tgt := 2) hx hb dX12_copy_17 (by decide) ?_
  refine lv_iload_n hx hb dX12_copy_2 rfl (lv_at hl 0 rfl) ?_
  refine lv_aload_n hx hb dX12_copy_3 rfl (lv_at hl 1 rfl) ?_
  refine va_alen (v := 8) hx hb hK hP 0 0 rfl rfl rfl dX12_copy_4 ?_
  refine lv_icmp_ge (tgt := 20) hx hb dX12_copy_5 (by decide) (fun c9 => absurd c9 (by decide)) (fun _ => ?_)
  refine lv_aload_n hx hb dX12_copy_8 rfl (lv_at hl 2 rfl) ?_
  refine lv_iload_n hx hb dX12_copy_9 rfl (lv_at hl 0 rfl) ?_
  refine lv_aload_n hx hb dX12_copy_10 rfl (lv_at hl 1 rfl) ?_
  refine lv_iload_n hx hb dX12_copy_11 rfl (lv_at hl 0 rfl) ?_
  refine va_iald hx hb hK hP 0 0 rfl rfl (by unfold vp_in; decide) dX12_copy_12 ?_
  refine lv_topi (fun x_11 ex_11 => ?_)
  refine va_iast hx hb hK hP hD hS 1 0 rfl rfl (by unfold vp_in; decide) dX12_copy_13 (fun H locs hP hD hS => ?_)
  generalize upd f_10 (Int32.toNatClampNeg 5) x_11 = f_12 at hP hD
  have hP : va_P D vwCl [(a0, .inl (cT 0, 8, .inl fa)), (b0, .inl (cT 0, 8, .inl f_12))] _ := hP
  have hD : va_D A [(a0, .inl (cT 0, 8, .inl fa)), (b0, .inl (cT 0, 8, .inl f_12))] := hD
  refine lv_iinc (v := 6) (lv' := [(2, .int 6), (0, .ref a0), (1, .ref b0)]) hx hb dX12_copy_14 hl (k := 0) rfl (by decide) (by decide) rfl (fun ls hl => ?_)
  refine lv_goto (tgt := 2) hx hb dX12_copy_17 (by decide) ?_
  refine lv_iload_n hx hb dX12_copy_2 rfl (lv_at hl 0 rfl) ?_
  refine lv_aload_n hx hb dX12_copy_3 rfl (lv_at hl 1 rfl) ?_
  refine va_alen (v := 8) hx hb hK hP 0 0 rfl rfl rfl dX12_copy_4 ?_
  refine lv_icmp_ge (tgt := 20) hx hb dX12_copy_5 (by decide) (fun c9 => absurd c9 (by decide)) (fun _ => ?_)
  refine lv_aload_n hx hb dX12_copy_8 rfl (lv_at hl 2 rfl) ?_
  refine lv_iload_n hx hb dX12_copy_9 rfl (lv_at hl 0 rfl) ?_
  refine lv_aload_n hx hb dX12_copy_10 rfl (lv_at hl 1 rfl) ?_
  refine lv_iload_n hx hb dX12_copy_11 rfl (lv_at hl 0 rfl) ?_
  refine va_iald hx hb hK hP 0 0 rfl rfl (by unfold vp_in; decide) dX12_copy_12 ?_
  refine lv_topi (fun x_13 ex_13 => ?_)
  refine va_iast hx hb hK hP hD hS 1 0 rfl rfl (by unfold vp_in; decide) dX12_copy_13 (fun H locs hP hD hS => ?_)
  generalize upd f_12 (Int32.toNatClampNeg 6) x_13 = f_14 at hP hD
  have hP : va_P D vwCl [(a0, .inl (cT 0, 8, .inl fa)), (b0, .inl (cT 0, 8, .inl f_14))] _ := hP
  have hD : va_D A [(a0, .inl (cT 0, 8, .inl fa)), (b0, .inl (cT 0, 8, .inl f_14))] := hD
  refine lv_iinc (v := 7) (lv' := [(2, .int 7), (0, .ref a0), (1, .ref b0)]) hx hb dX12_copy_14 hl (k := 0) rfl (by decide) (by decide) rfl (fun ls hl => ?_)
  refine lv_goto (tgt := 2) hx hb dX12_copy_17 (by decide) ?_
  refine lv_iload_n hx hb dX12_copy_2 rfl (lv_at hl 0 rfl) ?_
  refine lv_aload_n hx hb dX12_copy_3 rfl (lv_at hl 1 rfl) ?_
  refine va_alen (v := 8) hx hb hK hP 0 0 rfl rfl rfl dX12_copy_4 ?_
  refine lv_icmp_ge (tgt := 20) hx hb dX12_copy_5 (by decide) (fun c9 => absurd c9 (by decide)) (fun _ => ?_)
  refine lv_aload_n hx hb dX12_copy_8 rfl (lv_at hl 2 rfl) ?_
  refine lv_iload_n hx hb dX12_copy_9 rfl (lv_at hl 0 rfl) ?_
  refine lv_aload_n hx hb dX12_copy_10 rfl (lv_at hl 1 rfl) ?_
  refine lv_iload_n hx hb dX12_copy_11 rfl (lv_at hl 0 rfl) ?_
  refine va_iald hx hb hK hP 0 0 rfl rfl (by unfold vp_in; decide) dX12_copy_12 ?_
  refine lv_topi (fun x_15 ex_15 => ?_)
  refine va_iast hx hb hK hP hD hS 1 0 rfl rfl (by unfold vp_in; decide) dX12_copy_13 (fun H locs hP hD hS => ?_)
  generalize upd f_14 (Int32.toNatClampNeg 7) x_15 = f_16 at hP hD
  have hP : va_P D vwCl [(a0, .inl (cT 0, 8, .inl fa)), (b0, .inl (cT 0, 8, .inl f_16))] _ := hP
  have hD : va_D A [(a0, .inl (cT 0, 8, .inl fa)), (b0, .inl (cT 0, 8, .inl f_16))] := hD
  refine lv_iinc (v := 8) (lv' := [(2, .int 8), (0, .ref a0), (1, .ref b0)]) hx hb dX12_copy_14 hl (k := 0) rfl (by decide) (by decide) rfl (fun ls hl => ?_)
  refine lv_goto (tgt := 2) hx hb dX12_copy_17 (by decide) ?_
  refine lv_iload_n hx hb dX12_copy_2 rfl (lv_at hl 0 rfl) ?_
  refine lv_aload_n hx hb dX12_copy_3 rfl (lv_at hl 1 rfl) ?_
  refine va_alen (v := 8) hx hb hK hP 0 0 rfl rfl rfl dX12_copy_4 ?_
  refine lv_icmp_ge (tgt := 20) hx hb dX12_copy_5 (by decide) (fun _ => ?_) (fun c9 => absurd c9 (by decide))
  have hP9 := hP.sub (ws' := [(a0, .inl (cT 0, 8, .inl fa)), (b0, .inl (cT 0, 8, .inl f_16))]) [0, 1] rfl
  have hD9 := hD.sub (ws' := [(a0, .inl (cT 0, 8, .inl fa)), (b0, .inl (cT 0, 8, .inl f_16))]) [0, 1] (by decide) rfl
  exact W.vret hx hb hr (fun t ht hW => ⟨⟨(), rfl, trivial, ⟨f_16, by rw [ht]; exact hP9, hD9⟩⟩, hS.F ht⟩) hS.2.2 dX12_copy_20
set_option maxHeartbeats 4000000 in
set_option maxRecDepth 100000 in
theorem c_X12_copy_12 (l : Launch) (D : va_G) (cT : Nat → ClassId) (a0 : Nat) (b0 : Nat) (fa : Nat → Int32) (fb : Nat → Int32) (sz : Nat)  : Met l yX12_copy wsX12_copy ({ frames := 8, cells := 0, slots := 0, locals := 160 }) (va_Pc [.ref a0, .ref b0] (PW D cT [(a0, .inl (cT 0, 12, .inl fa)), (b0, .inl (cT 0, 12, .inl fb))] sz)) (va_Qv (fun _ : Unit => True) (fun (_ : Unit) (t : State) => ∃ (fb2 : Nat → Int32), va_P D vwCl [(a0, .inl (cT 0, 12, .inl fa)), (b0, .inl (cT 0, 12, .inl fb2))] t.heap ∧ va_D (va_A [(a0, .inl (cT 0, 12, .inl fa)), (b0, .inl (cT 0, 12, .inl fb))] sz) [(a0, .inl (cT 0, 12, .inl fa)), (b0, .inl (cT 0, 12, .inl fb2))]) (va_A [(a0, .inl (cT 0, 12, .inl fa)), (b0, .inl (cT 0, 12, .inl fb))] sz)) 0 0 (va_A [(a0, .inl (cT 0, 12, .inl fa)), (b0, .inl (cT 0, 12, .inl fb))] sz) := by
  refine Met.ofW (cc := cX12_copy) (maxL := 3) (ret := none) (by decide) rfl ?_
  intro p e s m args below meth c s₁ B hml hv
  obtain ⟨rfl, hsz, hP, hK, hD0, hG⟩ := hv
  have hx := B.exec
  have hb := B.bytes
  have hr := B.returns
  have hts := atoms_spec (ws := wsX12_copy) B.pre
  have hown : s.vm.findClass RX12 = some m.cls := findClass_of_methodNamed B.named
  have hlocks := B.notSynchronized
  subst hsz
  have hD := hD0.self (sz := s.heap.size)
  generalize hAe : va_A [(a0, .inl (cT 0, 12, .inl fa)), (b0, .inl (cT 0, 12, .inl fb))] s.heap.size = A at hD ⊢
  have hA : ∀ q : Nat, s.heap.size ≤ q → A q := fun q h => by rw [← hAe]; exact Or.inr h
  have hS : va_S A s.heap s.heap [] := va_S.rf
  have hP : va_P D vwCl [(a0, .inl (cT 0, 12, .inl fa)), (b0, .inl (cT 0, 12, .inl fb))] s.heap := hP
  have hl := lv_entry ([.ref a0, .ref b0]) (n := 3) (Nat.le_of_ble_eq_true rfl)
  rw [lg_entry_eq]
  generalize (lg_sl ([.ref a0, .ref b0]) ++ List.replicate (3 - (lg_sl ([.ref a0, .ref b0])).length) Slot.unset).toArray = ls at hl ⊢
  have hl : lv_has ls 3 [(0, .ref a0), (1, .ref b0)] := hl
  refine lv_iconst (v := 0) hx hb dX12_copy_0 (by decide) ?_
  refine lv_istore_n (lv' := [(2, .int 0), (0, .ref a0), (1, .ref b0)]) hx hb dX12_copy_1 rfl hl (by decide) rfl (fun ls hl => ?_)
  refine lv_iload_n hx hb dX12_copy_2 rfl (lv_at hl 0 rfl) ?_
  refine lv_aload_n hx hb dX12_copy_3 rfl (lv_at hl 1 rfl) ?_
  refine va_alen (v := 12) hx hb hK hP 0 0 rfl rfl rfl dX12_copy_4 ?_
  refine lv_icmp_ge (tgt := 20) hx hb dX12_copy_5 (by decide) (fun c9 => absurd c9 (by decide)) (fun _ => ?_)
  refine lv_aload_n hx hb dX12_copy_8 rfl (lv_at hl 2 rfl) ?_
  refine lv_iload_n hx hb dX12_copy_9 rfl (lv_at hl 0 rfl) ?_
  refine lv_aload_n hx hb dX12_copy_10 rfl (lv_at hl 1 rfl) ?_
  refine lv_iload_n hx hb dX12_copy_11 rfl (lv_at hl 0 rfl) ?_
  refine va_iald hx hb hK hP 0 0 rfl rfl (by unfold vp_in; decide) dX12_copy_12 ?_
  refine lv_topi (fun x_1 ex_1 => ?_)
  refine va_iast hx hb hK hP hD hS 1 0 rfl rfl (by unfold vp_in; decide) dX12_copy_13 (fun H locs hP hD hS => ?_)
  generalize upd fb (Int32.toNatClampNeg 0) x_1 = f_2 at hP hD
  have hP : va_P D vwCl [(a0, .inl (cT 0, 12, .inl fa)), (b0, .inl (cT 0, 12, .inl f_2))] _ := hP
  have hD : va_D A [(a0, .inl (cT 0, 12, .inl fa)), (b0, .inl (cT 0, 12, .inl f_2))] := hD
  refine lv_iinc (v := 1) (lv' := [(2, .int 1), (0, .ref a0), (1, .ref b0)]) hx hb dX12_copy_14 hl (k := 0) rfl (by decide) (by decide) rfl (fun ls hl => ?_)
  refine lv_goto (tgt := 2) hx hb dX12_copy_17 (by decide) ?_
  refine lv_iload_n hx hb dX12_copy_2 rfl (lv_at hl 0 rfl) ?_
  refine lv_aload_n hx hb dX12_copy_3 rfl (lv_at hl 1 rfl) ?_
  refine va_alen (v := 12) hx hb hK hP 0 0 rfl rfl rfl dX12_copy_4 ?_
  refine lv_icmp_ge (tgt := 20) hx hb dX12_copy_5 (by decide) (fun c9 => absurd c9 (by decide)) (fun _ => ?_)
  refine lv_aload_n hx hb dX12_copy_8 rfl (lv_at hl 2 rfl) ?_
  refine lv_iload_n hx hb dX12_copy_9 rfl (lv_at hl 0 rfl) ?_
  refine lv_aload_n hx hb dX12_copy_10 rfl (lv_at hl 1 rfl) ?_
  refine lv_iload_n hx hb dX12_copy_11 rfl (lv_at hl 0 rfl) ?_
  refine va_iald hx hb hK hP 0 0 rfl rfl (by unfold vp_in; decide) dX12_copy_12 ?_
  refine lv_topi (fun x_3 ex_3 => ?_)
  refine va_iast hx hb hK hP hD hS 1 0 rfl rfl (by unfold vp_in; decide) dX12_copy_13 (fun H locs hP hD hS => ?_)
  generalize upd f_2 (Int32.toNatClampNeg 1) x_3 = f_4 at hP hD
  have hP : va_P D vwCl [(a0, .inl (cT 0, 12, .inl fa)), (b0, .inl (cT 0, 12, .inl f_4))] _ := hP
  have hD : va_D A [(a0, .inl (cT 0, 12, .inl fa)), (b0, .inl (cT 0, 12, .inl f_4))] := hD
  refine lv_iinc (v := 2) (lv' := [(2, .int 2), (0, .ref a0), (1, .ref b0)]) hx hb dX12_copy_14 hl (k := 0) rfl (by decide) (by decide) rfl (fun ls hl => ?_)
  refine lv_goto (tgt := 2) hx hb dX12_copy_17 (by decide) ?_
  refine lv_iload_n hx hb dX12_copy_2 rfl (lv_at hl 0 rfl) ?_
  refine lv_aload_n hx hb dX12_copy_3 rfl (lv_at hl 1 rfl) ?_
  refine va_alen (v := 12) hx hb hK hP 0 0 rfl rfl rfl dX12_copy_4 ?_
  refine lv_icmp_ge (tgt := 20) hx hb dX12_copy_5 (by decide) (fun c9 => absurd c9 (by decide)) (fun _ => ?_)
  refine lv_aload_n hx hb dX12_copy_8 rfl (lv_at hl 2 rfl) ?_
  refine lv_iload_n hx hb dX12_copy_9 rfl (lv_at hl 0 rfl) ?_
  refine lv_aload_n hx hb dX12_copy_10 rfl (lv_at hl 1 rfl) ?_
  refine lv_iload_n hx hb dX12_copy_11 rfl (lv_at hl 0 rfl) ?_
  refine va_iald hx hb hK hP 0 0 rfl rfl (by unfold vp_in; decide) dX12_copy_12 ?_
  refine lv_topi (fun x_5 ex_5 => ?_)
  refine va_iast hx hb hK hP hD hS 1 0 rfl rfl (by unfold vp_in; decide) dX12_copy_13 (fun H locs hP hD hS => ?_)
  generalize upd f_4 (Int32.toNatClampNeg 2) x_5 = f_6 at hP hD
  have hP : va_P D vwCl [(a0, .inl (cT 0, 12, .inl fa)), (b0, .inl (cT 0, 12, .inl f_6))] _ := hP
  have hD : va_D A [(a0, .inl (cT 0, 12, .inl fa)), (b0, .inl (cT 0, 12, .inl f_6))] := hD
  refine lv_iinc (v := 3) (lv' := [(2, .int 3), (0, .ref a0), (1, .ref b0)]) hx hb dX12_copy_14 hl (k := 0) rfl (by decide) (by decide) rfl (fun ls hl => ?_)
  refine lv_goto (tgt := 2) hx hb dX12_copy_17 (by decide) ?_
  refine lv_iload_n hx hb dX12_copy_2 rfl (lv_at hl 0 rfl) ?_
  refine lv_aload_n hx hb dX12_copy_3 rfl (lv_at hl 1 rfl) ?_
  refine va_alen (v := 12) hx hb hK hP 0 0 rfl rfl rfl dX12_copy_4 ?_
  refine lv_icmp_ge (tgt := 20) hx hb dX12_copy_5 (by decide) (fun c9 => absurd c9 (by decide)) (fun _ => ?_)
  refine lv_aload_n hx hb dX12_copy_8 rfl (lv_at hl 2 rfl) ?_
  refine lv_iload_n hx hb dX12_copy_9 rfl (lv_at hl 0 rfl) ?_
  refine lv_aload_n hx hb dX12_copy_10 rfl (lv_at hl 1 rfl) ?_
  refine lv_iload_n hx hb dX12_copy_11 rfl (lv_at hl 0 rfl) ?_
  refine va_iald hx hb hK hP 0 0 rfl rfl (by unfold vp_in; decide) dX12_copy_12 ?_
  refine lv_topi (fun x_7 ex_7 => ?_)
  refine va_iast hx hb hK hP hD hS 1 0 rfl rfl (by unfold vp_in; decide) dX12_copy_13 (fun H locs hP hD hS => ?_)
  generalize upd f_6 (Int32.toNatClampNeg 3) x_7 = f_8 at hP hD
  have hP : va_P D vwCl [(a0, .inl (cT 0, 12, .inl fa)), (b0, .inl (cT 0, 12, .inl f_8))] _ := hP
  have hD : va_D A [(a0, .inl (cT 0, 12, .inl fa)), (b0, .inl (cT 0, 12, .inl f_8))] := hD
  refine lv_iinc (v := 4) (lv' := [(2, .int 4), (0, .ref a0), (1, .ref b0)]) hx hb dX12_copy_14 hl (k := 0) rfl (by decide) (by decide) rfl (fun ls hl => ?_)
  refine lv_goto (tgt := 2) hx hb dX12_copy_17 (by decide) ?_
  refine lv_iload_n hx hb dX12_copy_2 rfl (lv_at hl 0 rfl) ?_
  refine lv_aload_n hx hb dX12_copy_3 rfl (lv_at hl 1 rfl) ?_
  refine va_alen (v := 12) hx hb hK hP 0 0 rfl rfl rfl dX12_copy_4 ?_
  refine lv_icmp_ge (tgt := 20) hx hb dX12_copy_5 (by decide) (fun c9 => absurd c9 (by decide)) (fun _ => ?_)
  refine lv_aload_n hx hb dX12_copy_8 rfl (lv_at hl 2 rfl) ?_
  refine lv_iload_n hx hb dX12_copy_9 rfl (lv_at hl 0 rfl) ?_
  refine lv_aload_n hx hb dX12_copy_10 rfl (lv_at hl 1 rfl) ?_
  refine lv_iload_n hx hb dX12_copy_11 rfl (lv_at hl 0 rfl) ?_
  refine va_iald hx hb hK hP 0 0 rfl rfl (by unfold vp_in; decide) dX12_copy_12 ?_
  refine lv_topi (fun x_9 ex_9 => ?_)
  refine va_iast hx hb hK hP hD hS 1 0 rfl rfl (by unfold vp_in; decide) dX12_copy_13 (fun H locs hP hD hS => ?_)
  generalize upd f_8 (Int32.toNatClampNeg 4) x_9 = f_10 at hP hD
  have hP : va_P D vwCl [(a0, .inl (cT 0, 12, .inl fa)), (b0, .inl (cT 0, 12, .inl f_10))] _ := hP
  have hD : va_D A [(a0, .inl (cT 0, 12, .inl fa)), (b0, .inl (cT 0, 12, .inl f_10))] := hD
  refine lv_iinc (v := 5) (lv' := [(2, .int 5), (0, .ref a0), (1, .ref b0)]) hx hb dX12_copy_14 hl (k := 0) rfl (by decide) (by decide) rfl (fun ls hl => ?_)
  refine lv_goto (tgt := 2) hx hb dX12_copy_17 (by decide) ?_
  refine lv_iload_n hx hb dX12_copy_2 rfl (lv_at hl 0 rfl) ?_
  refine lv_aload_n hx hb dX12_copy_3 rfl (lv_at hl 1 rfl) ?_
  refine va_alen (v := 12) hx hb hK hP 0 0 rfl rfl rfl dX12_copy_4 ?_
  refine lv_icmp_ge (tgt := 20) hx hb dX12_copy_5 (by decide) (fun c9 => absurd c9 (by decide)) (fun _ => ?_)
  refine lv_aload_n hx hb dX12_copy_8 rfl (lv_at hl 2 rfl) ?_
  refine lv_iload_n hx hb dX12_copy_9 rfl (lv_at hl 0 rfl) ?_
  refine lv_aload_n hx hb dX12_copy_10 rfl (lv_at hl 1 rfl) ?_
  refine lv_iload_n hx hb dX12_copy_11 rfl (lv_at hl 0 rfl) ?_
  refine va_iald hx hb hK hP 0 0 rfl rfl (by unfold vp_in; decide) dX12_copy_12 ?_
  refine lv_topi (fun x_11 ex_11 => ?_)
  refine va_iast hx hb hK hP hD hS 1 0 rfl rfl (by unfold vp_in; decide) dX12_copy_13 (fun H locs hP hD hS => ?_)
  generalize upd f_10 (Int32.toNatClampNeg 5) x_11 = f_12 at hP hD
  have hP : va_P D vwCl [(a0, .inl (cT 0, 12, .inl fa)), (b0, .inl (cT 0, 12, .inl f_12))] _ := hP
  have hD : va_D A [(a0, .inl (cT 0, 12, .inl fa)), (b0, .inl (cT 0, 12, .inl f_12))] := hD
  refine lv_iinc (v := 6) (lv' := [(2, .int 6), (0, .ref a0), (1, .ref b0)]) hx hb dX12_copy_14 hl (k := 0) rfl (by decide) (by decide) rfl (fun ls hl => ?_)
  refine lv_goto (tgt := 2) hx hb dX12_copy_17 (by decide) ?_
  refine lv_iload_n hx hb dX12_copy_2 rfl (lv_at hl 0 rfl) ?_
  refine lv_aload_n hx hb dX12_copy_3 rfl (lv_at hl 1 rfl) ?_
  refine va_alen (v := 12) hx hb hK hP 0 0 rfl rfl rfl dX12_copy_4 ?_
  refine lv_icmp_ge (tgt := 20) hx hb dX12_copy_5 (by decide) (fun c9 => absurd c9 (by decide)) (fun _ => ?_)
  refine lv_aload_n hx hb dX12_copy_8 rfl (lv_at hl 2 rfl) ?_
  refine lv_iload_n hx hb dX12_copy_9 rfl (lv_at hl 0 rfl) ?_
  refine lv_aload_n hx hb dX12_copy_10 rfl (lv_at hl 1 rfl) ?_
  refine lv_iload_n hx hb dX12_copy_11 rfl (lv_at hl 0 rfl) ?_
  refine va_iald hx hb hK hP 0 0 rfl rfl (by unfold vp_in; decide) dX12_copy_12 ?_
  refine lv_topi (fun x_13 ex_13 => ?_)
  refine va_iast hx hb hK hP hD hS 1 0 rfl rfl (by unfold vp_in; decide) dX12_copy_13 (fun H locs hP hD hS => ?_)
  generalize upd f_12 (Int32.toNatClampNeg 6) x_13 = f_14 at hP hD
  have hP : va_P D vwCl [(a0, .inl (cT 0, 12, .inl fa)), (b0, .inl (cT 0, 12, .inl f_14))] _ := hP
  have hD : va_D A [(a0, .inl (cT 0, 12, .inl fa)), (b0, .inl (cT 0, 12, .inl f_14))] := hD
  refine lv_iinc (v := 7) (lv' := [(2, .int 7), (0, .ref a0), (1, .ref b0)]) hx hb dX12_copy_14 hl (k := 0) rfl (by decide) (by decide) rfl (fun ls hl => ?_)
  refine lv_goto (tgt := 2) hx hb dX12_copy_17 (by decide) ?_
  refine lv_iload_n hx hb dX12_copy_2 rfl (lv_at hl 0 rfl) ?_
  refine lv_aload_n hx hb dX12_copy_3 rfl (lv_at hl 1 rfl) ?_
  refine va_alen (v := 12) hx hb hK hP 0 0 rfl rfl rfl dX12_copy_4 ?_
  refine lv_icmp_ge (tgt := 20) hx hb dX12_copy_5 (by decide) (fun c9 => absurd c9 (by decide)) (fun _ => ?_)
  refine lv_aload_n hx hb dX12_copy_8 rfl (lv_at hl 2 rfl) ?_
  refine lv_iload_n hx hb dX12_copy_9 rfl (lv_at hl 0 rfl) ?_
  refine lv_aload_n hx hb dX12_copy_10 rfl (lv_at hl 1 rfl) ?_
  refine lv_iload_n hx hb dX12_copy_11 rfl (lv_at hl 0 rfl) ?_
  refine va_iald hx hb hK hP 0 0 rfl rfl (by unfold vp_in; decide) dX12_copy_12 ?_
  refine lv_topi (fun x_15 ex_15 => ?_)
  refine va_iast hx hb hK hP hD hS 1 0 rfl rfl (by unfold vp_in; decide) dX12_copy_13 (fun H locs hP hD hS => ?_)
  generalize upd f_14 (Int32.toNatClampNeg 7) x_15 = f_16 at hP hD
  have hP : va_P D vwCl [(a0, .inl (cT 0, 12, .inl fa)), (b0, .inl (cT 0, 12, .inl f_16))] _ := hP
  have hD : va_D A [(a0, .inl (cT 0, 12, .inl fa)), (b0, .inl (cT 0, 12, .inl f_16))] := hD
  refine lv_iinc (v := 8) (lv' := [(2, .int 8), (0, .ref a0), (1, .ref b0)]) hx hb dX12_copy_14 hl (k := 0) rfl (by decide) (by decide) rfl (fun ls hl => ?_)
  refine lv_goto (tgt := 2) hx hb dX12_copy_17 (by decide) ?_
  refine lv_iload_n hx hb dX12_copy_2 rfl (lv_at hl 0 rfl) ?_
  refine lv_aload_n hx hb dX12_copy_3 rfl (lv_at hl 1 rfl) ?_
  refine va_alen (v := 12) hx hb hK hP 0 0 rfl rfl rfl dX12_copy_4 ?_
  refine lv_icmp_ge (tgt := 20) hx hb dX12_copy_5 (by decide) (fun c9 => absurd c9 (by decide)) (fun _ => ?_)
  refine lv_aload_n hx hb dX12_copy_8 rfl (lv_at hl 2 rfl) ?_
  refine lv_iload_n hx hb dX12_copy_9 rfl (lv_at hl 0 rfl) ?_
  refine lv_aload_n hx hb dX12_copy_10 rfl (lv_at hl 1 rfl) ?_
  refine lv_iload_n hx hb dX12_copy_11 rfl (lv_at hl 0 rfl) ?_
  refine va_iald hx hb hK hP 0 0 rfl rfl (by unfold vp_in; decide) dX12_copy_12 ?_
  refine lv_topi (fun x_17 ex_17 => ?_)
  refine va_iast hx hb hK hP hD hS 1 0 rfl rfl (by unfold vp_in; decide) dX12_copy_13 (fun H locs hP hD hS => ?_)
  generalize upd f_16 (Int32.toNatClampNeg 8) x_17 = f_18 at hP hD
  have hP : va_P D vwCl [(a0, .inl (cT 0, 12, .inl fa)), (b0, .inl (cT 0, 12, .inl f_18))] _ := hP
  have hD : va_D A [(a0, .inl (cT 0, 12, .inl fa)), (b0, .inl (cT 0, 12, .inl f_18))] := hD
  refine lv_iinc (v := 9) (lv' := [(2, .int 9), (0, .ref a0), (1, .ref b0)]) hx hb dX12_copy_14 hl (k := 0) rfl (by decide) (by decide) rfl (fun ls hl => ?_)
  refine lv_goto (tgt := 2) hx hb dX12_copy_17 (by decide) ?_
  refine lv_iload_n hx hb dX12_copy_2 rfl (lv_at hl 0 rfl) ?_
  refine lv_aload_n hx hb dX12_copy_3 rfl (lv_at hl 1 rfl) ?_
  refine va_alen (v := 12) hx hb hK hP 0 0 rfl rfl rfl dX12_copy_4 ?_
  refine lv_icmp_ge (tgt := 20) hx hb dX12_copy_5 (by decide) (fun c9 => absurd c9 (by decide)) (fun _ => ?_)
  refine lv_aload_n hx hb dX12_copy_8 rfl (lv_at hl 2 rfl) ?_
  refine lv_iload_n hx hb dX12_copy_9 rfl (lv_at hl 0 rfl) ?_
  refine lv_aload_n hx hb dX12_copy_10 rfl (lv_at hl 1 rfl) ?_
  refine lv_iload_n hx hb dX12_copy_11 rfl (lv_at hl 0 rfl) ?_
  refine va_iald hx hb hK hP 0 0 rfl rfl (by unfold vp_in; decide) dX12_copy_12 ?_
  refine lv_topi (fun x_19 ex_19 => ?_)
  refine va_iast hx hb hK hP hD hS 1 0 rfl rfl (by unfold vp_in; decide) dX12_copy_13 (fun H locs hP hD hS => ?_)
  generalize upd f_18 (Int32.toNatClampNeg 9) x_19 = f_20 at hP hD
  have hP : va_P D vwCl [(a0, .inl (cT 0, 12, .inl fa)), (b0, .inl (cT 0, 12, .inl f_20))] _ := hP
  have hD : va_D A [(a0, .inl (cT 0, 12, .inl fa)), (b0, .inl (cT 0, 12, .inl f_20))] := hD
  refine lv_iinc (v := 10) (lv' := [(2, .int 10), (0, .ref a0), (1, .ref b0)]) hx hb dX12_copy_14 hl (k := 0) rfl (by decide) (by decide) rfl (fun ls hl => ?_)
  refine lv_goto (tgt := 2) hx hb dX12_copy_17 (by decide) ?_
  refine lv_iload_n hx hb dX12_copy_2 rfl (lv_at hl 0 rfl) ?_
  refine lv_aload_n hx hb dX12_copy_3 rfl (lv_at hl 1 rfl) ?_
  refine va_alen (v := 12) hx hb hK hP 0 0 rfl rfl rfl dX12_copy_4 ?_
  refine lv_icmp_ge (tgt := 20) hx hb dX12_copy_5 (by decide) (fun c9 => absurd c9 (by decide)) (fun _ => ?_)
  refine lv_aload_n hx hb dX12_copy_8 rfl (lv_at hl 2 rfl) ?_
  refine lv_iload_n hx hb dX12_copy_9 rfl (lv_at hl 0 rfl) ?_
  refine lv_aload_n hx hb dX12_copy_10 rfl (lv_at hl 1 rfl) ?_
  refine lv_iload_n hx hb dX12_copy_11 rfl (lv_at hl 0 rfl) ?_
  refine va_iald hx hb hK hP 0 0 rfl rfl (by unfold vp_in; decide) dX12_copy_12 ?_
  refine lv_topi (fun x_21 ex_21 => ?_)
  refine va_iast hx hb hK hP hD hS 1 0 rfl rfl (by unfold vp_in; decide) dX12_copy_13 (fun H locs hP hD hS => ?_)
  generalize upd f_20 (Int32.toNatClampNeg 10) x_21 = f_22 at hP hD
  have hP : va_P D vwCl [(a0, .inl (cT 0, 12, .inl fa)), (b0, .inl (cT 0, 12, .inl f_22))] _ := hP
  have hD : va_D A [(a0, .inl (cT 0, 12, .inl fa)), (b0, .inl (cT 0, 12, .inl f_22))] := hD
  refine lv_iinc (v := 11) (lv' := [(2, .int 11), (0, .ref a0), (1, .ref b0)]) hx hb dX12_copy_14 hl (k := 0) rfl (by decide) (by decide) rfl (fun ls hl => ?_)
  refine lv_goto (tgt := 2) hx hb dX12_copy_17 (by decide) ?_
  refine lv_iload_n hx hb dX12_copy_2 rfl (lv_at hl 0 rfl) ?_
  refine lv_aload_n hx hb dX12_copy_3 rfl (lv_at hl 1 rfl) ?_
  refine va_alen (v := 12) hx hb hK hP 0 0 rfl rfl rfl dX12_copy_4 ?_
  refine lv_icmp_ge (tgt := 20) hx hb dX12_copy_5 (by decide) (fun c9 => absurd c9 (by decide)) (fun _ => ?_)
  refine lv_aload_n hx hb dX12_copy_8 rfl (lv_at hl 2 rfl) ?_
  refine lv_iload_n hx hb dX12_copy_9 rfl (lv_at hl 0 rfl) ?_
  refine lv_aload_n hx hb dX12_copy_10 rfl (lv_at hl 1 rfl) ?_
  refine lv_iload_n hx hb dX12_copy_11 rfl (lv_at hl 0 rfl) ?_
  refine va_iald hx hb hK hP 0 0 rfl rfl (by unfold vp_in; decide) dX12_copy_12 ?_
  refine lv_topi (fun x_23 ex_23 => ?_)
  refine va_iast hx hb hK hP hD hS 1 0 rfl rfl (by unfold vp_in; decide) dX12_copy_13 (fun H locs hP hD hS => ?_)
  generalize upd f_22 (Int32.toNatClampNeg 11) x_23 = f_24 at hP hD
  have hP : va_P D vwCl [(a0, .inl (cT 0, 12, .inl fa)), (b0, .inl (cT 0, 12, .inl f_24))] _ := hP
  have hD : va_D A [(a0, .inl (cT 0, 12, .inl fa)), (b0, .inl (cT 0, 12, .inl f_24))] := hD
  refine lv_iinc (v := 12) (lv' := [(2, .int 12), (0, .ref a0), (1, .ref b0)]) hx hb dX12_copy_14 hl (k := 0) rfl (by decide) (by decide) rfl (fun ls hl => ?_)
  refine lv_goto (tgt := 2) hx hb dX12_copy_17 (by decide) ?_
  refine lv_iload_n hx hb dX12_copy_2 rfl (lv_at hl 0 rfl) ?_
  refine lv_aload_n hx hb dX12_copy_3 rfl (lv_at hl 1 rfl) ?_
  refine va_alen (v := 12) hx hb hK hP 0 0 rfl rfl rfl dX12_copy_4 ?_
  refine lv_icmp_ge (tgt := 20) hx hb dX12_copy_5 (by decide) (fun _ => ?_) (fun c9 => absurd c9 (by decide))
  have hP9 := hP.sub (ws' := [(a0, .inl (cT 0, 12, .inl fa)), (b0, .inl (cT 0, 12, .inl f_24))]) [0, 1] rfl
  have hD9 := hD.sub (ws' := [(a0, .inl (cT 0, 12, .inl fa)), (b0, .inl (cT 0, 12, .inl f_24))]) [0, 1] (by decide) rfl
  exact W.vret hx hb hr (fun t ht hW => ⟨⟨(), rfl, trivial, ⟨f_24, by rw [ht]; exact hP9, hD9⟩⟩, hS.F ht⟩) hS.2.2 dX12_copy_20
set_option maxHeartbeats 4000000 in
set_option maxRecDepth 100000 in
theorem c_X12_copy_30 (l : Launch) (D : va_G) (cT : Nat → ClassId) (a0 : Nat) (b0 : Nat) (fa : Nat → Int32) (fb : Nat → Int32) (sz : Nat)  : Met l yX12_copy wsX12_copy ({ frames := 8, cells := 0, slots := 0, locals := 160 }) (va_Pc [.ref a0, .ref b0] (PW D cT [(a0, .inl (cT 0, 30, .inl fa)), (b0, .inl (cT 0, 30, .inl fb))] sz)) (va_Qv (fun _ : Unit => True) (fun (_ : Unit) (t : State) => ∃ (fb2 : Nat → Int32), va_P D vwCl [(a0, .inl (cT 0, 30, .inl fa)), (b0, .inl (cT 0, 30, .inl fb2))] t.heap ∧ va_D (va_A [(a0, .inl (cT 0, 30, .inl fa)), (b0, .inl (cT 0, 30, .inl fb))] sz) [(a0, .inl (cT 0, 30, .inl fa)), (b0, .inl (cT 0, 30, .inl fb2))]) (va_A [(a0, .inl (cT 0, 30, .inl fa)), (b0, .inl (cT 0, 30, .inl fb))] sz)) 0 0 (va_A [(a0, .inl (cT 0, 30, .inl fa)), (b0, .inl (cT 0, 30, .inl fb))] sz) := by
  refine Met.ofW (cc := cX12_copy) (maxL := 3) (ret := none) (by decide) rfl ?_
  intro p e s m args below meth c s₁ B hml hv
  obtain ⟨rfl, hsz, hP, hK, hD0, hG⟩ := hv
  have hx := B.exec
  have hb := B.bytes
  have hr := B.returns
  have hts := atoms_spec (ws := wsX12_copy) B.pre
  have hown : s.vm.findClass RX12 = some m.cls := findClass_of_methodNamed B.named
  have hlocks := B.notSynchronized
  subst hsz
  have hD := hD0.self (sz := s.heap.size)
  generalize hAe : va_A [(a0, .inl (cT 0, 30, .inl fa)), (b0, .inl (cT 0, 30, .inl fb))] s.heap.size = A at hD ⊢
  have hA : ∀ q : Nat, s.heap.size ≤ q → A q := fun q h => by rw [← hAe]; exact Or.inr h
  have hS : va_S A s.heap s.heap [] := va_S.rf
  have hP : va_P D vwCl [(a0, .inl (cT 0, 30, .inl fa)), (b0, .inl (cT 0, 30, .inl fb))] s.heap := hP
  have hl := lv_entry ([.ref a0, .ref b0]) (n := 3) (Nat.le_of_ble_eq_true rfl)
  rw [lg_entry_eq]
  generalize (lg_sl ([.ref a0, .ref b0]) ++ List.replicate (3 - (lg_sl ([.ref a0, .ref b0])).length) Slot.unset).toArray = ls at hl ⊢
  have hl : lv_has ls 3 [(0, .ref a0), (1, .ref b0)] := hl
  refine lv_iconst (v := 0) hx hb dX12_copy_0 (by decide) ?_
  refine lv_istore_n (lv' := [(2, .int 0), (0, .ref a0), (1, .ref b0)]) hx hb dX12_copy_1 rfl hl (by decide) rfl (fun ls hl => ?_)
  refine lv_iload_n hx hb dX12_copy_2 rfl (lv_at hl 0 rfl) ?_
  refine lv_aload_n hx hb dX12_copy_3 rfl (lv_at hl 1 rfl) ?_
  refine va_alen (v := 30) hx hb hK hP 0 0 rfl rfl rfl dX12_copy_4 ?_
  refine lv_icmp_ge (tgt := 20) hx hb dX12_copy_5 (by decide) (fun c9 => absurd c9 (by decide)) (fun _ => ?_)
  refine lv_aload_n hx hb dX12_copy_8 rfl (lv_at hl 2 rfl) ?_
  refine lv_iload_n hx hb dX12_copy_9 rfl (lv_at hl 0 rfl) ?_
  refine lv_aload_n hx hb dX12_copy_10 rfl (lv_at hl 1 rfl) ?_
  refine lv_iload_n hx hb dX12_copy_11 rfl (lv_at hl 0 rfl) ?_
  refine va_iald hx hb hK hP 0 0 rfl rfl (by unfold vp_in; decide) dX12_copy_12 ?_
  refine lv_topi (fun x_1 ex_1 => ?_)
  refine va_iast hx hb hK hP hD hS 1 0 rfl rfl (by unfold vp_in; decide) dX12_copy_13 (fun H locs hP hD hS => ?_)
  generalize upd fb (Int32.toNatClampNeg 0) x_1 = f_2 at hP hD
  have hP : va_P D vwCl [(a0, .inl (cT 0, 30, .inl fa)), (b0, .inl (cT 0, 30, .inl f_2))] _ := hP
  have hD : va_D A [(a0, .inl (cT 0, 30, .inl fa)), (b0, .inl (cT 0, 30, .inl f_2))] := hD
  refine lv_iinc (v := 1) (lv' := [(2, .int 1), (0, .ref a0), (1, .ref b0)]) hx hb dX12_copy_14 hl (k := 0) rfl (by decide) (by decide) rfl (fun ls hl => ?_)
  refine lv_goto (tgt := 2) hx hb dX12_copy_17 (by decide) ?_
  refine lv_iload_n hx hb dX12_copy_2 rfl (lv_at hl 0 rfl) ?_
  refine lv_aload_n hx hb dX12_copy_3 rfl (lv_at hl 1 rfl) ?_
  refine va_alen (v := 30) hx hb hK hP 0 0 rfl rfl rfl dX12_copy_4 ?_
  refine lv_icmp_ge (tgt := 20) hx hb dX12_copy_5 (by decide) (fun c9 => absurd c9 (by decide)) (fun _ => ?_)
  refine lv_aload_n hx hb dX12_copy_8 rfl (lv_at hl 2 rfl) ?_
  refine lv_iload_n hx hb dX12_copy_9 rfl (lv_at hl 0 rfl) ?_
  refine lv_aload_n hx hb dX12_copy_10 rfl (lv_at hl 1 rfl) ?_
  refine lv_iload_n hx hb dX12_copy_11 rfl (lv_at hl 0 rfl) ?_
  refine va_iald hx hb hK hP 0 0 rfl rfl (by unfold vp_in; decide) dX12_copy_12 ?_
  refine lv_topi (fun x_3 ex_3 => ?_)
  refine va_iast hx hb hK hP hD hS 1 0 rfl rfl (by unfold vp_in; decide) dX12_copy_13 (fun H locs hP hD hS => ?_)
  generalize upd f_2 (Int32.toNatClampNeg 1) x_3 = f_4 at hP hD
  have hP : va_P D vwCl [(a0, .inl (cT 0, 30, .inl fa)), (b0, .inl (cT 0, 30, .inl f_4))] _ := hP
  have hD : va_D A [(a0, .inl (cT 0, 30, .inl fa)), (b0, .inl (cT 0, 30, .inl f_4))] := hD
  refine lv_iinc (v := 2) (lv' := [(2, .int 2), (0, .ref a0), (1, .ref b0)]) hx hb dX12_copy_14 hl (k := 0) rfl (by decide) (by decide) rfl (fun ls hl => ?_)
  refine lv_goto (tgt := 2) hx hb dX12_copy_17 (by decide) ?_
  refine lv_iload_n hx hb dX12_copy_2 rfl (lv_at hl 0 rfl) ?_
  refine lv_aload_n hx hb dX12_copy_3 rfl (lv_at hl 1 rfl) ?_
  refine va_alen (v := 30) hx hb hK hP 0 0 rfl rfl rfl dX12_copy_4 ?_
  refine lv_icmp_ge (tgt := 20) hx hb dX12_copy_5 (by decide) (fun c9 => absurd c9 (by decide)) (fun _ => ?_)
  refine lv_aload_n hx hb dX12_copy_8 rfl (lv_at hl 2 rfl) ?_
  refine lv_iload_n hx hb dX12_copy_9 rfl (lv_at hl 0 rfl) ?_
  refine lv_aload_n hx hb dX12_copy_10 rfl (lv_at hl 1 rfl) ?_
  refine lv_iload_n hx hb dX12_copy_11 rfl (lv_at hl 0 rfl) ?_
  refine va_iald hx hb hK hP 0 0 rfl rfl (by unfold vp_in; decide) dX12_copy_12 ?_
  refine lv_topi (fun x_5 ex_5 => ?_)
  refine va_iast hx hb hK hP hD hS 1 0 rfl rfl (by unfold vp_in; decide) dX12_copy_13 (fun H locs hP hD hS => ?_)
  generalize upd f_4 (Int32.toNatClampNeg 2) x_5 = f_6 at hP hD
  have hP : va_P D vwCl [(a0, .inl (cT 0, 30, .inl fa)), (b0, .inl (cT 0, 30, .inl f_6))] _ := hP
  have hD : va_D A [(a0, .inl (cT 0, 30, .inl fa)), (b0, .inl (cT 0, 30, .inl f_6))] := hD
  refine lv_iinc (v := 3) (lv' := [(2, .int 3), (0, .ref a0), (1, .ref b0)]) hx hb dX12_copy_14 hl (k := 0) rfl (by decide) (by decide) rfl (fun ls hl => ?_)
  refine lv_goto (tgt := 2) hx hb dX12_copy_17 (by decide) ?_
  refine lv_iload_n hx hb dX12_copy_2 rfl (lv_at hl 0 rfl) ?_
  refine lv_aload_n hx hb dX12_copy_3 rfl (lv_at hl 1 rfl) ?_
  refine va_alen (v := 30) hx hb hK hP 0 0 rfl rfl rfl dX12_copy_4 ?_
  refine lv_icmp_ge (tgt := 20) hx hb dX12_copy_5 (by decide) (fun c9 => absurd c9 (by decide)) (fun _ => ?_)
  refine lv_aload_n hx hb dX12_copy_8 rfl (lv_at hl 2 rfl) ?_
  refine lv_iload_n hx hb dX12_copy_9 rfl (lv_at hl 0 rfl) ?_
  refine lv_aload_n hx hb dX12_copy_10 rfl (lv_at hl 1 rfl) ?_
  refine lv_iload_n hx hb dX12_copy_11 rfl (lv_at hl 0 rfl) ?_
  refine va_iald hx hb hK hP 0 0 rfl rfl (by unfold vp_in; decide) dX12_copy_12 ?_
  refine lv_topi (fun x_7 ex_7 => ?_)
  refine va_iast hx hb hK hP hD hS 1 0 rfl rfl (by unfold vp_in; decide) dX12_copy_13 (fun H locs hP hD hS => ?_)
  generalize upd f_6 (Int32.toNatClampNeg 3) x_7 = f_8 at hP hD
  have hP : va_P D vwCl [(a0, .inl (cT 0, 30, .inl fa)), (b0, .inl (cT 0, 30, .inl f_8))] _ := hP
  have hD : va_D A [(a0, .inl (cT 0, 30, .inl fa)), (b0, .inl (cT 0, 30, .inl f_8))] := hD
  refine lv_iinc (v := 4) (lv' := [(2, .int 4), (0, .ref a0), (1, .ref b0)]) hx hb dX12_copy_14 hl (k := 0) rfl (by decide) (by decide) rfl (fun ls hl => ?_)
  refine lv_goto (tgt := 2) hx hb dX12_copy_17 (by decide) ?_
  refine lv_iload_n hx hb dX12_copy_2 rfl (lv_at hl 0 rfl) ?_
  refine lv_aload_n hx hb dX12_copy_3 rfl (lv_at hl 1 rfl) ?_
  refine va_alen (v := 30) hx hb hK hP 0 0 rfl rfl rfl dX12_copy_4 ?_
  refine lv_icmp_ge (tgt := 20) hx hb dX12_copy_5 (by decide) (fun c9 => absurd c9 (by decide)) (fun _ => ?_)
  refine lv_aload_n hx hb dX12_copy_8 rfl (lv_at hl 2 rfl) ?_
  refine lv_iload_n hx hb dX12_copy_9 rfl (lv_at hl 0 rfl) ?_
  refine lv_aload_n hx hb dX12_copy_10 rfl (lv_at hl 1 rfl) ?_
  refine lv_iload_n hx hb dX12_copy_11 rfl (lv_at hl 0 rfl) ?_
  refine va_iald hx hb hK hP 0 0 rfl rfl (by unfold vp_in; decide) dX12_copy_12 ?_
  refine lv_topi (fun x_9 ex_9 => ?_)
  refine va_iast hx hb hK hP hD hS 1 0 rfl rfl (by unfold vp_in; decide) dX12_copy_13 (fun H locs hP hD hS => ?_)
  generalize upd f_8 (Int32.toNatClampNeg 4) x_9 = f_10 at hP hD
  have hP : va_P D vwCl [(a0, .inl (cT 0, 30, .inl fa)), (b0, .inl (cT 0, 30, .inl f_10))] _ := hP
  have hD : va_D A [(a0, .inl (cT 0, 30, .inl fa)), (b0, .inl (cT 0, 30, .inl f_10))] := hD
  refine lv_iinc (v := 5) (lv' := [(2, .int 5), (0, .ref a0), (1, .ref b0)]) hx hb dX12_copy_14 hl (k := 0) rfl (by decide) (by decide) rfl (fun ls hl => ?_)
  refine lv_goto (tgt := 2) hx hb dX12_copy_17 (by decide) ?_
  refine lv_iload_n hx hb dX12_copy_2 rfl (lv_at hl 0 rfl) ?_
  refine lv_aload_n hx hb dX12_copy_3 rfl (lv_at hl 1 rfl) ?_
  refine va_alen (v := 30) hx hb hK hP 0 0 rfl rfl rfl dX12_copy_4 ?_
  refine lv_icmp_ge (tgt := 20) hx hb dX12_copy_5 (by decide) (fun c9 => absurd c9 (by decide)) (fun _ => ?_)
  refine lv_aload_n hx hb dX12_copy_8 rfl (lv_at hl 2 rfl) ?_
  refine lv_iload_n hx hb dX12_copy_9 rfl (lv_at hl 0 rfl) ?_
  refine lv_aload_n hx hb dX12_copy_10 rfl (lv_at hl 1 rfl) ?_
  refine lv_iload_n hx hb dX12_copy_11 rfl (lv_at hl 0 rfl) ?_
  refine va_iald hx hb hK hP 0 0 rfl rfl (by unfold vp_in; decide) dX12_copy_12 ?_
  refine lv_topi (fun x_11 ex_11 => ?_)
  refine va_iast hx hb hK hP hD hS 1 0 rfl rfl (by unfold vp_in; decide) dX12_copy_13 (fun H locs hP hD hS => ?_)
  generalize upd f_10 (Int32.toNatClampNeg 5) x_11 = f_12 at hP hD
  have hP : va_P D vwCl [(a0, .inl (cT 0, 30, .inl fa)), (b0, .inl (cT 0, 30, .inl f_12))] _ := hP
  have hD : va_D A [(a0, .inl (cT 0, 30, .inl fa)), (b0, .inl (cT 0, 30, .inl f_12))] := hD
  refine lv_iinc (v := 6) (lv' := [(2, .int 6), (0, .ref a0), (1, .ref b0)]) hx hb dX12_copy_14 hl (k := 0) rfl (by decide) (by decide) rfl (fun ls hl => ?_)
  refine lv_goto (tgt := 2) hx hb dX12_copy_17 (by decide) ?_
  refine lv_iload_n hx hb dX12_copy_2 rfl (lv_at hl 0 rfl) ?_
  refine lv_aload_n hx hb dX12_copy_3 rfl (lv_at hl 1 rfl) ?_
  refine va_alen (v := 30) hx hb hK hP 0 0 rfl rfl rfl dX12_copy_4 ?_
  refine lv_icmp_ge (tgt := 20) hx hb dX12_copy_5 (by decide) (fun c9 => absurd c9 (by decide)) (fun _ => ?_)
  refine lv_aload_n hx hb dX12_copy_8 rfl (lv_at hl 2 rfl) ?_
  refine lv_iload_n hx hb dX12_copy_9 rfl (lv_at hl 0 rfl) ?_
  refine lv_aload_n hx hb dX12_copy_10 rfl (lv_at hl 1 rfl) ?_
  refine lv_iload_n hx hb dX12_copy_11 rfl (lv_at hl 0 rfl) ?_
  refine va_iald hx hb hK hP 0 0 rfl rfl (by unfold vp_in; decide) dX12_copy_12 ?_
  refine lv_topi (fun x_13 ex_13 => ?_)
  refine va_iast hx hb hK hP hD hS 1 0 rfl rfl (by unfold vp_in; decide) dX12_copy_13 (fun H locs hP hD hS => ?_)
  generalize upd f_12 (Int32.toNatClampNeg 6) x_13 = f_14 at hP hD
  have hP : va_P D vwCl [(a0, .inl (cT 0, 30, .inl fa)), (b0, .inl (cT 0, 30, .inl f_14))] _ := hP
  have hD : va_D A [(a0, .inl (cT 0, 30, .inl fa)), (b0, .inl (cT 0, 30, .inl f_14))] := hD
  refine lv_iinc (v := 7) (lv' := [(2, .int 7), (0, .ref a0), (1, .ref b0)]) hx hb dX12_copy_14 hl (k := 0) rfl (by decide) (by decide) rfl (fun ls hl => ?_)
  refine lv_goto (tgt := 2) hx hb dX12_copy_17 (by decide) ?_
  refine lv_iload_n hx hb dX12_copy_2 rfl (lv_at hl 0 rfl) ?_
  refine lv_aload_n hx hb dX12_copy_3 rfl (lv_at hl 1 rfl) ?_
  refine va_alen (v := 30) hx hb hK hP 0 0 rfl rfl rfl dX12_copy_4 ?_
  refine lv_icmp_ge (tgt := 20) hx hb dX12_copy_5 (by decide) (fun c9 => absurd c9 (by decide)) (fun _ => ?_)
  refine lv_aload_n hx hb dX12_copy_8 rfl (lv_at hl 2 rfl) ?_
  refine lv_iload_n hx hb dX12_copy_9 rfl (lv_at hl 0 rfl) ?_
  refine lv_aload_n hx hb dX12_copy_10 rfl (lv_at hl 1 rfl) ?_
  refine lv_iload_n hx hb dX12_copy_11 rfl (lv_at hl 0 rfl) ?_
  refine va_iald hx hb hK hP 0 0 rfl rfl (by unfold vp_in; decide) dX12_copy_12 ?_
  refine lv_topi (fun x_15 ex_15 => ?_)
  refine va_iast hx hb hK hP hD hS 1 0 rfl rfl (by unfold vp_in; decide) dX12_copy_13 (fun H locs hP hD hS => ?_)
  generalize upd f_14 (Int32.toNatClampNeg 7) x_15 = f_16 at hP hD
  have hP : va_P D vwCl [(a0, .inl (cT 0, 30, .inl fa)), (b0, .inl (cT 0, 30, .inl f_16))] _ := hP
  have hD : va_D A [(a0, .inl (cT 0, 30, .inl fa)), (b0, .inl (cT 0, 30, .inl f_16))] := hD
  refine lv_iinc (v := 8) (lv' := [(2, .int 8), (0, .ref a0), (1, .ref b0)]) hx hb dX12_copy_14 hl (k := 0) rfl (by decide) (by decide) rfl (fun ls hl => ?_)
  refine lv_goto (tgt := 2) hx hb dX12_copy_17 (by decide) ?_
  refine lv_iload_n hx hb dX12_copy_2 rfl (lv_at hl 0 rfl) ?_
  refine lv_aload_n hx hb dX12_copy_3 rfl (lv_at hl 1 rfl) ?_
  refine va_alen (v := 30) hx hb hK hP 0 0 rfl rfl rfl dX12_copy_4 ?_
  refine lv_icmp_ge (tgt := 20) hx hb dX12_copy_5 (by decide) (fun c9 => absurd c9 (by decide)) (fun _ => ?_)
  refine lv_aload_n hx hb dX12_copy_8 rfl (lv_at hl 2 rfl) ?_
  refine lv_iload_n hx hb dX12_copy_9 rfl (lv_at hl 0 rfl) ?_
  refine lv_aload_n hx hb dX12_copy_10 rfl (lv_at hl 1 rfl) ?_
  refine lv_iload_n hx hb dX12_copy_11 rfl (lv_at hl 0 rfl) ?_
  refine va_iald hx hb hK hP 0 0 rfl rfl (by unfold vp_in; decide) dX12_copy_12 ?_
  refine lv_topi (fun x_17 ex_17 => ?_)
  refine va_iast hx hb hK hP hD hS 1 0 rfl rfl (by unfold vp_in; decide) dX12_copy_13 (fun H locs hP hD hS => ?_)
  generalize upd f_16 (Int32.toNatClampNeg 8) x_17 = f_18 at hP hD
  have hP : va_P D vwCl [(a0, .inl (cT 0, 30, .inl fa)), (b0, .inl (cT 0, 30, .inl f_18))] _ := hP
  have hD : va_D A [(a0, .inl (cT 0, 30, .inl fa)), (b0, .inl (cT 0, 30, .inl f_18))] := hD
  refine lv_iinc (v := 9) (lv' := [(2, .int 9), (0, .ref a0), (1, .ref b0)]) hx hb dX12_copy_14 hl (k := 0) rfl (by decide) (by decide) rfl (fun ls hl => ?_)
  refine lv_goto (tgt := 2) hx hb dX12_copy_17 (by decide) ?_
  refine lv_iload_n hx hb dX12_copy_2 rfl (lv_at hl 0 rfl) ?_
  refine lv_aload_n hx hb dX12_copy_3 rfl (lv_at hl 1 rfl) ?_
  refine va_alen (v := 30) hx hb hK hP 0 0 rfl rfl rfl dX12_copy_4 ?_
  refine lv_icmp_ge (tgt := 20) hx hb dX12_copy_5 (by decide) (fun c9 => absurd c9 (by decide)) (fun _ => ?_)
  refine lv_aload_n hx hb dX12_copy_8 rfl (lv_at hl 2 rfl) ?_
  refine lv_iload_n hx hb dX12_copy_9 rfl (lv_at hl 0 rfl) ?_
  refine lv_aload_n hx hb dX12_copy_10 rfl (lv_at hl 1 rfl) ?_
  refine lv_iload_n hx hb dX12_copy_11 rfl (lv_at hl 0 rfl) ?_
  refine va_iald hx hb hK hP 0 0 rfl rfl (by unfold vp_in; decide) dX12_copy_12 ?_
  refine lv_topi (fun x_19 ex_19 => ?_)
  refine va_iast hx hb hK hP hD hS 1 0 rfl rfl (by unfold vp_in; decide) dX12_copy_13 (fun H locs hP hD hS => ?_)
  generalize upd f_18 (Int32.toNatClampNeg 9) x_19 = f_20 at hP hD
  have hP : va_P D vwCl [(a0, .inl (cT 0, 30, .inl fa)), (b0, .inl (cT 0, 30, .inl f_20))] _ := hP
  have hD : va_D A [(a0, .inl (cT 0, 30, .inl fa)), (b0, .inl (cT 0, 30, .inl f_20))] := hD
  refine lv_iinc (v := 10) (lv' := [(2, .int 10), (0, .ref a0), (1, .ref b0)]) hx hb dX12_copy_14 hl (k := 0) rfl (by decide) (by decide) rfl (fun ls hl => ?_)
  refine lv_goto (tgt := 2) hx hb dX12_copy_17 (by decide) ?_
  refine lv_iload_n hx hb dX12_copy_2 rfl (lv_at hl 0 rfl) ?_
  refine lv_aload_n hx hb dX12_copy_3 rfl (lv_at hl 1 rfl) ?_
  refine va_alen (v := 30) hx hb hK hP 0 0 rfl rfl rfl dX12_copy_4 ?_
  refine lv_icmp_ge (tgt := 20) hx hb dX12_copy_5 (by decide) (fun c9 => absurd c9 (by decide)) (fun _ => ?_)
  refine lv_aload_n hx hb dX12_copy_8 rfl (lv_at hl 2 rfl) ?_
  refine lv_iload_n hx hb dX12_copy_9 rfl (lv_at hl 0 rfl) ?_
  refine lv_aload_n hx hb dX12_copy_10 rfl (lv_at hl 1 rfl) ?_
  refine lv_iload_n hx hb dX12_copy_11 rfl (lv_at hl 0 rfl) ?_
  refine va_iald hx hb hK hP 0 0 rfl rfl (by unfold vp_in; decide) dX12_copy_12 ?_
  refine lv_topi (fun x_21 ex_21 => ?_)
  refine va_iast hx hb hK hP hD hS 1 0 rfl rfl (by unfold vp_in; decide) dX12_copy_13 (fun H locs hP hD hS => ?_)
  generalize upd f_20 (Int32.toNatClampNeg 10) x_21 = f_22 at hP hD
  have hP : va_P D vwCl [(a0, .inl (cT 0, 30, .inl fa)), (b0, .inl (cT 0, 30, .inl f_22))] _ := hP
  have hD : va_D A [(a0, .inl (cT 0, 30, .inl fa)), (b0, .inl (cT 0, 30, .inl f_22))] := hD
  refine lv_iinc (v := 11) (lv' := [(2, .int 11), (0, .ref a0), (1, .ref b0)]) hx hb dX12_copy_14 hl (k := 0) rfl (by decide) (by decide) rfl (fun ls hl => ?_)
  refine lv_goto (tgt := 2) hx hb dX12_copy_17 (by decide) ?_
  refine lv_iload_n hx hb dX12_copy_2 rfl (lv_at hl 0 rfl) ?_
  refine lv_aload_n hx hb dX12_copy_3 rfl (lv_at hl 1 rfl) ?_
  refine va_alen (v := 30) hx hb hK hP 0 0 rfl rfl rfl dX12_copy_4 ?_
  refine lv_icmp_ge (tgt := 20) hx hb dX12_copy_5 (by decide) (fun c9 => absurd c9 (by decide)) (fun _ => ?_)
  refine lv_aload_n hx hb dX12_copy_8 rfl (lv_at hl 2 rfl) ?_
  refine lv_iload_n hx hb dX12_copy_9 rfl (lv_at hl 0 rfl) ?_
  refine lv_aload_n hx hb dX12_copy_10 rfl (lv_at hl 1 rfl) ?_
  refine lv_iload_n hx hb dX12_copy_11 rfl (lv_at hl 0 rfl) ?_
  refine va_iald hx hb hK hP 0 0 rfl rfl (by unfold vp_in; decide) dX12_copy_12 ?_
  refine lv_topi (fun x_23 ex_23 => ?_)
  refine va_iast hx hb hK hP hD hS 1 0 rfl rfl (by unfold vp_in; decide) dX12_copy_13 (fun H locs hP hD hS => ?_)
  generalize upd f_22 (Int32.toNatClampNeg 11) x_23 = f_24 at hP hD
  have hP : va_P D vwCl [(a0, .inl (cT 0, 30, .inl fa)), (b0, .inl (cT 0, 30, .inl f_24))] _ := hP
  have hD : va_D A [(a0, .inl (cT 0, 30, .inl fa)), (b0, .inl (cT 0, 30, .inl f_24))] := hD
  refine lv_iinc (v := 12) (lv' := [(2, .int 12), (0, .ref a0), (1, .ref b0)]) hx hb dX12_copy_14 hl (k := 0) rfl (by decide) (by decide) rfl (fun ls hl => ?_)
  refine lv_goto (tgt := 2) hx hb dX12_copy_17 (by decide) ?_
  refine lv_iload_n hx hb dX12_copy_2 rfl (lv_at hl 0 rfl) ?_
  refine lv_aload_n hx hb dX12_copy_3 rfl (lv_at hl 1 rfl) ?_
  refine va_alen (v := 30) hx hb hK hP 0 0 rfl rfl rfl dX12_copy_4 ?_
  refine lv_icmp_ge (tgt := 20) hx hb dX12_copy_5 (by decide) (fun c9 => absurd c9 (by decide)) (fun _ => ?_)
  refine lv_aload_n hx hb dX12_copy_8 rfl (lv_at hl 2 rfl) ?_
  refine lv_iload_n hx hb dX12_copy_9 rfl (lv_at hl 0 rfl) ?_
  refine lv_aload_n hx hb dX12_copy_10 rfl (lv_at hl 1 rfl) ?_
  refine lv_iload_n hx hb dX12_copy_11 rfl (lv_at hl 0 rfl) ?_
  refine va_iald hx hb hK hP 0 0 rfl rfl (by unfold vp_in; decide) dX12_copy_12 ?_
  refine lv_topi (fun x_25 ex_25 => ?_)
  refine va_iast hx hb hK hP hD hS 1 0 rfl rfl (by unfold vp_in; decide) dX12_copy_13 (fun H locs hP hD hS => ?_)
  generalize upd f_24 (Int32.toNatClampNeg 12) x_25 = f_26 at hP hD
  have hP : va_P D vwCl [(a0, .inl (cT 0, 30, .inl fa)), (b0, .inl (cT 0, 30, .inl f_26))] _ := hP
  have hD : va_D A [(a0, .inl (cT 0, 30, .inl fa)), (b0, .inl (cT 0, 30, .inl f_26))] := hD
  refine lv_iinc (v := 13) (lv' := [(2, .int 13), (0, .ref a0), (1, .ref b0)]) hx hb dX12_copy_14 hl (k := 0) rfl (by decide) (by decide) rfl (fun ls hl => ?_)
  refine lv_goto (tgt := 2) hx hb dX12_copy_17 (by decide) ?_
  refine lv_iload_n hx hb dX12_copy_2 rfl (lv_at hl 0 rfl) ?_
  refine lv_aload_n hx hb dX12_copy_3 rfl (lv_at hl 1 rfl) ?_
  refine va_alen (v := 30) hx hb hK hP 0 0 rfl rfl rfl dX12_copy_4 ?_
  refine lv_icmp_ge (tgt := 20) hx hb dX12_copy_5 (by decide) (fun c9 => absurd c9 (by decide)) (fun _ => ?_)
  refine lv_aload_n hx hb dX12_copy_8 rfl (lv_at hl 2 rfl) ?_
  refine lv_iload_n hx hb dX12_copy_9 rfl (lv_at hl 0 rfl) ?_
  refine lv_aload_n hx hb dX12_copy_10 rfl (lv_at hl 1 rfl) ?_
  refine lv_iload_n hx hb dX12_copy_11 rfl (lv_at hl 0 rfl) ?_
  refine va_iald hx hb hK hP 0 0 rfl rfl (by unfold vp_in; decide) dX12_copy_12 ?_
  refine lv_topi (fun x_27 ex_27 => ?_)
  refine va_iast hx hb hK hP hD hS 1 0 rfl rfl (by unfold vp_in; decide) dX12_copy_13 (fun H locs hP hD hS => ?_)
  generalize upd f_26 (Int32.toNatClampNeg 13) x_27 = f_28 at hP hD
  have hP : va_P D vwCl [(a0, .inl (cT 0, 30, .inl fa)), (b0, .inl (cT 0, 30, .inl f_28))] _ := hP
  have hD : va_D A [(a0, .inl (cT 0, 30, .inl fa)), (b0, .inl (cT 0, 30, .inl f_28))] := hD
  refine lv_iinc (v := 14) (lv' := [(2, .int 14), (0, .ref a0), (1, .ref b0)]) hx hb dX12_copy_14 hl (k := 0) rfl (by decide) (by decide) rfl (fun ls hl => ?_)
  refine lv_goto (tgt := 2) hx hb dX12_copy_17 (by decide) ?_
  refine lv_iload_n hx hb dX12_copy_2 rfl (lv_at hl 0 rfl) ?_
  refine lv_aload_n hx hb dX12_copy_3 rfl (lv_at hl 1 rfl) ?_
  refine va_alen (v := 30) hx hb hK hP 0 0 rfl rfl rfl dX12_copy_4 ?_
  refine lv_icmp_ge (tgt := 20) hx hb dX12_copy_5 (by decide) (fun c9 => absurd c9 (by decide)) (fun _ => ?_)
  refine lv_aload_n hx hb dX12_copy_8 rfl (lv_at hl 2 rfl) ?_
  refine lv_iload_n hx hb dX12_copy_9 rfl (lv_at hl 0 rfl) ?_
  refine lv_aload_n hx hb dX12_copy_10 rfl (lv_at hl 1 rfl) ?_
  refine lv_iload_n hx hb dX12_copy_11 rfl (lv_at hl 0 rfl) ?_
  refine va_iald hx hb hK hP 0 0 rfl rfl (by unfold vp_in; decide) dX12_copy_12 ?_
  refine lv_topi (fun x_29 ex_29 => ?_)
  refine va_iast hx hb hK hP hD hS 1 0 rfl rfl (by unfold vp_in; decide) dX12_copy_13 (fun H locs hP hD hS => ?_)
  generalize upd f_28 (Int32.toNatClampNeg 14) x_29 = f_30 at hP hD
  have hP : va_P D vwCl [(a0, .inl (cT 0, 30, .inl fa)), (b0, .inl (cT 0, 30, .inl f_30))] _ := hP
  have hD : va_D A [(a0, .inl (cT 0, 30, .inl fa)), (b0, .inl (cT 0, 30, .inl f_30))] := hD
  refine lv_iinc (v := 15) (lv' := [(2, .int 15), (0, .ref a0), (1, .ref b0)]) hx hb dX12_copy_14 hl (k := 0) rfl (by decide) (by decide) rfl (fun ls hl => ?_)
  refine lv_goto (tgt := 2) hx hb dX12_copy_17 (by decide) ?_
  refine lv_iload_n hx hb dX12_copy_2 rfl (lv_at hl 0 rfl) ?_
  refine lv_aload_n hx hb dX12_copy_3 rfl (lv_at hl 1 rfl) ?_
  refine va_alen (v := 30) hx hb hK hP 0 0 rfl rfl rfl dX12_copy_4 ?_
  refine lv_icmp_ge (tgt := 20) hx hb dX12_copy_5 (by decide) (fun c9 => absurd c9 (by decide)) (fun _ => ?_)
  refine lv_aload_n hx hb dX12_copy_8 rfl (lv_at hl 2 rfl) ?_
  refine lv_iload_n hx hb dX12_copy_9 rfl (lv_at hl 0 rfl) ?_
  refine lv_aload_n hx hb dX12_copy_10 rfl (lv_at hl 1 rfl) ?_
  refine lv_iload_n hx hb dX12_copy_11 rfl (lv_at hl 0 rfl) ?_
  refine va_iald hx hb hK hP 0 0 rfl rfl (by unfold vp_in; decide) dX12_copy_12 ?_
  refine lv_topi (fun x_31 ex_31 => ?_)
  refine va_iast hx hb hK hP hD hS 1 0 rfl rfl (by unfold vp_in; decide) dX12_copy_13 (fun H locs hP hD hS => ?_)
  generalize upd f_30 (Int32.toNatClampNeg 15) x_31 = f_32 at hP hD
  have hP : va_P D vwCl [(a0, .inl (cT 0, 30, .inl fa)), (b0, .inl (cT 0, 30, .inl f_32))] _ := hP
  have hD : va_D A [(a0, .inl (cT 0, 30, .inl fa)), (b0, .inl (cT 0, 30, .inl f_32))] := hD
  refine lv_iinc (v := 16) (lv' := [(2, .int 16), (0, .ref a0), (1, .ref b0)]) hx hb dX12_copy_14 hl (k := 0) rfl (by decide) (by decide) rfl (fun ls hl => ?_)
  refine lv_goto (tgt := 2) hx hb dX12_copy_17 (by decide) ?_
  refine lv_iload_n hx hb dX12_copy_2 rfl (lv_at hl 0 rfl) ?_
  refine lv_aload_n hx hb dX12_copy_3 rfl (lv_at hl 1 rfl) ?_
  refine va_alen (v := 30) hx hb hK hP 0 0 rfl rfl rfl dX12_copy_4 ?_
  refine lv_icmp_ge (tgt := 20) hx hb dX12_copy_5 (by decide) (fun c9 => absurd c9 (by decide)) (fun _ => ?_)
  refine lv_aload_n hx hb dX12_copy_8 rfl (lv_at hl 2 rfl) ?_
  refine lv_iload_n hx hb dX12_copy_9 rfl (lv_at hl 0 rfl) ?_
  refine lv_aload_n hx hb dX12_copy_10 rfl (lv_at hl 1 rfl) ?_
  refine lv_iload_n hx hb dX12_copy_11 rfl (lv_at hl 0 rfl) ?_
  refine va_iald hx hb hK hP 0 0 rfl rfl (by unfold vp_in; decide) dX12_copy_12 ?_
  refine lv_topi (fun x_33 ex_33 => ?_)
  refine va_iast hx hb hK hP hD hS 1 0 rfl rfl (by unfold vp_in; decide) dX12_copy_13 (fun H locs hP hD hS => ?_)
  generalize upd f_32 (Int32.toNatClampNeg 16) x_33 = f_34 at hP hD
  have hP : va_P D vwCl [(a0, .inl (cT 0, 30, .inl fa)), (b0, .inl (cT 0, 30, .inl f_34))] _ := hP
  have hD : va_D A [(a0, .inl (cT 0, 30, .inl fa)), (b0, .inl (cT 0, 30, .inl f_34))] := hD
  refine lv_iinc (v := 17) (lv' := [(2, .int 17), (0, .ref a0), (1, .ref b0)]) hx hb dX12_copy_14 hl (k := 0) rfl (by decide) (by decide) rfl (fun ls hl => ?_)
  refine lv_goto (tgt := 2) hx hb dX12_copy_17 (by decide) ?_
  refine lv_iload_n hx hb dX12_copy_2 rfl (lv_at hl 0 rfl) ?_
  refine lv_aload_n hx hb dX12_copy_3 rfl (lv_at hl 1 rfl) ?_
  refine va_alen (v := 30) hx hb hK hP 0 0 rfl rfl rfl dX12_copy_4 ?_
  refine lv_icmp_ge (tgt := 20) hx hb dX12_copy_5 (by decide) (fun c9 => absurd c9 (by decide)) (fun _ => ?_)
  refine lv_aload_n hx hb dX12_copy_8 rfl (lv_at hl 2 rfl) ?_
  refine lv_iload_n hx hb dX12_copy_9 rfl (lv_at hl 0 rfl) ?_
  refine lv_aload_n hx hb dX12_copy_10 rfl (lv_at hl 1 rfl) ?_
  refine lv_iload_n hx hb dX12_copy_11 rfl (lv_at hl 0 rfl) ?_
  refine va_iald hx hb hK hP 0 0 rfl rfl (by unfold vp_in; decide) dX12_copy_12 ?_
  refine lv_topi (fun x_35 ex_35 => ?_)
  refine va_iast hx hb hK hP hD hS 1 0 rfl rfl (by unfold vp_in; decide) dX12_copy_13 (fun H locs hP hD hS => ?_)
  generalize upd f_34 (Int32.toNatClampNeg 17) x_35 = f_36 at hP hD
  have hP : va_P D vwCl [(a0, .inl (cT 0, 30, .inl fa)), (b0, .inl (cT 0, 30, .inl f_36))] _ := hP
  have hD : va_D A [(a0, .inl (cT 0, 30, .inl fa)), (b0, .inl (cT 0, 30, .inl f_36))] := hD
  refine lv_iinc (v := 18) (lv' := [(2, .int 18), (0, .ref a0), (1, .ref b0)]) hx hb dX12_copy_14 hl (k := 0) rfl (by decide) (by decide) rfl (fun ls hl => ?_)
  refine lv_goto (tgt := 2) hx hb dX12_copy_17 (by decide) ?_
  refine lv_iload_n hx hb dX12_copy_2 rfl (lv_at hl 0 rfl) ?_
  refine lv_aload_n hx hb dX12_copy_3 rfl (lv_at hl 1 rfl) ?_
  refine va_alen (v := 30) hx hb hK hP 0 0 rfl rfl rfl dX12_copy_4 ?_
  refine lv_icmp_ge (tgt := 20) hx hb dX12_copy_5 (by decide) (fun c9 => absurd c9 (by decide)) (fun _ => ?_)
  refine lv_aload_n hx hb dX12_copy_8 rfl (lv_at hl 2 rfl) ?_
  refine lv_iload_n hx hb dX12_copy_9 rfl (lv_at hl 0 rfl) ?_
  refine lv_aload_n hx hb dX12_copy_10 rfl (lv_at hl 1 rfl) ?_
  refine lv_iload_n hx hb dX12_copy_11 rfl (lv_at hl 0 rfl) ?_
  refine va_iald hx hb hK hP 0 0 rfl rfl (by unfold vp_in; decide) dX12_copy_12 ?_
  refine lv_topi (fun x_37 ex_37 => ?_)
  refine va_iast hx hb hK hP hD hS 1 0 rfl rfl (by unfold vp_in; decide) dX12_copy_13 (fun H locs hP hD hS => ?_)
  generalize upd f_36 (Int32.toNatClampNeg 18) x_37 = f_38 at hP hD
  have hP : va_P D vwCl [(a0, .inl (cT 0, 30, .inl fa)), (b0, .inl (cT 0, 30, .inl f_38))] _ := hP
  have hD : va_D A [(a0, .inl (cT 0, 30, .inl fa)), (b0, .inl (cT 0, 30, .inl f_38))] := hD
  refine lv_iinc (v := 19) (lv' := [(2, .int 19), (0, .ref a0), (1, .ref b0)]) hx hb dX12_copy_14 hl (k := 0) rfl (by decide) (by decide) rfl (fun ls hl => ?_)
  refine lv_goto (tgt := 2) hx hb dX12_copy_17 (by decide) ?_
  refine lv_iload_n hx hb dX12_copy_2 rfl (lv_at hl 0 rfl) ?_
  refine lv_aload_n hx hb dX12_copy_3 rfl (lv_at hl 1 rfl) ?_
  refine va_alen (v := 30) hx hb hK hP 0 0 rfl rfl rfl dX12_copy_4 ?_
  refine lv_icmp_ge (tgt := 20) hx hb dX12_copy_5 (by decide) (fun c9 => absurd c9 (by decide)) (fun _ => ?_)
  refine lv_aload_n hx hb dX12_copy_8 rfl (lv_at hl 2 rfl) ?_
  refine lv_iload_n hx hb dX12_copy_9 rfl (lv_at hl 0 rfl) ?_
  refine lv_aload_n hx hb dX12_copy_10 rfl (lv_at hl 1 rfl) ?_
  refine lv_iload_n hx hb dX12_copy_11 rfl (lv_at hl 0 rfl) ?_
  refine va_iald hx hb hK hP 0 0 rfl rfl (by unfold vp_in; decide) dX12_copy_12 ?_
  refine lv_topi (fun x_39 ex_39 => ?_)
  refine va_iast hx hb hK hP hD hS 1 0 rfl rfl (by unfold vp_in; decide) dX12_copy_13 (fun H locs hP hD hS => ?_)
  generalize upd f_38 (Int32.toNatClampNeg 19) x_39 = f_40 at hP hD
  have hP : va_P D vwCl [(a0, .inl (cT 0, 30, .inl fa)), (b0, .inl (cT 0, 30, .inl f_40))] _ := hP
  have hD : va_D A [(a0, .inl (cT 0, 30, .inl fa)), (b0, .inl (cT 0, 30, .inl f_40))] := hD
  refine lv_iinc (v := 20) (lv' := [(2, .int 20), (0, .ref a0), (1, .ref b0)]) hx hb dX12_copy_14 hl (k := 0) rfl (by decide) (by decide) rfl (fun ls hl => ?_)
  refine lv_goto (tgt := 2) hx hb dX12_copy_17 (by decide) ?_
  refine lv_iload_n hx hb dX12_copy_2 rfl (lv_at hl 0 rfl) ?_
  refine lv_aload_n hx hb dX12_copy_3 rfl (lv_at hl 1 rfl) ?_
  refine va_alen (v := 30) hx hb hK hP 0 0 rfl rfl rfl dX12_copy_4 ?_
  refine lv_icmp_ge (tgt := 20) hx hb dX12_copy_5 (by decide) (fun c9 => absurd c9 (by decide)) (fun _ => ?_)
  refine lv_aload_n hx hb dX12_copy_8 rfl (lv_at hl 2 rfl) ?_
  refine lv_iload_n hx hb dX12_copy_9 rfl (lv_at hl 0 rfl) ?_
  refine lv_aload_n hx hb dX12_copy_10 rfl (lv_at hl 1 rfl) ?_
  refine lv_iload_n hx hb dX12_copy_11 rfl (lv_at hl 0 rfl) ?_
  refine va_iald hx hb hK hP 0 0 rfl rfl (by unfold vp_in; decide) dX12_copy_12 ?_
  refine lv_topi (fun x_41 ex_41 => ?_)
  refine va_iast hx hb hK hP hD hS 1 0 rfl rfl (by unfold vp_in; decide) dX12_copy_13 (fun H locs hP hD hS => ?_)
  generalize upd f_40 (Int32.toNatClampNeg 20) x_41 = f_42 at hP hD
  have hP : va_P D vwCl [(a0, .inl (cT 0, 30, .inl fa)), (b0, .inl (cT 0, 30, .inl f_42))] _ := hP
  have hD : va_D A [(a0, .inl (cT 0, 30, .inl fa)), (b0, .inl (cT 0, 30, .inl f_42))] := hD
  refine lv_iinc (v := 21) (lv' := [(2, .int 21), (0, .ref a0), (1, .ref b0)]) hx hb dX12_copy_14 hl (k := 0) rfl (by decide) (by decide) rfl (fun ls hl => ?_)
  refine lv_goto (tgt := 2) hx hb dX12_copy_17 (by decide) ?_
  refine lv_iload_n hx hb dX12_copy_2 rfl (lv_at hl 0 rfl) ?_
  refine lv_aload_n hx hb dX12_copy_3 rfl (lv_at hl 1 rfl) ?_
  refine va_alen (v := 30) hx hb hK hP 0 0 rfl rfl rfl dX12_copy_4 ?_
  refine lv_icmp_ge (tgt := 20) hx hb dX12_copy_5 (by decide) (fun c9 => absurd c9 (by decide)) (fun _ => ?_)
  refine lv_aload_n hx hb dX12_copy_8 rfl (lv_at hl 2 rfl) ?_
  refine lv_iload_n hx hb dX12_copy_9 rfl (lv_at hl 0 rfl) ?_
  refine lv_aload_n hx hb dX12_copy_10 rfl (lv_at hl 1 rfl) ?_
  refine lv_iload_n hx hb dX12_copy_11 rfl (lv_at hl 0 rfl) ?_
  refine va_iald hx hb hK hP 0 0 rfl rfl (by unfold vp_in; decide) dX12_copy_12 ?_
  refine lv_topi (fun x_43 ex_43 => ?_)
  refine va_iast hx hb hK hP hD hS 1 0 rfl rfl (by unfold vp_in; decide) dX12_copy_13 (fun H locs hP hD hS => ?_)
  generalize upd f_42 (Int32.toNatClampNeg 21) x_43 = f_44 at hP hD
  have hP : va_P D vwCl [(a0, .inl (cT 0, 30, .inl fa)), (b0, .inl (cT 0, 30, .inl f_44))] _ := hP
  have hD : va_D A [(a0, .inl (cT 0, 30, .inl fa)), (b0, .inl (cT 0, 30, .inl f_44))] := hD
  refine lv_iinc (v := 22) (lv' := [(2, .int 22), (0, .ref a0), (1, .ref b0)]) hx hb dX12_copy_14 hl (k := 0) rfl (by decide) (by decide) rfl (fun ls hl => ?_)
  refine lv_goto (tgt := 2) hx hb dX12_copy_17 (by decide) ?_
  refine lv_iload_n hx hb dX12_copy_2 rfl (lv_at hl 0 rfl) ?_
  refine lv_aload_n hx hb dX12_copy_3 rfl (lv_at hl 1 rfl) ?_
  refine va_alen (v := 30) hx hb hK hP 0 0 rfl rfl rfl dX12_copy_4 ?_
  refine lv_icmp_ge (tgt := 20) hx hb dX12_copy_5 (by decide) (fun c9 => absurd c9 (by decide)) (fun _ => ?_)
  refine lv_aload_n hx hb dX12_copy_8 rfl (lv_at hl 2 rfl) ?_
  refine lv_iload_n hx hb dX12_copy_9 rfl (lv_at hl 0 rfl) ?_
  refine lv_aload_n hx hb dX12_copy_10 rfl (lv_at hl 1 rfl) ?_
  refine lv_iload_n hx hb dX12_copy_11 rfl (lv_at hl 0 rfl) ?_
  refine va_iald hx hb hK hP 0 0 rfl rfl (by unfold vp_in; decide) dX12_copy_12 ?_
  refine lv_topi (fun x_45 ex_45 => ?_)
  refine va_iast hx hb hK hP hD hS 1 0 rfl rfl (by unfold vp_in; decide) dX12_copy_13 (fun H locs hP hD hS => ?_)
  generalize upd f_44 (Int32.toNatClampNeg 22) x_45 = f_46 at hP hD
  have hP : va_P D vwCl [(a0, .inl (cT 0, 30, .inl fa)), (b0, .inl (cT 0, 30, .inl f_46))] _ := hP
  have hD : va_D A [(a0, .inl (cT 0, 30, .inl fa)), (b0, .inl (cT 0, 30, .inl f_46))] := hD
  refine lv_iinc (v := 23) (lv' := [(2, .int 23), (0, .ref a0), (1, .ref b0)]) hx hb dX12_copy_14 hl (k := 0) rfl (by decide) (by decide) rfl (fun ls hl => ?_)
  refine lv_goto (tgt := 2) hx hb dX12_copy_17 (by decide) ?_
  refine lv_iload_n hx hb dX12_copy_2 rfl (lv_at hl 0 rfl) ?_
  refine lv_aload_n hx hb dX12_copy_3 rfl (lv_at hl 1 rfl) ?_
  refine va_alen (v := 30) hx hb hK hP 0 0 rfl rfl rfl dX12_copy_4 ?_
  refine lv_icmp_ge (tgt := 20) hx hb dX12_copy_5 (by decide) (fun c9 => absurd c9 (by decide)) (fun _ => ?_)
  refine lv_aload_n hx hb dX12_copy_8 rfl (lv_at hl 2 rfl) ?_
  refine lv_iload_n hx hb dX12_copy_9 rfl (lv_at hl 0 rfl) ?_
  refine lv_aload_n hx hb dX12_copy_10 rfl (lv_at hl 1 rfl) ?_
  refine lv_iload_n hx hb dX12_copy_11 rfl (lv_at hl 0 rfl) ?_
  refine va_iald hx hb hK hP 0 0 rfl rfl (by unfold vp_in; decide) dX12_copy_12 ?_
  refine lv_topi (fun x_47 ex_47 => ?_)
  refine va_iast hx hb hK hP hD hS 1 0 rfl rfl (by unfold vp_in; decide) dX12_copy_13 (fun H locs hP hD hS => ?_)
  generalize upd f_46 (Int32.toNatClampNeg 23) x_47 = f_48 at hP hD
  have hP : va_P D vwCl [(a0, .inl (cT 0, 30, .inl fa)), (b0, .inl (cT 0, 30, .inl f_48))] _ := hP
  have hD : va_D A [(a0, .inl (cT 0, 30, .inl fa)), (b0, .inl (cT 0, 30, .inl f_48))] := hD
  refine lv_iinc (v := 24) (lv' := [(2, .int 24), (0, .ref a0), (1, .ref b0)]) hx hb dX12_copy_14 hl (k := 0) rfl (by decide) (by decide) rfl (fun ls hl => ?_)
  refine lv_goto (tgt := 2) hx hb dX12_copy_17 (by decide) ?_
  refine lv_iload_n hx hb dX12_copy_2 rfl (lv_at hl 0 rfl) ?_
  refine lv_aload_n hx hb dX12_copy_3 rfl (lv_at hl 1 rfl) ?_
  refine va_alen (v := 30) hx hb hK hP 0 0 rfl rfl rfl dX12_copy_4 ?_
  refine lv_icmp_ge (tgt := 20) hx hb dX12_copy_5 (by decide) (fun c9 => absurd c9 (by decide)) (fun _ => ?_)
  refine lv_aload_n hx hb dX12_copy_8 rfl (lv_at hl 2 rfl) ?_
  refine lv_iload_n hx hb dX12_copy_9 rfl (lv_at hl 0 rfl) ?_
  refine lv_aload_n hx hb dX12_copy_10 rfl (lv_at hl 1 rfl) ?_
  refine lv_iload_n hx hb dX12_copy_11 rfl (lv_at hl 0 rfl) ?_
  refine va_iald hx hb hK hP 0 0 rfl rfl (by unfold vp_in; decide) dX12_copy_12 ?_
  refine lv_topi (fun x_49 ex_49 => ?_)
  refine va_iast hx hb hK hP hD hS 1 0 rfl rfl (by unfold vp_in; decide) dX12_copy_13 (fun H locs hP hD hS => ?_)
  generalize upd f_48 (Int32.toNatClampNeg 24) x_49 = f_50 at hP hD
  have hP : va_P D vwCl [(a0, .inl (cT 0, 30, .inl fa)), (b0, .inl (cT 0, 30, .inl f_50))] _ := hP
  have hD : va_D A [(a0, .inl (cT 0, 30, .inl fa)), (b0, .inl (cT 0, 30, .inl f_50))] := hD
  refine lv_iinc (v := 25) (lv' := [(2, .int 25), (0, .ref a0), (1, .ref b0)]) hx hb dX12_copy_14 hl (k := 0) rfl (by decide) (by decide) rfl (fun ls hl => ?_)
  refine lv_goto (tgt := 2) hx hb dX12_copy_17 (by decide) ?_
  refine lv_iload_n hx hb dX12_copy_2 rfl (lv_at hl 0 rfl) ?_
  refine lv_aload_n hx hb dX12_copy_3 rfl (lv_at hl 1 rfl) ?_
  refine va_alen (v := 30) hx hb hK hP 0 0 rfl rfl rfl dX12_copy_4 ?_
  refine lv_icmp_ge (tgt := 20) hx hb dX12_copy_5 (by decide) (fun c9 => absurd c9 (by decide)) (fun _ => ?_)
  refine lv_aload_n hx hb dX12_copy_8 rfl (lv_at hl 2 rfl) ?_
  refine lv_iload_n hx hb dX12_copy_9 rfl (lv_at hl 0 rfl) ?_
  refine lv_aload_n hx hb dX12_copy_10 rfl (lv_at hl 1 rfl) ?_
  refine lv_iload_n hx hb dX12_copy_11 rfl (lv_at hl 0 rfl) ?_
  refine va_iald hx hb hK hP 0 0 rfl rfl (by unfold vp_in; decide) dX12_copy_12 ?_
  refine lv_topi (fun x_51 ex_51 => ?_)
  refine va_iast hx hb hK hP hD hS 1 0 rfl rfl (by unfold vp_in; decide) dX12_copy_13 (fun H locs hP hD hS => ?_)
  generalize upd f_50 (Int32.toNatClampNeg 25) x_51 = f_52 at hP hD
  have hP : va_P D vwCl [(a0, .inl (cT 0, 30, .inl fa)), (b0, .inl (cT 0, 30, .inl f_52))] _ := hP
  have hD : va_D A [(a0, .inl (cT 0, 30, .inl fa)), (b0, .inl (cT 0, 30, .inl f_52))] := hD
  refine lv_iinc (v := 26) (lv' := [(2, .int 26), (0, .ref a0), (1, .ref b0)]) hx hb dX12_copy_14 hl (k := 0) rfl (by decide) (by decide) rfl (fun ls hl => ?_)
  refine lv_goto (tgt := 2) hx hb dX12_copy_17 (by decide) ?_
  refine lv_iload_n hx hb dX12_copy_2 rfl (lv_at hl 0 rfl) ?_
  refine lv_aload_n hx hb dX12_copy_3 rfl (lv_at hl 1 rfl) ?_
  refine va_alen (v := 30) hx hb hK hP 0 0 rfl rfl rfl dX12_copy_4 ?_
  refine lv_icmp_ge (tgt := 20) hx hb dX12_copy_5 (by decide) (fun c9 => absurd c9 (by decide)) (fun _ => ?_)
  refine lv_aload_n hx hb dX12_copy_8 rfl (lv_at hl 2 rfl) ?_
  refine lv_iload_n hx hb dX12_copy_9 rfl (lv_at hl 0 rfl) ?_
  refine lv_aload_n hx hb dX12_copy_10 rfl (lv_at hl 1 rfl) ?_
  refine lv_iload_n hx hb dX12_copy_11 rfl (lv_at hl 0 rfl) ?_
  refine va_iald hx hb hK hP 0 0 rfl rfl (by unfold vp_in; decide) dX12_copy_12 ?_
  refine lv_topi (fun x_53 ex_53 => ?_)
  refine va_iast hx hb hK hP hD hS 1 0 rfl rfl (by unfold vp_in; decide) dX12_copy_13 (fun H locs hP hD hS => ?_)
  generalize upd f_52 (Int32.toNatClampNeg 26) x_53 = f_54 at hP hD
  have hP : va_P D vwCl [(a0, .inl (cT 0, 30, .inl fa)), (b0, .inl (cT 0, 30, .inl f_54))] _ := hP
  have hD : va_D A [(a0, .inl (cT 0, 30, .inl fa)), (b0, .inl (cT 0, 30, .inl f_54))] := hD
  refine lv_iinc (v := 27) (lv' := [(2, .int 27), (0, .ref a0), (1, .ref b0)]) hx hb dX12_copy_14 hl (k := 0) rfl (by decide) (by decide) rfl (fun ls hl => ?_)
  refine lv_goto (tgt := 2) hx hb dX12_copy_17 (by decide) ?_
  refine lv_iload_n hx hb dX12_copy_2 rfl (lv_at hl 0 rfl) ?_
  refine lv_aload_n hx hb dX12_copy_3 rfl (lv_at hl 1 rfl) ?_
  refine va_alen (v := 30) hx hb hK hP 0 0 rfl rfl rfl dX12_copy_4 ?_
  refine lv_icmp_ge (tgt := 20) hx hb dX12_copy_5 (by decide) (fun c9 => absurd c9 (by decide)) (fun _ => ?_)
  refine lv_aload_n hx hb dX12_copy_8 rfl (lv_at hl 2 rfl) ?_
  refine lv_iload_n hx hb dX12_copy_9 rfl (lv_at hl 0 rfl) ?_
  refine lv_aload_n hx hb dX12_copy_10 rfl (lv_at hl 1 rfl) ?_
  refine lv_iload_n hx hb dX12_copy_11 rfl (lv_at hl 0 rfl) ?_
  refine va_iald hx hb hK hP 0 0 rfl rfl (by unfold vp_in; decide) dX12_copy_12 ?_
  refine lv_topi (fun x_55 ex_55 => ?_)
  refine va_iast hx hb hK hP hD hS 1 0 rfl rfl (by unfold vp_in; decide) dX12_copy_13 (fun H locs hP hD hS => ?_)
  generalize upd f_54 (Int32.toNatClampNeg 27) x_55 = f_56 at hP hD
  have hP : va_P D vwCl [(a0, .inl (cT 0, 30, .inl fa)), (b0, .inl (cT 0, 30, .inl f_56))] _ := hP
  have hD : va_D A [(a0, .inl (cT 0, 30, .inl fa)), (b0, .inl (cT 0, 30, .inl f_56))] := hD
  refine lv_iinc (v := 28) (lv' := [(2, .int 28), (0, .ref a0), (1, .ref b0)]) hx hb dX12_copy_14 hl (k := 0) rfl (by decide) (by decide) rfl (fun ls hl => ?_)
  refine lv_goto (tgt := 2) hx hb dX12_copy_17 (by decide) ?_
  refine lv_iload_n hx hb dX12_copy_2 rfl (lv_at hl 0 rfl) ?_
  refine lv_aload_n hx hb dX12_copy_3 rfl (lv_at hl 1 rfl) ?_
  refine va_alen (v := 30) hx hb hK hP 0 0 rfl rfl rfl dX12_copy_4 ?_
  refine lv_icmp_ge (tgt := 20) hx hb dX12_copy_5 (by decide) (fun c9 => absurd c9 (by decide)) (fun _ => ?_)
  refine lv_aload_n hx hb dX12_copy_8 rfl (lv_at hl 2 rfl) ?_
  refine lv_iload_n hx hb dX12_copy_9 rfl (lv_at hl 0 rfl) ?_
  refine lv_aload_n hx hb dX12_copy_10 rfl (lv_at hl 1 rfl) ?_
  refine lv_iload_n hx hb dX12_copy_11 rfl (lv_at hl 0 rfl) ?_
  refine va_iald hx hb hK hP 0 0 rfl rfl (by unfold vp_in; decide) dX12_copy_12 ?_
  refine lv_topi (fun x_57 ex_57 => ?_)
  refine va_iast hx hb hK hP hD hS 1 0 rfl rfl (by unfold vp_in; decide) dX12_copy_13 (fun H locs hP hD hS => ?_)
  generalize upd f_56 (Int32.toNatClampNeg 28) x_57 = f_58 at hP hD
  have hP : va_P D vwCl [(a0, .inl (cT 0, 30, .inl fa)), (b0, .inl (cT 0, 30, .inl f_58))] _ := hP
  have hD : va_D A [(a0, .inl (cT 0, 30, .inl fa)), (b0, .inl (cT 0, 30, .inl f_58))] := hD
  refine lv_iinc (v := 29) (lv' := [(2, .int 29), (0, .ref a0), (1, .ref b0)]) hx hb dX12_copy_14 hl (k := 0) rfl (by decide) (by decide) rfl (fun ls hl => ?_)
  refine lv_goto (tgt := 2) hx hb dX12_copy_17 (by decide) ?_
  refine lv_iload_n hx hb dX12_copy_2 rfl (lv_at hl 0 rfl) ?_
  refine lv_aload_n hx hb dX12_copy_3 rfl (lv_at hl 1 rfl) ?_
  refine va_alen (v := 30) hx hb hK hP 0 0 rfl rfl rfl dX12_copy_4 ?_
  refine lv_icmp_ge (tgt := 20) hx hb dX12_copy_5 (by decide) (fun c9 => absurd c9 (by decide)) (fun _ => ?_)
  refine lv_aload_n hx hb dX12_copy_8 rfl (lv_at hl 2 rfl) ?_
  refine lv_iload_n hx hb dX12_copy_9 rfl (lv_at hl 0 rfl) ?_
  refine lv_aload_n hx hb dX12_copy_10 rfl (lv_at hl 1 rfl) ?_
  refine lv_iload_n hx hb dX12_copy_11 rfl (lv_at hl 0 rfl) ?_
  refine va_iald hx hb hK hP 0 0 rfl rfl (by unfold vp_in; decide) dX12_copy_12 ?_
  refine lv_topi (fun x_59 ex_59 => ?_)
  refine va_iast hx hb hK hP hD hS 1 0 rfl rfl (by unfold vp_in; decide) dX12_copy_13 (fun H locs hP hD hS => ?_)
  generalize upd f_58 (Int32.toNatClampNeg 29) x_59 = f_60 at hP hD
  have hP : va_P D vwCl [(a0, .inl (cT 0, 30, .inl fa)), (b0, .inl (cT 0, 30, .inl f_60))] _ := hP
  have hD : va_D A [(a0, .inl (cT 0, 30, .inl fa)), (b0, .inl (cT 0, 30, .inl f_60))] := hD
  refine lv_iinc (v := 30) (lv' := [(2, .int 30), (0, .ref a0), (1, .ref b0)]) hx hb dX12_copy_14 hl (k := 0) rfl (by decide) (by decide) rfl (fun ls hl => ?_)
  refine lv_goto (tgt := 2) hx hb dX12_copy_17 (by decide) ?_
  refine lv_iload_n hx hb dX12_copy_2 rfl (lv_at hl 0 rfl) ?_
  refine lv_aload_n hx hb dX12_copy_3 rfl (lv_at hl 1 rfl) ?_
  refine va_alen (v := 30) hx hb hK hP 0 0 rfl rfl rfl dX12_copy_4 ?_
  refine lv_icmp_ge (tgt := 20) hx hb dX12_copy_5 (by decide) (fun _ => ?_) (fun c9 => absurd c9 (by decide))
  have hP9 := hP.sub (ws' := [(a0, .inl (cT 0, 30, .inl fa)), (b0, .inl (cT 0, 30, .inl f_60))]) [0, 1] rfl
  have hD9 := hD.sub (ws' := [(a0, .inl (cT 0, 30, .inl fa)), (b0, .inl (cT 0, 30, .inl f_60))]) [0, 1] (by decide) rfl
  exact W.vret hx hb hr (fun t ht hW => ⟨⟨(), rfl, trivial, ⟨f_60, by rw [ht]; exact hP9, hD9⟩⟩, hS.F ht⟩) hS.2.2 dX12_copy_20
theorem dX12_isIdle_0 : decode cX12_isIdle 0 = .ok (.aload_n 0, 1) := by decide +kernel
theorem dX12_isIdle_1 : decode cX12_isIdle 1 = .ok (.getfield 219, 3) := by decide +kernel
theorem dX12_isIdle_10 : decode cX12_isIdle 10 = .ok (.iconst 1, 1) := by decide +kernel
theorem dX12_isIdle_11 : decode cX12_isIdle 11 = .ok (.iaload, 1) := by decide +kernel
theorem dX12_isIdle_12 : decode cX12_isIdle 12 = .ok (.iadd, 1) := by decide +kernel
theorem dX12_isIdle_13 : decode cX12_isIdle 13 = .ok (.aload_n 0, 1) := by decide +kernel
theorem dX12_isIdle_14 : decode cX12_isIdle 14 = .ok (.getfield 219, 3) := by decide +kernel
theorem dX12_isIdle_17 : decode cX12_isIdle 17 = .ok (.iconst 2, 1) := by decide +kernel
theorem dX12_isIdle_18 : decode cX12_isIdle 18 = .ok (.iaload, 1) := by decide +kernel
theorem dX12_isIdle_19 : decode cX12_isIdle 19 = .ok (.iadd, 1) := by decide +kernel
theorem dX12_isIdle_20 : decode cX12_isIdle 20 = .ok (.ifCond .ne 37, 3) := by decide +kernel
theorem dX12_isIdle_23 : decode cX12_isIdle 23 = .ok (.aload_n 0, 1) := by decide +kernel
theorem dX12_isIdle_24 : decode cX12_isIdle 24 = .ok (.getfield 225, 3) := by decide +kernel
theorem dX12_isIdle_27 : decode cX12_isIdle 27 = .ok (.iconst 0, 1) := by decide +kernel
theorem dX12_isIdle_28 : decode cX12_isIdle 28 = .ok (.iaload, 1) := by decide +kernel
theorem dX12_isIdle_29 : decode cX12_isIdle 29 = .ok (.iconst (-1), 1) := by decide +kernel
theorem dX12_isIdle_30 : decode cX12_isIdle 30 = .ok (.if_icmp .ne 27, 3) := by decide +kernel
theorem dX12_isIdle_33 : decode cX12_isIdle 33 = .ok (.aload_n 0, 1) := by decide +kernel
theorem dX12_isIdle_34 : decode cX12_isIdle 34 = .ok (.getfield 225, 3) := by decide +kernel
theorem dX12_isIdle_37 : decode cX12_isIdle 37 = .ok (.iconst 1, 1) := by decide +kernel
theorem dX12_isIdle_38 : decode cX12_isIdle 38 = .ok (.iaload, 1) := by decide +kernel
theorem dX12_isIdle_39 : decode cX12_isIdle 39 = .ok (.iconst (-1), 1) := by decide +kernel
theorem dX12_isIdle_4 : decode cX12_isIdle 4 = .ok (.iconst 0, 1) := by decide +kernel
theorem dX12_isIdle_40 : decode cX12_isIdle 40 = .ok (.if_icmp .ne 17, 3) := by decide +kernel
theorem dX12_isIdle_43 : decode cX12_isIdle 43 = .ok (.aload_n 0, 1) := by decide +kernel
theorem dX12_isIdle_44 : decode cX12_isIdle 44 = .ok (.getfield 225, 3) := by decide +kernel
theorem dX12_isIdle_47 : decode cX12_isIdle 47 = .ok (.iconst 2, 1) := by decide +kernel
theorem dX12_isIdle_48 : decode cX12_isIdle 48 = .ok (.iaload, 1) := by decide +kernel
theorem dX12_isIdle_49 : decode cX12_isIdle 49 = .ok (.iconst (-1), 1) := by decide +kernel
theorem dX12_isIdle_5 : decode cX12_isIdle 5 = .ok (.iaload, 1) := by decide +kernel
theorem dX12_isIdle_50 : decode cX12_isIdle 50 = .ok (.if_icmp .ne 7, 3) := by decide +kernel
theorem dX12_isIdle_53 : decode cX12_isIdle 53 = .ok (.iconst 1, 1) := by decide +kernel
theorem dX12_isIdle_54 : decode cX12_isIdle 54 = .ok (.goto 4, 3) := by decide +kernel
theorem dX12_isIdle_58 : decode cX12_isIdle 58 = .ok (.ireturn, 1) := by decide +kernel
theorem dX12_isIdle_6 : decode cX12_isIdle 6 = .ok (.aload_n 0, 1) := by decide +kernel
theorem dX12_isIdle_7 : decode cX12_isIdle 7 = .ok (.getfield 219, 3) := by decide +kernel
set_option maxHeartbeats 4000000 in
set_option maxRecDepth 100000 in
theorem c_X12_isIdle (l : Launch) (D : va_G) (cT : Nat → ClassId) (h0 : Nat) (fs : List Value) (m_queued : Nat) (m_onNow : Nat) (mon : Nat → Int32) (sz : Nat) (hmon : ∀ k, k < 3 → mon k = -1) (hfs : fs.length = 109) (hfs_93 : fs[93]? = some (.ref m_queued)) (hfs_95 : fs[95]? = some (.ref m_onNow)) : Met l yX12_isIdle wsX12_isIdle ({ frames := 8, cells := 0, slots := 0, locals := 160 }) (va_Pc [.ref h0] (PW D cT [(h0, .inr (12, fs)), (m_queued, .inl (cT 0, 3, .inl (fun _ => 0))), (m_onNow, .inl (cT 0, 3, .inl mon))] sz)) (va_Qi (fun (r : Int32) (_ : Unit) => r = 1) (fun (_ : Unit) (t : State) => va_P D vwCl [(h0, .inr (12, fs)), (m_queued, .inl (cT 0, 3, .inl (fun _ => 0))), (m_onNow, .inl (cT 0, 3, .inl mon))] t.heap ∧ va_D (va_A [(h0, .inr (12, fs)), (m_queued, .inl (cT 0, 3, .inl (fun _ => 0))), (m_onNow, .inl (cT 0, 3, .inl mon))] sz) [(h0, .inr (12, fs)), (m_queued, .inl (cT 0, 3, .inl (fun _ => 0))), (m_onNow, .inl (cT 0, 3, .inl mon))]) (va_A [(h0, .inr (12, fs)), (m_queued, .inl (cT 0, 3, .inl (fun _ => 0))), (m_onNow, .inl (cT 0, 3, .inl mon))] sz)) 0 0 (va_A [(h0, .inr (12, fs)), (m_queued, .inl (cT 0, 3, .inl (fun _ => 0))), (m_onNow, .inl (cT 0, 3, .inl mon))] sz) := by
  refine Met.ofW (cc := cX12_isIdle) (maxL := 1) (ret := (some .boolean)) (by decide) rfl ?_
  intro p e s m args below meth c s₁ B hml hv
  obtain ⟨rfl, hsz, hP, hK, hD0, hG⟩ := hv
  have hx := B.exec
  have hb := B.bytes
  have hr := B.returns
  have hts := atoms_spec (ws := wsX12_isIdle) B.pre
  have hown : s.vm.findClass RX12 = some m.cls := findClass_of_methodNamed B.named
  have hlocks := B.notSynchronized
  subst hsz
  have hD := hD0.self (sz := s.heap.size)
  generalize hAe : va_A [(h0, .inr (12, fs)), (m_queued, .inl (cT 0, 3, .inl (fun _ => 0))), (m_onNow, .inl (cT 0, 3, .inl mon))] s.heap.size = A at hD ⊢
  have hA : ∀ q : Nat, s.heap.size ≤ q → A q := fun q h => by rw [← hAe]; exact Or.inr h
  have hS : va_S A s.heap s.heap [] := va_S.rf
  have hP : va_P D vwCl [(h0, .inr (12, fs)), (m_queued, .inl (cT 0, 3, .inl (fun _ => 0))), (m_onNow, .inl (cT 0, 3, .inl mon))] s.heap := hP
  have hl := lv_entry ([.ref h0]) (n := 1) (Nat.le_of_ble_eq_true rfl)
  rw [lg_entry_eq]
  generalize (lg_sl ([.ref h0]) ++ List.replicate (1 - (lg_sl ([.ref h0])).length) Slot.unset).toArray = ls at hl ⊢
  have hl : lv_has ls 1 [(0, .ref h0)] := hl
  refine lv_aload_n hx hb dX12_isIdle_0 rfl (lv_at hl 0 rfl) ?_
  refine va_get (D := D) (ci := 12) (v := .ref m_queued) (C := RX12) (T := TX12) (N := 109) hx hb hts (fun _ h => List.mem_cons_of_mem _ (List.mem_append_right _ h)) hown hK hP 0 rfl rfl 93 (by decide) (hts (.fieldLink RX12 219 "PuppetFilmModel" "queued" "[I") (List.mem_of_getElem? (i := 1) (by decide +kernel))) (fun _ h9 => h9) (hfs_93) dX12_isIdle_1 ?_
  refine lv_iconst (v := 0) hx hb dX12_isIdle_4 (by decide) ?_
  refine va_iald hx hb hK hP 1 0 rfl rfl (by unfold vp_in; decide) dX12_isIdle_5 ?_
  refine lv_topi (fun x_1 ex_1 => ?_)
  obtain rfl : x_1 = 0 := ex_1.trans (by decide)
  refine lv_aload_n hx hb dX12_isIdle_6 rfl (lv_at hl 0 rfl) ?_
  refine va_get (D := D) (ci := 12) (v := .ref m_queued) (C := RX12) (T := TX12) (N := 109) hx hb hts (fun _ h => List.mem_cons_of_mem _ (List.mem_append_right _ h)) hown hK hP 0 rfl rfl 93 (by decide) (hts (.fieldLink RX12 219 "PuppetFilmModel" "queued" "[I") (List.mem_of_getElem? (i := 1) (by decide +kernel))) (fun _ h9 => h9) (hfs_93) dX12_isIdle_7 ?_
  refine lv_iconst (v := 1) hx hb dX12_isIdle_10 (by decide) ?_
  refine va_iald hx hb hK hP 1 0 rfl rfl (by unfold vp_in; decide) dX12_isIdle_11 ?_
  refine lv_topi (fun x_2 ex_2 => ?_)
  obtain rfl : x_2 = 0 := ex_2.trans (by decide)
  refine lv_iadd hx hb dX12_isIdle_12 ?_
  refine lv_topi (fun z_3 ez_3 => ?_)
  obtain rfl : z_3 = 0 := ez_3.trans (by decide)
  refine lv_aload_n hx hb dX12_isIdle_13 rfl (lv_at hl 0 rfl) ?_
  refine va_get (D := D) (ci := 12) (v := .ref m_queued) (C := RX12) (T := TX12) (N := 109) hx hb hts (fun _ h => List.mem_cons_of_mem _ (List.mem_append_right _ h)) hown hK hP 0 rfl rfl 93 (by decide) (hts (.fieldLink RX12 219 "PuppetFilmModel" "queued" "[I") (List.mem_of_getElem? (i := 1) (by decide +kernel))) (fun _ h9 => h9) (hfs_93) dX12_isIdle_14 ?_
  refine lv_iconst (v := 2) hx hb dX12_isIdle_17 (by decide) ?_
  refine va_iald hx hb hK hP 1 0 rfl rfl (by unfold vp_in; decide) dX12_isIdle_18 ?_
  refine lv_topi (fun x_4 ex_4 => ?_)
  obtain rfl : x_4 = 0 := ex_4.trans (by decide)
  refine lv_iadd hx hb dX12_isIdle_19 ?_
  refine lv_topi (fun z_5 ez_5 => ?_)
  obtain rfl : z_5 = 0 := ez_5.trans (by decide)
  refine lv_if_ne (tgt := 57) hx hb dX12_isIdle_20 (by decide) (fun c9 => absurd c9 (by decide)) (fun _ => ?_)
  refine lv_aload_n hx hb dX12_isIdle_23 rfl (lv_at hl 0 rfl) ?_
  refine va_get (D := D) (ci := 12) (v := .ref m_onNow) (C := RX12) (T := TX12) (N := 109) hx hb hts (fun _ h => List.mem_cons_of_mem _ (List.mem_append_right _ h)) hown hK hP 0 rfl rfl 95 (by decide) (hts (.fieldLink RX12 225 "PuppetFilmModel" "onNow" "[I") (List.mem_of_getElem? (i := 2) (by decide +kernel))) (fun _ h9 => h9) (hfs_95) dX12_isIdle_24 ?_
  refine lv_iconst (v := 0) hx hb dX12_isIdle_27 (by decide) ?_
  refine va_iald hx hb hK hP 2 0 rfl rfl (by unfold vp_in; decide) dX12_isIdle_28 ?_
  refine lv_topi (fun x_6 ex_6 => ?_)
  obtain rfl : x_6 = (-1) := ex_6.trans (hmon _ (by decide))
  refine lv_iconst (v := (-1)) hx hb dX12_isIdle_29 (by decide) ?_
  refine lv_icmp_ne (tgt := 57) hx hb dX12_isIdle_30 (by decide) (fun c9 => absurd c9 (by decide)) (fun _ => ?_)
  refine lv_aload_n hx hb dX12_isIdle_33 rfl (lv_at hl 0 rfl) ?_
  refine va_get (D := D) (ci := 12) (v := .ref m_onNow) (C := RX12) (T := TX12) (N := 109) hx hb hts (fun _ h => List.mem_cons_of_mem _ (List.mem_append_right _ h)) hown hK hP 0 rfl rfl 95 (by decide) (hts (.fieldLink RX12 225 "PuppetFilmModel" "onNow" "[I") (List.mem_of_getElem? (i := 2) (by decide +kernel))) (fun _ h9 => h9) (hfs_95) dX12_isIdle_34 ?_
  refine lv_iconst (v := 1) hx hb dX12_isIdle_37 (by decide) ?_
  refine va_iald hx hb hK hP 2 0 rfl rfl (by unfold vp_in; decide) dX12_isIdle_38 ?_
  refine lv_topi (fun x_7 ex_7 => ?_)
  obtain rfl : x_7 = (-1) := ex_7.trans (hmon _ (by decide))
  refine lv_iconst (v := (-1)) hx hb dX12_isIdle_39 (by decide) ?_
  refine lv_icmp_ne (tgt := 57) hx hb dX12_isIdle_40 (by decide) (fun c9 => absurd c9 (by decide)) (fun _ => ?_)
  refine lv_aload_n hx hb dX12_isIdle_43 rfl (lv_at hl 0 rfl) ?_
  refine va_get (D := D) (ci := 12) (v := .ref m_onNow) (C := RX12) (T := TX12) (N := 109) hx hb hts (fun _ h => List.mem_cons_of_mem _ (List.mem_append_right _ h)) hown hK hP 0 rfl rfl 95 (by decide) (hts (.fieldLink RX12 225 "PuppetFilmModel" "onNow" "[I") (List.mem_of_getElem? (i := 2) (by decide +kernel))) (fun _ h9 => h9) (hfs_95) dX12_isIdle_44 ?_
  refine lv_iconst (v := 2) hx hb dX12_isIdle_47 (by decide) ?_
  refine va_iald hx hb hK hP 2 0 rfl rfl (by unfold vp_in; decide) dX12_isIdle_48 ?_
  refine lv_topi (fun x_8 ex_8 => ?_)
  obtain rfl : x_8 = (-1) := ex_8.trans (hmon _ (by decide))
  refine lv_iconst (v := (-1)) hx hb dX12_isIdle_49 (by decide) ?_
  refine lv_icmp_ne (tgt := 57) hx hb dX12_isIdle_50 (by decide) (fun c9 => absurd c9 (by decide)) (fun _ => ?_)
  refine lv_iconst (v := 1) hx hb dX12_isIdle_53 (by decide) ?_
  refine lv_goto (tgt := 58) hx hb dX12_isIdle_54 (by decide) ?_
  have hP9 := hP.sub (ws' := [(h0, .inr (12, fs)), (m_queued, .inl (cT 0, 3, .inl (fun _ => 0))), (m_onNow, .inl (cT 0, 3, .inl mon))]) [0, 1, 2] rfl
  have hD9 := hD.sub (ws' := [(h0, .inr (12, fs)), (m_queued, .inl (cT 0, 3, .inl (fun _ => 0))), (m_onNow, .inl (cT 0, 3, .inl mon))]) [0, 1, 2] (by decide) rfl
  exact W.zret (v := 1) (ty := .boolean) hx hb hr rfl (fun t ht hW => ⟨⟨1, (), rfl, rfl, ⟨by rw [ht]; exact hP9, hD9⟩⟩, hS.F ht⟩) hS.2.2 dX12_isIdle_58
theorem dX12_foretold_0 : decode cX12_foretold 0 = .ok (.aload_n 0, 1) := by decide +kernel
theorem dX12_foretold_1 : decode cX12_foretold 1 = .ok (.iconst 0, 1) := by decide +kernel
theorem dX12_foretold_10 : decode cX12_foretold 10 = .ok (.putfield 561, 3) := by decide +kernel
theorem dX12_foretold_101 : decode cX12_foretold 101 = .ok (.aload_n 0, 1) := by decide +kernel
theorem dX12_foretold_102 : decode cX12_foretold 102 = .ok (.getfield 116, 3) := by decide +kernel
theorem dX12_foretold_105 : decode cX12_foretold 105 = .ok (.aload_n 0, 1) := by decide +kernel
theorem dX12_foretold_106 : decode cX12_foretold 106 = .ok (.getfield 261, 3) := by decide +kernel
theorem dX12_foretold_109 : decode cX12_foretold 109 = .ok (.invokestatic 564, 3) := by decide +kernel
theorem dX12_foretold_112 : decode cX12_foretold 112 = .ok (.iconst 0, 1) := by decide +kernel
theorem dX12_foretold_113 : decode cX12_foretold 113 = .ok (.istore_n 1, 1) := by decide +kernel
theorem dX12_foretold_114 : decode cX12_foretold 114 = .ok (.iload_n 1, 1) := by decide +kernel
theorem dX12_foretold_115 : decode cX12_foretold 115 = .ok (.sipush 2000, 3) := by decide +kernel
theorem dX12_foretold_118 : decode cX12_foretold 118 = .ok (.if_icmp .ge 20, 3) := by decide +kernel
theorem dX12_foretold_121 : decode cX12_foretold 121 = .ok (.aload_n 0, 1) := by decide +kernel
theorem dX12_foretold_122 : decode cX12_foretold 122 = .ok (.invokevirtual 568, 3) := by decide +kernel
theorem dX12_foretold_125 : decode cX12_foretold 125 = .ok (.ifCond .ne 13, 3) := by decide +kernel
theorem dX12_foretold_13 : decode cX12_foretold 13 = .ok (.aload_n 0, 1) := by decide +kernel
theorem dX12_foretold_138 : decode cX12_foretold 138 = .ok (.aload_n 0, 1) := by decide +kernel
theorem dX12_foretold_139 : decode cX12_foretold 139 = .ok (.invokevirtual 568, 3) := by decide +kernel
theorem dX12_foretold_14 : decode cX12_foretold 14 = .ok (.getfield 210, 3) := by decide +kernel
theorem dX12_foretold_142 : decode cX12_foretold 142 = .ok (.istore_n 2, 1) := by decide +kernel
theorem dX12_foretold_143 : decode cX12_foretold 143 = .ok (.aload_n 0, 1) := by decide +kernel
theorem dX12_foretold_144 : decode cX12_foretold 144 = .ok (.aload_n 0, 1) := by decide +kernel
theorem dX12_foretold_145 : decode cX12_foretold 145 = .ok (.getfield 561, 3) := by decide +kernel
theorem dX12_foretold_148 : decode cX12_foretold 148 = .ok (.putfield 513, 3) := by decide +kernel
theorem dX12_foretold_151 : decode cX12_foretold 151 = .ok (.aload_n 0, 1) := by decide +kernel
theorem dX12_foretold_152 : decode cX12_foretold 152 = .ok (.getfield 237, 3) := by decide +kernel
theorem dX12_foretold_155 : decode cX12_foretold 155 = .ok (.aload_n 0, 1) := by decide +kernel
theorem dX12_foretold_156 : decode cX12_foretold 156 = .ok (.getfield 210, 3) := by decide +kernel
theorem dX12_foretold_159 : decode cX12_foretold 159 = .ok (.invokestatic 564, 3) := by decide +kernel
theorem dX12_foretold_162 : decode cX12_foretold 162 = .ok (.aload_n 0, 1) := by decide +kernel
theorem dX12_foretold_163 : decode cX12_foretold 163 = .ok (.getfield 240, 3) := by decide +kernel
theorem dX12_foretold_166 : decode cX12_foretold 166 = .ok (.aload_n 0, 1) := by decide +kernel
theorem dX12_foretold_167 : decode cX12_foretold 167 = .ok (.getfield 213, 3) := by decide +kernel
theorem dX12_foretold_17 : decode cX12_foretold 17 = .ok (.aload_n 0, 1) := by decide +kernel
theorem dX12_foretold_170 : decode cX12_foretold 170 = .ok (.invokestatic 564, 3) := by decide +kernel
theorem dX12_foretold_173 : decode cX12_foretold 173 = .ok (.aload_n 0, 1) := by decide +kernel
theorem dX12_foretold_174 : decode cX12_foretold 174 = .ok (.getfield 243, 3) := by decide +kernel
theorem dX12_foretold_177 : decode cX12_foretold 177 = .ok (.aload_n 0, 1) := by decide +kernel
theorem dX12_foretold_178 : decode cX12_foretold 178 = .ok (.getfield 219, 3) := by decide +kernel
theorem dX12_foretold_18 : decode cX12_foretold 18 = .ok (.getfield 237, 3) := by decide +kernel
theorem dX12_foretold_181 : decode cX12_foretold 181 = .ok (.invokestatic 564, 3) := by decide +kernel
theorem dX12_foretold_184 : decode cX12_foretold 184 = .ok (.aload_n 0, 1) := by decide +kernel
theorem dX12_foretold_185 : decode cX12_foretold 185 = .ok (.getfield 246, 3) := by decide +kernel
theorem dX12_foretold_188 : decode cX12_foretold 188 = .ok (.aload_n 0, 1) := by decide +kernel
theorem dX12_foretold_189 : decode cX12_foretold 189 = .ok (.getfield 222, 3) := by decide +kernel
theorem dX12_foretold_192 : decode cX12_foretold 192 = .ok (.invokestatic 564, 3) := by decide +kernel
theorem dX12_foretold_195 : decode cX12_foretold 195 = .ok (.aload_n 0, 1) := by decide +kernel
theorem dX12_foretold_196 : decode cX12_foretold 196 = .ok (.getfield 249, 3) := by decide +kernel
theorem dX12_foretold_199 : decode cX12_foretold 199 = .ok (.aload_n 0, 1) := by decide +kernel
theorem dX12_foretold_2 : decode cX12_foretold 2 = .ok (.putfield 1, 3) := by decide +kernel
theorem dX12_foretold_200 : decode cX12_foretold 200 = .ok (.getfield 225, 3) := by decide +kernel
theorem dX12_foretold_203 : decode cX12_foretold 203 = .ok (.invokestatic 564, 3) := by decide +kernel
theorem dX12_foretold_206 : decode cX12_foretold 206 = .ok (.aload_n 0, 1) := by decide +kernel
theorem dX12_foretold_207 : decode cX12_foretold 207 = .ok (.getfield 252, 3) := by decide +kernel
theorem dX12_foretold_21 : decode cX12_foretold 21 = .ok (.invokestatic 564, 3) := by decide +kernel
theorem dX12_foretold_210 : decode cX12_foretold 210 = .ok (.aload_n 0, 1) := by decide +kernel
theorem dX12_foretold_211 : decode cX12_foretold 211 = .ok (.getfield 228, 3) := by decide +kernel
theorem dX12_foretold_214 : decode cX12_foretold 214 = .ok (.invokestatic 564, 3) := by decide +kernel
theorem dX12_foretold_217 : decode cX12_foretold 217 = .ok (.aload_n 0, 1) := by decide +kernel
theorem dX12_foretold_218 : decode cX12_foretold 218 = .ok (.getfield 255, 3) := by decide +kernel
theorem dX12_foretold_221 : decode cX12_foretold 221 = .ok (.aload_n 0, 1) := by decide +kernel
theorem dX12_foretold_222 : decode cX12_foretold 222 = .ok (.getfield 231, 3) := by decide +kernel
theorem dX12_foretold_225 : decode cX12_foretold 225 = .ok (.invokestatic 564, 3) := by decide +kernel
theorem dX12_foretold_228 : decode cX12_foretold 228 = .ok (.aload_n 0, 1) := by decide +kernel
theorem dX12_foretold_229 : decode cX12_foretold 229 = .ok (.getfield 258, 3) := by decide +kernel
theorem dX12_foretold_232 : decode cX12_foretold 232 = .ok (.aload_n 0, 1) := by decide +kernel
theorem dX12_foretold_233 : decode cX12_foretold 233 = .ok (.getfield 234, 3) := by decide +kernel
theorem dX12_foretold_236 : decode cX12_foretold 236 = .ok (.invokestatic 564, 3) := by decide +kernel
theorem dX12_foretold_239 : decode cX12_foretold 239 = .ok (.aload_n 0, 1) := by decide +kernel
theorem dX12_foretold_24 : decode cX12_foretold 24 = .ok (.aload_n 0, 1) := by decide +kernel
theorem dX12_foretold_240 : decode cX12_foretold 240 = .ok (.getfield 261, 3) := by decide +kernel
theorem dX12_foretold_243 : decode cX12_foretold 243 = .ok (.aload_n 0, 1) := by decide +kernel
theorem dX12_foretold_244 : decode cX12_foretold 244 = .ok (.getfield 116, 3) := by decide +kernel
theorem dX12_foretold_247 : decode cX12_foretold 247 = .ok (.invokestatic 564, 3) := by decide +kernel
theorem dX12_foretold_25 : decode cX12_foretold 25 = .ok (.getfield 213, 3) := by decide +kernel
theorem dX12_foretold_250 : decode cX12_foretold 250 = .ok (.iload_n 2, 1) := by decide +kernel
theorem dX12_foretold_251 : decode cX12_foretold 251 = .ok (.ifCond .eq 7, 3) := by decide +kernel
theorem dX12_foretold_254 : decode cX12_foretold 254 = .ok (.iload_n 1, 1) := by decide +kernel
theorem dX12_foretold_255 : decode cX12_foretold 255 = .ok (.goto 4, 3) := by decide +kernel
theorem dX12_foretold_259 : decode cX12_foretold 259 = .ok (.ireturn, 1) := by decide +kernel
theorem dX12_foretold_28 : decode cX12_foretold 28 = .ok (.aload_n 0, 1) := by decide +kernel
theorem dX12_foretold_29 : decode cX12_foretold 29 = .ok (.getfield 240, 3) := by decide +kernel
theorem dX12_foretold_32 : decode cX12_foretold 32 = .ok (.invokestatic 564, 3) := by decide +kernel
theorem dX12_foretold_35 : decode cX12_foretold 35 = .ok (.aload_n 0, 1) := by decide +kernel
theorem dX12_foretold_36 : decode cX12_foretold 36 = .ok (.getfield 219, 3) := by decide +kernel
theorem dX12_foretold_39 : decode cX12_foretold 39 = .ok (.aload_n 0, 1) := by decide +kernel
theorem dX12_foretold_40 : decode cX12_foretold 40 = .ok (.getfield 243, 3) := by decide +kernel
theorem dX12_foretold_43 : decode cX12_foretold 43 = .ok (.invokestatic 564, 3) := by decide +kernel
theorem dX12_foretold_46 : decode cX12_foretold 46 = .ok (.aload_n 0, 1) := by decide +kernel
theorem dX12_foretold_47 : decode cX12_foretold 47 = .ok (.getfield 222, 3) := by decide +kernel
theorem dX12_foretold_5 : decode cX12_foretold 5 = .ok (.aload_n 0, 1) := by decide +kernel
theorem dX12_foretold_50 : decode cX12_foretold 50 = .ok (.aload_n 0, 1) := by decide +kernel
theorem dX12_foretold_51 : decode cX12_foretold 51 = .ok (.getfield 246, 3) := by decide +kernel
theorem dX12_foretold_54 : decode cX12_foretold 54 = .ok (.invokestatic 564, 3) := by decide +kernel
theorem dX12_foretold_57 : decode cX12_foretold 57 = .ok (.aload_n 0, 1) := by decide +kernel
theorem dX12_foretold_58 : decode cX12_foretold 58 = .ok (.getfield 225, 3) := by decide +kernel
theorem dX12_foretold_6 : decode cX12_foretold 6 = .ok (.aload_n 0, 1) := by decide +kernel
theorem dX12_foretold_61 : decode cX12_foretold 61 = .ok (.aload_n 0, 1) := by decide +kernel
theorem dX12_foretold_62 : decode cX12_foretold 62 = .ok (.getfield 249, 3) := by decide +kernel
theorem dX12_foretold_65 : decode cX12_foretold 65 = .ok (.invokestatic 564, 3) := by decide +kernel
theorem dX12_foretold_68 : decode cX12_foretold 68 = .ok (.aload_n 0, 1) := by decide +kernel
theorem dX12_foretold_69 : decode cX12_foretold 69 = .ok (.getfield 228, 3) := by decide +kernel
theorem dX12_foretold_7 : decode cX12_foretold 7 = .ok (.getfield 513, 3) := by decide +kernel
theorem dX12_foretold_72 : decode cX12_foretold 72 = .ok (.aload_n 0, 1) := by decide +kernel
theorem dX12_foretold_73 : decode cX12_foretold 73 = .ok (.getfield 252, 3) := by decide +kernel
theorem dX12_foretold_76 : decode cX12_foretold 76 = .ok (.invokestatic 564, 3) := by decide +kernel
theorem dX12_foretold_79 : decode cX12_foretold 79 = .ok (.aload_n 0, 1) := by decide +kernel
theorem dX12_foretold_80 : decode cX12_foretold 80 = .ok (.getfield 231, 3) := by decide +kernel
theorem dX12_foretold_83 : decode cX12_foretold 83 = .ok (.aload_n 0, 1) := by decide +kernel
theorem dX12_foretold_84 : decode cX12_foretold 84 = .ok (.getfield 255, 3) := by decide +kernel
theorem dX12_foretold_87 : decode cX12_foretold 87 = .ok (.invokestatic 564, 3) := by decide +kernel
theorem dX12_foretold_90 : decode cX12_foretold 90 = .ok (.aload_n 0, 1) := by decide +kernel
theorem dX12_foretold_91 : decode cX12_foretold 91 = .ok (.getfield 234, 3) := by decide +kernel
theorem dX12_foretold_94 : decode cX12_foretold 94 = .ok (.aload_n 0, 1) := by decide +kernel
theorem dX12_foretold_95 : decode cX12_foretold 95 = .ok (.getfield 258, 3) := by decide +kernel
theorem dX12_foretold_98 : decode cX12_foretold 98 = .ok (.invokestatic 564, 3) := by decide +kernel
set_option maxRecDepth 20000 in
theorem ggX12_foretold_X12_copy : GoodIn wsX12_foretold wsX12_copy := goodIn_r _ [25] (by decide +kernel) (by decide +kernel)
set_option maxRecDepth 20000 in
theorem gX12_foretold_X12_copy : GoodIn wsX12_foretold (va_wsS RX12 564 yX12_copy wsX12_copy) := goodIn_app (goodIn_of _ (by decide +kernel)) ggX12_foretold_X12_copy
set_option maxRecDepth 20000 in
theorem ggX12_foretold_X12_isIdle : GoodIn wsX12_foretold wsX12_isIdle := goodIn_r _ [29, 8, 12, 99, 100, 101, 102, 103, 104, 105, 106, 107, 108, 109, 110, 111, 112, 113, 114, 115, 116, 117, 118, 119, 120, 121, 122, 123, 124, 125, 126, 127, 128, 129, 130, 131, 132, 133, 134, 135, 136, 137, 138, 139, 140, 141, 142, 143, 144, 145, 146, 147, 148, 149, 150, 151, 152, 153, 154, 155, 156, 157, 158, 159, 160, 161, 162, 163, 164, 165, 166, 167, 168, 169, 170, 171, 172, 173, 174, 175, 176, 177, 178, 179, 180, 181, 182, 183, 184, 185, 186, 187, 188, 189, 190, 191, 192, 193, 194, 195, 196, 197, 198, 199, 200, 201, 202, 203, 204, 205, 206, 207] (by decide +kernel) (by decide +kernel)
set_option maxRecDepth 20000 in
theorem gX12_foretold_X12_isIdle : GoodIn wsX12_foretold (wsV RX12 568 RX12 yX12_isIdle wsX12_isIdle) := goodIn_app (goodIn_of _ (by decide +kernel)) ggX12_foretold_X12_isIdle
set_option maxHeartbeats 4000000 in
set_option maxRecDepth 100000 in
theorem c_X12_foretold (l : Launch) (D : va_G) (cT : Nat → ClassId) (h0 : Nat) (fs : List Value) (m_th : Int32) (m_shotMany : Nat) (m_workedIn : Nat) (m_worked : Nat) (m_queued : Nat) (m_queue : Nat) (m_onNow : Nat) (m_dressing : Nat) (m_dressed : Nat) (m_standsIn : Nat) (m_keptWorkedIn : Nat) (m_keptWorked : Nat) (m_keptQueued : Nat) (m_keptQueue : Nat) (m_keptOn : Nat) (m_keptDressing : Nat) (m_keptDressed : Nat) (m_keptStands : Nat) (m_keptShot : Nat) (fa_workedIn : Nat → Int32) (fb_keptWorkedIn : Nat → Int32) (fa_worked : Nat → Int32) (fb_keptWorked : Nat → Int32) (fb_keptQueued : Nat → Int32) (fa_queue : Nat → Int32) (fb_keptQueue : Nat → Int32) (mon : Nat → Int32) (fb_keptOn : Nat → Int32) (fa_dressing : Nat → Int32) (fb_keptDressing : Nat → Int32) (fa_dressed : Nat → Int32) (fb_keptDressed : Nat → Int32) (fa_standsIn : Nat → Int32) (fb_keptStands : Nat → Int32) (fa_shotMany : Nat → Int32) (fb_keptShot : Nat → Int32) (sz : Nat) (hmon : ∀ k, k < 3 → mon k = -1) (hfs : fs.length = 109) (hfs_0 : fs[0]? = some (.int m_th)) (hfs_48 : fs[48]? = some (.ref m_shotMany)) (hfs_82 : fs[82]? = some (.int 0)) (hfs_90 : fs[90]? = some (.ref m_workedIn)) (hfs_91 : fs[91]? = some (.ref m_worked)) (hfs_93 : fs[93]? = some (.ref m_queued)) (hfs_94 : fs[94]? = some (.ref m_queue)) (hfs_95 : fs[95]? = some (.ref m_onNow)) (hfs_96 : fs[96]? = some (.ref m_dressing)) (hfs_97 : fs[97]? = some (.ref m_dressed)) (hfs_98 : fs[98]? = some (.ref m_standsIn)) (hfs_100 : fs[100]? = some (.ref m_keptWorkedIn)) (hfs_101 : fs[101]? = some (.ref m_keptWorked)) (hfs_102 : fs[102]? = some (.ref m_keptQueued)) (hfs_103 : fs[103]? = some (.ref m_keptQueue)) (hfs_104 : fs[104]? = some (.ref m_keptOn)) (hfs_105 : fs[105]? = some (.ref m_keptDressing)) (hfs_106 : fs[106]? = some (.ref m_keptDressed)) (hfs_107 : fs[107]? = some (.ref m_keptStands)) (hfs_108 : fs[108]? = some (.ref m_keptShot)) : Met l yX12_foretold wsX12_foretold ({ frames := 9, cells := 0, slots := 0, locals := 220 }) (va_Pc [.ref h0] (PW D cT [(h0, .inr (12, fs)), (m_workedIn, .inl (cT 0, 6, .inl fa_workedIn)), (m_keptWorkedIn, .inl (cT 0, 6, .inl fb_keptWorkedIn)), (m_worked, .inl (cT 0, 6, .inl fa_worked)), (m_keptWorked, .inl (cT 0, 6, .inl fb_keptWorked)), (m_queued, .inl (cT 0, 3, .inl (fun _ => 0))), (m_keptQueued, .inl (cT 0, 3, .inl fb_keptQueued)), (m_queue, .inl (cT 0, 30, .inl fa_queue)), (m_keptQueue, .inl (cT 0, 30, .inl fb_keptQueue)), (m_onNow, .inl (cT 0, 3, .inl mon)), (m_keptOn, .inl (cT 0, 3, .inl fb_keptOn)), (m_dressing, .inl (cT 0, 3, .inl fa_dressing)), (m_keptDressing, .inl (cT 0, 3, .inl fb_keptDressing)), (m_dressed, .inl (cT 0, 3, .inl fa_dressed)), (m_keptDressed, .inl (cT 0, 3, .inl fb_keptDressed)), (m_standsIn, .inl (cT 0, 8, .inl fa_standsIn)), (m_keptStands, .inl (cT 0, 8, .inl fb_keptStands)), (m_shotMany, .inl (cT 0, 12, .inl fa_shotMany)), (m_keptShot, .inl (cT 0, 12, .inl fb_keptShot))] sz)) (va_Qi (fun (r : Int32) (_ : Unit) => r = 0) (fun (_ : Unit) (t : State) => ∃ (gs : List Value), (gs.length = 109) ∧ (gs[0]? = some (.int 0)) ∧ va_P D vwCl [(h0, .inr (12, gs))] t.heap ∧ va_D (va_A [(h0, .inr (12, fs)), (m_workedIn, .inl (cT 0, 6, .inl fa_workedIn)), (m_keptWorkedIn, .inl (cT 0, 6, .inl fb_keptWorkedIn)), (m_worked, .inl (cT 0, 6, .inl fa_worked)), (m_keptWorked, .inl (cT 0, 6, .inl fb_keptWorked)), (m_queued, .inl (cT 0, 3, .inl (fun _ => 0))), (m_keptQueued, .inl (cT 0, 3, .inl fb_keptQueued)), (m_queue, .inl (cT 0, 30, .inl fa_queue)), (m_keptQueue, .inl (cT 0, 30, .inl fb_keptQueue)), (m_onNow, .inl (cT 0, 3, .inl mon)), (m_keptOn, .inl (cT 0, 3, .inl fb_keptOn)), (m_dressing, .inl (cT 0, 3, .inl fa_dressing)), (m_keptDressing, .inl (cT 0, 3, .inl fb_keptDressing)), (m_dressed, .inl (cT 0, 3, .inl fa_dressed)), (m_keptDressed, .inl (cT 0, 3, .inl fb_keptDressed)), (m_standsIn, .inl (cT 0, 8, .inl fa_standsIn)), (m_keptStands, .inl (cT 0, 8, .inl fb_keptStands)), (m_shotMany, .inl (cT 0, 12, .inl fa_shotMany)), (m_keptShot, .inl (cT 0, 12, .inl fb_keptShot))] sz) [(h0, .inr (12, gs))]) (va_A [(h0, .inr (12, fs)), (m_workedIn, .inl (cT 0, 6, .inl fa_workedIn)), (m_keptWorkedIn, .inl (cT 0, 6, .inl fb_keptWorkedIn)), (m_worked, .inl (cT 0, 6, .inl fa_worked)), (m_keptWorked, .inl (cT 0, 6, .inl fb_keptWorked)), (m_queued, .inl (cT 0, 3, .inl (fun _ => 0))), (m_keptQueued, .inl (cT 0, 3, .inl fb_keptQueued)), (m_queue, .inl (cT 0, 30, .inl fa_queue)), (m_keptQueue, .inl (cT 0, 30, .inl fb_keptQueue)), (m_onNow, .inl (cT 0, 3, .inl mon)), (m_keptOn, .inl (cT 0, 3, .inl fb_keptOn)), (m_dressing, .inl (cT 0, 3, .inl fa_dressing)), (m_keptDressing, .inl (cT 0, 3, .inl fb_keptDressing)), (m_dressed, .inl (cT 0, 3, .inl fa_dressed)), (m_keptDressed, .inl (cT 0, 3, .inl fb_keptDressed)), (m_standsIn, .inl (cT 0, 8, .inl fa_standsIn)), (m_keptStands, .inl (cT 0, 8, .inl fb_keptStands)), (m_shotMany, .inl (cT 0, 12, .inl fa_shotMany)), (m_keptShot, .inl (cT 0, 12, .inl fb_keptShot))] sz)) 0 0 (va_A [(h0, .inr (12, fs)), (m_workedIn, .inl (cT 0, 6, .inl fa_workedIn)), (m_keptWorkedIn, .inl (cT 0, 6, .inl fb_keptWorkedIn)), (m_worked, .inl (cT 0, 6, .inl fa_worked)), (m_keptWorked, .inl (cT 0, 6, .inl fb_keptWorked)), (m_queued, .inl (cT 0, 3, .inl (fun _ => 0))), (m_keptQueued, .inl (cT 0, 3, .inl fb_keptQueued)), (m_queue, .inl (cT 0, 30, .inl fa_queue)), (m_keptQueue, .inl (cT 0, 30, .inl fb_keptQueue)), (m_onNow, .inl (cT 0, 3, .inl mon)), (m_keptOn, .inl (cT 0, 3, .inl fb_keptOn)), (m_dressing, .inl (cT 0, 3, .inl fa_dressing)), (m_keptDressing, .inl (cT 0, 3, .inl fb_keptDressing)), (m_dressed, .inl (cT 0, 3, .inl fa_dressed)), (m_keptDressed, .inl (cT 0, 3, .inl fb_keptDressed)), (m_standsIn, .inl (cT 0, 8, .inl fa_standsIn)), (m_keptStands, .inl (cT 0, 8, .inl fb_keptStands)), (m_shotMany, .inl (cT 0, 12, .inl fa_shotMany)), (m_keptShot, .inl (cT 0, 12, .inl fb_keptShot))] sz) := by
  refine Met.ofW (cc := cX12_foretold) (maxL := 3) (ret := (some .int)) (by decide) rfl ?_
  intro p e s m args below meth c s₁ B hml hv
  obtain ⟨rfl, hsz, hP, hK, hD0, hG⟩ := hv
  have hx := B.exec
  have hb := B.bytes
  have hr := B.returns
  have hts := atoms_spec (ws := wsX12_foretold) B.pre
  have hown : s.vm.findClass RX12 = some m.cls := findClass_of_methodNamed B.named
  have hlocks := B.notSynchronized
  subst hsz
  have hD := hD0.self (sz := s.heap.size)
  generalize hAe : va_A [(h0, .inr (12, fs)), (m_workedIn, .inl (cT 0, 6, .inl fa_workedIn)), (m_keptWorkedIn, .inl (cT 0, 6, .inl fb_keptWorkedIn)), (m_worked, .inl (cT 0, 6, .inl fa_worked)), (m_keptWorked, .inl (cT 0, 6, .inl fb_keptWorked)), (m_queued, .inl (cT 0, 3, .inl (fun _ => 0))), (m_keptQueued, .inl (cT 0, 3, .inl fb_keptQueued)), (m_queue, .inl (cT 0, 30, .inl fa_queue)), (m_keptQueue, .inl (cT 0, 30, .inl fb_keptQueue)), (m_onNow, .inl (cT 0, 3, .inl mon)), (m_keptOn, .inl (cT 0, 3, .inl fb_keptOn)), (m_dressing, .inl (cT 0, 3, .inl fa_dressing)), (m_keptDressing, .inl (cT 0, 3, .inl fb_keptDressing)), (m_dressed, .inl (cT 0, 3, .inl fa_dressed)), (m_keptDressed, .inl (cT 0, 3, .inl fb_keptDressed)), (m_standsIn, .inl (cT 0, 8, .inl fa_standsIn)), (m_keptStands, .inl (cT 0, 8, .inl fb_keptStands)), (m_shotMany, .inl (cT 0, 12, .inl fa_shotMany)), (m_keptShot, .inl (cT 0, 12, .inl fb_keptShot))] s.heap.size = A at hD ⊢
  have hA : ∀ q : Nat, s.heap.size ≤ q → A q := fun q h => by rw [← hAe]; exact Or.inr h
  have hS : va_S A s.heap s.heap [] := va_S.rf
  have hP : va_P D vwCl [(h0, .inr (12, fs)), (m_workedIn, .inl (cT 0, 6, .inl fa_workedIn)), (m_keptWorkedIn, .inl (cT 0, 6, .inl fb_keptWorkedIn)), (m_worked, .inl (cT 0, 6, .inl fa_worked)), (m_keptWorked, .inl (cT 0, 6, .inl fb_keptWorked)), (m_queued, .inl (cT 0, 3, .inl (fun _ => 0))), (m_keptQueued, .inl (cT 0, 3, .inl fb_keptQueued)), (m_queue, .inl (cT 0, 30, .inl fa_queue)), (m_keptQueue, .inl (cT 0, 30, .inl fb_keptQueue)), (m_onNow, .inl (cT 0, 3, .inl mon)), (m_keptOn, .inl (cT 0, 3, .inl fb_keptOn)), (m_dressing, .inl (cT 0, 3, .inl fa_dressing)), (m_keptDressing, .inl (cT 0, 3, .inl fb_keptDressing)), (m_dressed, .inl (cT 0, 3, .inl fa_dressed)), (m_keptDressed, .inl (cT 0, 3, .inl fb_keptDressed)), (m_standsIn, .inl (cT 0, 8, .inl fa_standsIn)), (m_keptStands, .inl (cT 0, 8, .inl fb_keptStands)), (m_shotMany, .inl (cT 0, 12, .inl fa_shotMany)), (m_keptShot, .inl (cT 0, 12, .inl fb_keptShot))] s.heap := hP
  have hl := lv_entry ([.ref h0]) (n := 3) (Nat.le_of_ble_eq_true rfl)
  rw [lg_entry_eq]
  generalize (lg_sl ([.ref h0]) ++ List.replicate (3 - (lg_sl ([.ref h0])).length) Slot.unset).toArray = ls at hl ⊢
  have hl : lv_has ls 3 [(0, .ref h0)] := hl
  refine lv_aload_n hx hb dX12_foretold_0 rfl (lv_at hl 0 rfl) ?_
  refine lv_iconst (v := 0) hx hb dX12_foretold_1 (by decide) ?_
  refine va_put (D := D) (ci := 12) (v := .int 0) (ty := .int) (C := RX12) (T := TX12) (N := 109) hx hb hts (fun _ h => List.mem_cons_of_mem _ (List.mem_append_right _ h)) tyX12 tyX12_ok nmX12 hown hK hP hD hS 0 rfl rfl 0 (by decide) (hts (.fieldLink RX12 1 "PuppetFilmModel" "thrown" "I") (List.mem_of_getElem? (i := 1) (by decide +kernel))) (fun _ h9 => h9) rfl (by decide +kernel) rfl rfl (by simp only [List.length_set, hfs]; decide) dX12_foretold_2 (fun H locs hP hD hS => ?_)
  have hP : va_P D vwCl [(h0, .inr (12, (fs.set 0 (.int 0)))), (m_workedIn, .inl (cT 0, 6, .inl fa_workedIn)), (m_keptWorkedIn, .inl (cT 0, 6, .inl fb_keptWorkedIn)), (m_worked, .inl (cT 0, 6, .inl fa_worked)), (m_keptWorked, .inl (cT 0, 6, .inl fb_keptWorked)), (m_queued, .inl (cT 0, 3, .inl (fun _ => 0))), (m_keptQueued, .inl (cT 0, 3, .inl fb_keptQueued)), (m_queue, .inl (cT 0, 30, .inl fa_queue)), (m_keptQueue, .inl (cT 0, 30, .inl fb_keptQueue)), (m_onNow, .inl (cT 0, 3, .inl mon)), (m_keptOn, .inl (cT 0, 3, .inl fb_keptOn)), (m_dressing, .inl (cT 0, 3, .inl fa_dressing)), (m_keptDressing, .inl (cT 0, 3, .inl fb_keptDressing)), (m_dressed, .inl (cT 0, 3, .inl fa_dressed)), (m_keptDressed, .inl (cT 0, 3, .inl fb_keptDressed)), (m_standsIn, .inl (cT 0, 8, .inl fa_standsIn)), (m_keptStands, .inl (cT 0, 8, .inl fb_keptStands)), (m_shotMany, .inl (cT 0, 12, .inl fa_shotMany)), (m_keptShot, .inl (cT 0, 12, .inl fb_keptShot))] _ := hP
  have hD : va_D A [(h0, .inr (12, (fs.set 0 (.int 0)))), (m_workedIn, .inl (cT 0, 6, .inl fa_workedIn)), (m_keptWorkedIn, .inl (cT 0, 6, .inl fb_keptWorkedIn)), (m_worked, .inl (cT 0, 6, .inl fa_worked)), (m_keptWorked, .inl (cT 0, 6, .inl fb_keptWorked)), (m_queued, .inl (cT 0, 3, .inl (fun _ => 0))), (m_keptQueued, .inl (cT 0, 3, .inl fb_keptQueued)), (m_queue, .inl (cT 0, 30, .inl fa_queue)), (m_keptQueue, .inl (cT 0, 30, .inl fb_keptQueue)), (m_onNow, .inl (cT 0, 3, .inl mon)), (m_keptOn, .inl (cT 0, 3, .inl fb_keptOn)), (m_dressing, .inl (cT 0, 3, .inl fa_dressing)), (m_keptDressing, .inl (cT 0, 3, .inl fb_keptDressing)), (m_dressed, .inl (cT 0, 3, .inl fa_dressed)), (m_keptDressed, .inl (cT 0, 3, .inl fb_keptDressed)), (m_standsIn, .inl (cT 0, 8, .inl fa_standsIn)), (m_keptStands, .inl (cT 0, 8, .inl fb_keptStands)), (m_shotMany, .inl (cT 0, 12, .inl fa_shotMany)), (m_keptShot, .inl (cT 0, 12, .inl fb_keptShot))] := hD
  refine lv_aload_n hx hb dX12_foretold_5 rfl (lv_at hl 0 rfl) ?_
  refine lv_aload_n hx hb dX12_foretold_6 rfl (lv_at hl 0 rfl) ?_
  refine va_get (D := D) (ci := 12) (v := .int 0) (C := RX12) (T := TX12) (N := 109) hx hb hts (fun _ h => List.mem_cons_of_mem _ (List.mem_append_right _ h)) hown hK hP 0 rfl rfl 82 (by decide) (hts (.fieldLink RX12 513 "PuppetFilmModel" "half" "I") (List.mem_of_getElem? (i := 2) (by decide +kernel))) (fun _ h9 => h9) ((List.getElem?_set_ne (by decide)).trans (hfs_82)) dX12_foretold_7 ?_
  refine va_put (D := D) (ci := 12) (v := .int 0) (ty := .int) (C := RX12) (T := TX12) (N := 109) hx hb hts (fun _ h => List.mem_cons_of_mem _ (List.mem_append_right _ h)) tyX12 tyX12_ok nmX12 hown hK hP hD hS 0 rfl rfl 99 (by decide) (hts (.fieldLink RX12 561 "PuppetFilmModel" "keptHalf" "I") (List.mem_of_getElem? (i := 3) (by decide +kernel))) (fun _ h9 => h9) rfl (by decide +kernel) rfl rfl (by simp only [List.length_set, hfs]; decide) dX12_foretold_10 (fun H locs hP hD hS => ?_)
  have hP : va_P D vwCl [(h0, .inr (12, ((fs.set 0 (.int 0)).set 99 (.int 0)))), (m_workedIn, .inl (cT 0, 6, .inl fa_workedIn)), (m_keptWorkedIn, .inl (cT 0, 6, .inl fb_keptWorkedIn)), (m_worked, .inl (cT 0, 6, .inl fa_worked)), (m_keptWorked, .inl (cT 0, 6, .inl fb_keptWorked)), (m_queued, .inl (cT 0, 3, .inl (fun _ => 0))), (m_keptQueued, .inl (cT 0, 3, .inl fb_keptQueued)), (m_queue, .inl (cT 0, 30, .inl fa_queue)), (m_keptQueue, .inl (cT 0, 30, .inl fb_keptQueue)), (m_onNow, .inl (cT 0, 3, .inl mon)), (m_keptOn, .inl (cT 0, 3, .inl fb_keptOn)), (m_dressing, .inl (cT 0, 3, .inl fa_dressing)), (m_keptDressing, .inl (cT 0, 3, .inl fb_keptDressing)), (m_dressed, .inl (cT 0, 3, .inl fa_dressed)), (m_keptDressed, .inl (cT 0, 3, .inl fb_keptDressed)), (m_standsIn, .inl (cT 0, 8, .inl fa_standsIn)), (m_keptStands, .inl (cT 0, 8, .inl fb_keptStands)), (m_shotMany, .inl (cT 0, 12, .inl fa_shotMany)), (m_keptShot, .inl (cT 0, 12, .inl fb_keptShot))] _ := hP
  have hD : va_D A [(h0, .inr (12, ((fs.set 0 (.int 0)).set 99 (.int 0)))), (m_workedIn, .inl (cT 0, 6, .inl fa_workedIn)), (m_keptWorkedIn, .inl (cT 0, 6, .inl fb_keptWorkedIn)), (m_worked, .inl (cT 0, 6, .inl fa_worked)), (m_keptWorked, .inl (cT 0, 6, .inl fb_keptWorked)), (m_queued, .inl (cT 0, 3, .inl (fun _ => 0))), (m_keptQueued, .inl (cT 0, 3, .inl fb_keptQueued)), (m_queue, .inl (cT 0, 30, .inl fa_queue)), (m_keptQueue, .inl (cT 0, 30, .inl fb_keptQueue)), (m_onNow, .inl (cT 0, 3, .inl mon)), (m_keptOn, .inl (cT 0, 3, .inl fb_keptOn)), (m_dressing, .inl (cT 0, 3, .inl fa_dressing)), (m_keptDressing, .inl (cT 0, 3, .inl fb_keptDressing)), (m_dressed, .inl (cT 0, 3, .inl fa_dressed)), (m_keptDressed, .inl (cT 0, 3, .inl fb_keptDressed)), (m_standsIn, .inl (cT 0, 8, .inl fa_standsIn)), (m_keptStands, .inl (cT 0, 8, .inl fb_keptStands)), (m_shotMany, .inl (cT 0, 12, .inl fa_shotMany)), (m_keptShot, .inl (cT 0, 12, .inl fb_keptShot))] := hD
  refine lv_aload_n hx hb dX12_foretold_13 rfl (lv_at hl 0 rfl) ?_
  refine va_get (D := D) (ci := 12) (v := .ref m_workedIn) (C := RX12) (T := TX12) (N := 109) hx hb hts (fun _ h => List.mem_cons_of_mem _ (List.mem_append_right _ h)) hown hK hP 0 rfl rfl 90 (by decide) (hts (.fieldLink RX12 210 "PuppetFilmModel" "workedIn" "[I") (List.mem_of_getElem? (i := 4) (by decide +kernel))) (fun _ h9 => h9) ((List.getElem?_set_ne (by decide)).trans ((List.getElem?_set_ne (by decide)).trans (hfs_90))) dX12_foretold_14 ?_
  refine lv_aload_n hx hb dX12_foretold_17 rfl (lv_at hl 0 rfl) ?_
  refine va_get (D := D) (ci := 12) (v := .ref m_keptWorkedIn) (C := RX12) (T := TX12) (N := 109) hx hb hts (fun _ h => List.mem_cons_of_mem _ (List.mem_append_right _ h)) hown hK hP 0 rfl rfl 100 (by decide) (hts (.fieldLink RX12 237 "PuppetFilmModel" "keptWorkedIn" "[I") (List.mem_of_getElem? (i := 5) (by decide +kernel))) (fun _ h9 => h9) ((List.getElem?_set_ne (by decide)).trans ((List.getElem?_set_ne (by decide)).trans (hfs_100))) dX12_foretold_18 ?_
  have hF := va_free (wc := [(m_workedIn, .inl (cT 0, 6, .inl fa_workedIn)), (m_keptWorkedIn, .inl (cT 0, 6, .inl fb_keptWorkedIn))]) hD hS hA [1, 2] rfl
  refine va_callv (va_runS (As := [.ref m_workedIn, .ref m_keptWorkedIn]) (rest := []) ⟨hx, hb, hml, hown, hts⟩ (c_X12_copy_6 l D cT m_workedIn m_keptWorkedIn fa_workedIn fb_keptWorkedIn _ ) (va_cwS 2 hts gX12_foretold_X12_copy rfl rfl rfl (by decide +kernel) ⟨Nat.le_of_ble_eq_true rfl, Nat.le_of_ble_eq_true rfl⟩) (ps_w hP hD hK hG [1, 2] rfl rfl rfl) rfl rfl hl.1 rfl (lv_room (Nat.le_of_ble_eq_true rfl)) dX12_foretold_21 ⟨Nat.le_of_ble_eq_true rfl, Nat.le_of_ble_eq_true rfl⟩) hS (fun q _ h => hF q h) hF (fun uu9 tt9 H locs ht hvm wr_1 hB hz1 hk1 hS => ?_)
  obtain ⟨fb2_2, hP1, hD1⟩ := hB
  rw [ht] at hP1
  obtain ⟨hP, hD⟩ := va_join (wr := [(h0, .inr (12, ((fs.set 0 (.int 0)).set 99 (.int 0)))), (m_worked, .inl (cT 0, 6, .inl fa_worked)), (m_keptWorked, .inl (cT 0, 6, .inl fb_keptWorked)), (m_queued, .inl (cT 0, 3, .inl (fun _ => 0))), (m_keptQueued, .inl (cT 0, 3, .inl fb_keptQueued)), (m_queue, .inl (cT 0, 30, .inl fa_queue)), (m_keptQueue, .inl (cT 0, 30, .inl fb_keptQueue)), (m_onNow, .inl (cT 0, 3, .inl mon)), (m_keptOn, .inl (cT 0, 3, .inl fb_keptOn)), (m_dressing, .inl (cT 0, 3, .inl fa_dressing)), (m_keptDressing, .inl (cT 0, 3, .inl fb_keptDressing)), (m_dressed, .inl (cT 0, 3, .inl fa_dressed)), (m_keptDressed, .inl (cT 0, 3, .inl fb_keptDressed)), (m_standsIn, .inl (cT 0, 8, .inl fa_standsIn)), (m_keptStands, .inl (cT 0, 8, .inl fb_keptStands)), (m_shotMany, .inl (cT 0, 12, .inl fa_shotMany)), (m_keptShot, .inl (cT 0, 12, .inl fb_keptShot))]) (w1 := [(m_workedIn, .inl (cT 0, 6, .inl fa_workedIn)), (m_keptWorkedIn, .inl (cT 0, 6, .inl fb2_2))]) hP hD [1, 2] [0, 3, 4, 5, 6, 7, 8, 9, 10, 11, 12, 13, 14, 15, 16, 17, 18] rfl rfl (by decide) (by decide) hk1 hF hP1 hD1
  have hP : va_P D vwCl [(h0, .inr (12, ((fs.set 0 (.int 0)).set 99 (.int 0)))), (m_worked, .inl (cT 0, 6, .inl fa_worked)), (m_keptWorked, .inl (cT 0, 6, .inl fb_keptWorked)), (m_queued, .inl (cT 0, 3, .inl (fun _ => 0))), (m_keptQueued, .inl (cT 0, 3, .inl fb_keptQueued)), (m_queue, .inl (cT 0, 30, .inl fa_queue)), (m_keptQueue, .inl (cT 0, 30, .inl fb_keptQueue)), (m_onNow, .inl (cT 0, 3, .inl mon)), (m_keptOn, .inl (cT 0, 3, .inl fb_keptOn)), (m_dressing, .inl (cT 0, 3, .inl fa_dressing)), (m_keptDressing, .inl (cT 0, 3, .inl fb_keptDressing)), (m_dressed, .inl (cT 0, 3, .inl fa_dressed)), (m_keptDressed, .inl (cT 0, 3, .inl fb_keptDressed)), (m_standsIn, .inl (cT 0, 8, .inl fa_standsIn)), (m_keptStands, .inl (cT 0, 8, .inl fb_keptStands)), (m_shotMany, .inl (cT 0, 12, .inl fa_shotMany)), (m_keptShot, .inl (cT 0, 12, .inl fb_keptShot)), (m_workedIn, .inl (cT 0, 6, .inl fa_workedIn)), (m_keptWorkedIn, .inl (cT 0, 6, .inl fb2_2))] _ := hP
  have hD : va_D A [(h0, .inr (12, ((fs.set 0 (.int 0)).set 99 (.int 0)))), (m_worked, .inl (cT 0, 6, .inl fa_worked)), (m_keptWorked, .inl (cT 0, 6, .inl fb_keptWorked)), (m_queued, .inl (cT 0, 3, .inl (fun _ => 0))), (m_keptQueued, .inl (cT 0, 3, .inl fb_keptQueued)), (m_queue, .inl (cT 0, 30, .inl fa_queue)), (m_keptQueue, .inl (cT 0, 30, .inl fb_keptQueue)), (m_onNow, .inl (cT 0, 3, .inl mon)), (m_keptOn, .inl (cT 0, 3, .inl fb_keptOn)), (m_dressing, .inl (cT 0, 3, .inl fa_dressing)), (m_keptDressing, .inl (cT 0, 3, .inl fb_keptDressing)), (m_dressed, .inl (cT 0, 3, .inl fa_dressed)), (m_keptDressed, .inl (cT 0, 3, .inl fb_keptDressed)), (m_standsIn, .inl (cT 0, 8, .inl fa_standsIn)), (m_keptStands, .inl (cT 0, 8, .inl fb_keptStands)), (m_shotMany, .inl (cT 0, 12, .inl fa_shotMany)), (m_keptShot, .inl (cT 0, 12, .inl fb_keptShot)), (m_workedIn, .inl (cT 0, 6, .inl fa_workedIn)), (m_keptWorkedIn, .inl (cT 0, 6, .inl fb2_2))] := hD
  refine lv_aload_n hx hb dX12_foretold_24 rfl (lv_at hl 0 rfl) ?_
  refine va_get (D := D) (ci := 12) (v := .ref m_worked) (C := RX12) (T := TX12) (N := 109) hx hb hts (fun _ h => List.mem_cons_of_mem _ (List.mem_append_right _ h)) hown hK hP 0 rfl rfl 91 (by decide) (hts (.fieldLink RX12 213 "PuppetFilmModel" "worked" "[I") (List.mem_of_getElem? (i := 6) (by decide +kernel))) (fun _ h9 => h9) ((List.getElem?_set_ne (by decide)).trans ((List.getElem?_set_ne (by decide)).trans (hfs_91))) dX12_foretold_25 ?_
  refine lv_aload_n hx hb dX12_foretold_28 rfl (lv_at hl 0 rfl) ?_
  refine va_get (D := D) (ci := 12) (v := .ref m_keptWorked) (C := RX12) (T := TX12) (N := 109) hx hb hts (fun _ h => List.mem_cons_of_mem _ (List.mem_append_right _ h)) hown hK hP 0 rfl rfl 101 (by decide) (hts (.fieldLink RX12 240 "PuppetFilmModel" "keptWorked" "[I") (List.mem_of_getElem? (i := 7) (by decide +kernel))) (fun _ h9 => h9) ((List.getElem?_set_ne (by decide)).trans ((List.getElem?_set_ne (by decide)).trans (hfs_101))) dX12_foretold_29 ?_
  have hF := va_free (wc := [(m_worked, .inl (cT 0, 6, .inl fa_worked)), (m_keptWorked, .inl (cT 0, 6, .inl fb_keptWorked))]) hD hS hA [1, 2] rfl
  refine va_callv (va_runS (As := [.ref m_worked, .ref m_keptWorked]) (rest := []) ⟨hx, hb, hml, hown, hts⟩ (c_X12_copy_6 l D cT m_worked m_keptWorked fa_worked fb_keptWorked _ ) (va_cwS 2 hts gX12_foretold_X12_copy rfl rfl rfl (by decide +kernel) ⟨Nat.le_of_ble_eq_true rfl, Nat.le_of_ble_eq_true rfl⟩) (ps_w hP hD hK hG [1, 2] rfl rfl rfl) rfl rfl hl.1 rfl (lv_room (Nat.le_of_ble_eq_true rfl)) dX12_foretold_32 ⟨Nat.le_of_ble_eq_true rfl, Nat.le_of_ble_eq_true rfl⟩) hS (fun q _ h => hF q h) hF (fun uu9 tt9 H locs ht hvm wr_3 hB hz1 hk1 hS => ?_)
  obtain ⟨fb2_4, hP1, hD1⟩ := hB
  rw [ht] at hP1
  obtain ⟨hP, hD⟩ := va_join (wr := [(h0, .inr (12, ((fs.set 0 (.int 0)).set 99 (.int 0)))), (m_queued, .inl (cT 0, 3, .inl (fun _ => 0))), (m_keptQueued, .inl (cT 0, 3, .inl fb_keptQueued)), (m_queue, .inl (cT 0, 30, .inl fa_queue)), (m_keptQueue, .inl (cT 0, 30, .inl fb_keptQueue)), (m_onNow, .inl (cT 0, 3, .inl mon)), (m_keptOn, .inl (cT 0, 3, .inl fb_keptOn)), (m_dressing, .inl (cT 0, 3, .inl fa_dressing)), (m_keptDressing, .inl (cT 0, 3, .inl fb_keptDressing)), (m_dressed, .inl (cT 0, 3, .inl fa_dressed)), (m_keptDressed, .inl (cT 0, 3, .inl fb_keptDressed)), (m_standsIn, .inl (cT 0, 8, .inl fa_standsIn)), (m_keptStands, .inl (cT 0, 8, .inl fb_keptStands)), (m_shotMany, .inl (cT 0, 12, .inl fa_shotMany)), (m_keptShot, .inl (cT 0, 12, .inl fb_keptShot)), (m_workedIn, .inl (cT 0, 6, .inl fa_workedIn)), (m_keptWorkedIn, .inl (cT 0, 6, .inl fb2_2))]) (w1 := [(m_worked, .inl (cT 0, 6, .inl fa_worked)), (m_keptWorked, .inl (cT 0, 6, .inl fb2_4))]) hP hD [1, 2] [0, 3, 4, 5, 6, 7, 8, 9, 10, 11, 12, 13, 14, 15, 16, 17, 18] rfl rfl (by decide) (by decide) hk1 hF hP1 hD1
  have hP : va_P D vwCl [(h0, .inr (12, ((fs.set 0 (.int 0)).set 99 (.int 0)))), (m_queued, .inl (cT 0, 3, .inl (fun _ => 0))), (m_keptQueued, .inl (cT 0, 3, .inl fb_keptQueued)), (m_queue, .inl (cT 0, 30, .inl fa_queue)), (m_keptQueue, .inl (cT 0, 30, .inl fb_keptQueue)), (m_onNow, .inl (cT 0, 3, .inl mon)), (m_keptOn, .inl (cT 0, 3, .inl fb_keptOn)), (m_dressing, .inl (cT 0, 3, .inl fa_dressing)), (m_keptDressing, .inl (cT 0, 3, .inl fb_keptDressing)), (m_dressed, .inl (cT 0, 3, .inl fa_dressed)), (m_keptDressed, .inl (cT 0, 3, .inl fb_keptDressed)), (m_standsIn, .inl (cT 0, 8, .inl fa_standsIn)), (m_keptStands, .inl (cT 0, 8, .inl fb_keptStands)), (m_shotMany, .inl (cT 0, 12, .inl fa_shotMany)), (m_keptShot, .inl (cT 0, 12, .inl fb_keptShot)), (m_workedIn, .inl (cT 0, 6, .inl fa_workedIn)), (m_keptWorkedIn, .inl (cT 0, 6, .inl fb2_2)), (m_worked, .inl (cT 0, 6, .inl fa_worked)), (m_keptWorked, .inl (cT 0, 6, .inl fb2_4))] _ := hP
  have hD : va_D A [(h0, .inr (12, ((fs.set 0 (.int 0)).set 99 (.int 0)))), (m_queued, .inl (cT 0, 3, .inl (fun _ => 0))), (m_keptQueued, .inl (cT 0, 3, .inl fb_keptQueued)), (m_queue, .inl (cT 0, 30, .inl fa_queue)), (m_keptQueue, .inl (cT 0, 30, .inl fb_keptQueue)), (m_onNow, .inl (cT 0, 3, .inl mon)), (m_keptOn, .inl (cT 0, 3, .inl fb_keptOn)), (m_dressing, .inl (cT 0, 3, .inl fa_dressing)), (m_keptDressing, .inl (cT 0, 3, .inl fb_keptDressing)), (m_dressed, .inl (cT 0, 3, .inl fa_dressed)), (m_keptDressed, .inl (cT 0, 3, .inl fb_keptDressed)), (m_standsIn, .inl (cT 0, 8, .inl fa_standsIn)), (m_keptStands, .inl (cT 0, 8, .inl fb_keptStands)), (m_shotMany, .inl (cT 0, 12, .inl fa_shotMany)), (m_keptShot, .inl (cT 0, 12, .inl fb_keptShot)), (m_workedIn, .inl (cT 0, 6, .inl fa_workedIn)), (m_keptWorkedIn, .inl (cT 0, 6, .inl fb2_2)), (m_worked, .inl (cT 0, 6, .inl fa_worked)), (m_keptWorked, .inl (cT 0, 6, .inl fb2_4))] := hD
  refine lv_aload_n hx hb dX12_foretold_35 rfl (lv_at hl 0 rfl) ?_
  refine va_get (D := D) (ci := 12) (v := .ref m_queued) (C := RX12) (T := TX12) (N := 109) hx hb hts (fun _ h => List.mem_cons_of_mem _ (List.mem_append_right _ h)) hown hK hP 0 rfl rfl 93 (by decide) (hts (.fieldLink RX12 219 "PuppetFilmModel" "queued" "[I") (List.mem_of_getElem? (i := 8) (by decide +kernel))) (fun _ h9 => h9) ((List.getElem?_set_ne (by decide)).trans ((List.getElem?_set_ne (by decide)).trans (hfs_93))) dX12_foretold_36 ?_
  refine lv_aload_n hx hb dX12_foretold_39 rfl (lv_at hl 0 rfl) ?_
  refine va_get (D := D) (ci := 12) (v := .ref m_keptQueued) (C := RX12) (T := TX12) (N := 109) hx hb hts (fun _ h => List.mem_cons_of_mem _ (List.mem_append_right _ h)) hown hK hP 0 rfl rfl 102 (by decide) (hts (.fieldLink RX12 243 "PuppetFilmModel" "keptQueued" "[I") (List.mem_of_getElem? (i := 9) (by decide +kernel))) (fun _ h9 => h9) ((List.getElem?_set_ne (by decide)).trans ((List.getElem?_set_ne (by decide)).trans (hfs_102))) dX12_foretold_40 ?_
  have hF := va_free (wc := [(m_queued, .inl (cT 0, 3, .inl (fun _ => 0))), (m_keptQueued, .inl (cT 0, 3, .inl fb_keptQueued))]) hD hS hA [1, 2] rfl
  refine va_callv (va_runS (As := [.ref m_queued, .ref m_keptQueued]) (rest := []) ⟨hx, hb, hml, hown, hts⟩ (c_X12_copy_3 l D cT m_queued m_keptQueued (fun _ => 0) fb_keptQueued _ ) (va_cwS 2 hts gX12_foretold_X12_copy rfl rfl rfl (by decide +kernel) ⟨Nat.le_of_ble_eq_true rfl, Nat.le_of_ble_eq_true rfl⟩) (ps_w hP hD hK hG [1, 2] rfl rfl rfl) rfl rfl hl.1 rfl (lv_room (Nat.le_of_ble_eq_true rfl)) dX12_foretold_43 ⟨Nat.le_of_ble_eq_true rfl, Nat.le_of_ble_eq_true rfl⟩) hS (fun q _ h => hF q h) hF (fun uu9 tt9 H locs ht hvm wr_5 hB hz1 hk1 hS => ?_)
  obtain ⟨fb2_6, hP1, hD1⟩ := hB
  rw [ht] at hP1
  obtain ⟨hP, hD⟩ := va_join (wr := [(h0, .inr (12, ((fs.set 0 (.int 0)).set 99 (.int 0)))), (m_queue, .inl (cT 0, 30, .inl fa_queue)), (m_keptQueue, .inl (cT 0, 30, .inl fb_keptQueue)), (m_onNow, .inl (cT 0, 3, .inl mon)), (m_keptOn, .inl (cT 0, 3, .inl fb_keptOn)), (m_dressing, .inl (cT 0, 3, .inl fa_dressing)), (m_keptDressing, .inl (cT 0, 3, .inl fb_keptDressing)), (m_dressed, .inl (cT 0, 3, .inl fa_dressed)), (m_keptDressed, .inl (cT 0, 3, .inl fb_keptDressed)), (m_standsIn, .inl (cT 0, 8, .inl fa_standsIn)), (m_keptStands, .inl (cT 0, 8, .inl fb_keptStands)), (m_shotMany, .inl (cT 0, 12, .inl fa_shotMany)), (m_keptShot, .inl (cT 0, 12, .inl fb_keptShot)), (m_workedIn, .inl (cT 0, 6, .inl fa_workedIn)), (m_keptWorkedIn, .inl (cT 0, 6, .inl fb2_2)), (m_worked, .inl (cT 0, 6, .inl fa_worked)), (m_keptWorked, .inl (cT 0, 6, .inl fb2_4))]) (w1 := [(m_queued, .inl (cT 0, 3, .inl (fun _ => 0))), (m_keptQueued, .inl (cT 0, 3, .inl fb2_6))]) hP hD [1, 2] [0, 3, 4, 5, 6, 7, 8, 9, 10, 11, 12, 13, 14, 15, 16, 17, 18] rfl rfl (by decide) (by decide) hk1 hF hP1 hD1
  have hP : va_P D vwCl [(h0, .inr (12, ((fs.set 0 (.int 0)).set 99 (.int 0)))), (m_queue, .inl (cT 0, 30, .inl fa_queue)), (m_keptQueue, .inl (cT 0, 30, .inl fb_keptQueue)), (m_onNow, .inl (cT 0, 3, .inl mon)), (m_keptOn, .inl (cT 0, 3, .inl fb_keptOn)), (m_dressing, .inl (cT 0, 3, .inl fa_dressing)), (m_keptDressing, .inl (cT 0, 3, .inl fb_keptDressing)), (m_dressed, .inl (cT 0, 3, .inl fa_dressed)), (m_keptDressed, .inl (cT 0, 3, .inl fb_keptDressed)), (m_standsIn, .inl (cT 0, 8, .inl fa_standsIn)), (m_keptStands, .inl (cT 0, 8, .inl fb_keptStands)), (m_shotMany, .inl (cT 0, 12, .inl fa_shotMany)), (m_keptShot, .inl (cT 0, 12, .inl fb_keptShot)), (m_workedIn, .inl (cT 0, 6, .inl fa_workedIn)), (m_keptWorkedIn, .inl (cT 0, 6, .inl fb2_2)), (m_worked, .inl (cT 0, 6, .inl fa_worked)), (m_keptWorked, .inl (cT 0, 6, .inl fb2_4)), (m_queued, .inl (cT 0, 3, .inl (fun _ => 0))), (m_keptQueued, .inl (cT 0, 3, .inl fb2_6))] _ := hP
  have hD : va_D A [(h0, .inr (12, ((fs.set 0 (.int 0)).set 99 (.int 0)))), (m_queue, .inl (cT 0, 30, .inl fa_queue)), (m_keptQueue, .inl (cT 0, 30, .inl fb_keptQueue)), (m_onNow, .inl (cT 0, 3, .inl mon)), (m_keptOn, .inl (cT 0, 3, .inl fb_keptOn)), (m_dressing, .inl (cT 0, 3, .inl fa_dressing)), (m_keptDressing, .inl (cT 0, 3, .inl fb_keptDressing)), (m_dressed, .inl (cT 0, 3, .inl fa_dressed)), (m_keptDressed, .inl (cT 0, 3, .inl fb_keptDressed)), (m_standsIn, .inl (cT 0, 8, .inl fa_standsIn)), (m_keptStands, .inl (cT 0, 8, .inl fb_keptStands)), (m_shotMany, .inl (cT 0, 12, .inl fa_shotMany)), (m_keptShot, .inl (cT 0, 12, .inl fb_keptShot)), (m_workedIn, .inl (cT 0, 6, .inl fa_workedIn)), (m_keptWorkedIn, .inl (cT 0, 6, .inl fb2_2)), (m_worked, .inl (cT 0, 6, .inl fa_worked)), (m_keptWorked, .inl (cT 0, 6, .inl fb2_4)), (m_queued, .inl (cT 0, 3, .inl (fun _ => 0))), (m_keptQueued, .inl (cT 0, 3, .inl fb2_6))] := hD
  refine lv_aload_n hx hb dX12_foretold_46 rfl (lv_at hl 0 rfl) ?_
  refine va_get (D := D) (ci := 12) (v := .ref m_queue) (C := RX12) (T := TX12) (N := 109) hx hb hts (fun _ h => List.mem_cons_of_mem _ (List.mem_append_right _ h)) hown hK hP 0 rfl rfl 94 (by decide) (hts (.fieldLink RX12 222 "PuppetFilmModel" "queue" "[I") (List.mem_of_getElem? (i := 10) (by decide +kernel))) (fun _ h9 => h9) ((List.getElem?_set_ne (by decide)).trans ((List.getElem?_set_ne (by decide)).trans (hfs_94))) dX12_foretold_47 ?_
  refine lv_aload_n hx hb dX12_foretold_50 rfl (lv_at hl 0 rfl) ?_
  refine va_get (D := D) (ci := 12) (v := .ref m_keptQueue) (C := RX12) (T := TX12) (N := 109) hx hb hts (fun _ h => List.mem_cons_of_mem _ (List.mem_append_right _ h)) hown hK hP 0 rfl rfl 103 (by decide) (hts (.fieldLink RX12 246 "PuppetFilmModel" "keptQueue" "[I") (List.mem_of_getElem? (i := 11) (by decide +kernel))) (fun _ h9 => h9) ((List.getElem?_set_ne (by decide)).trans ((List.getElem?_set_ne (by decide)).trans (hfs_103))) dX12_foretold_51 ?_
  have hF := va_free (wc := [(m_queue, .inl (cT 0, 30, .inl fa_queue)), (m_keptQueue, .inl (cT 0, 30, .inl fb_keptQueue))]) hD hS hA [1, 2] rfl
  refine va_callv (va_runS (As := [.ref m_queue, .ref m_keptQueue]) (rest := []) ⟨hx, hb, hml, hown, hts⟩ (c_X12_copy_30 l D cT m_queue m_keptQueue fa_queue fb_keptQueue _ ) (va_cwS 2 hts gX12_foretold_X12_copy rfl rfl rfl (by decide +kernel) ⟨Nat.le_of_ble_eq_true rfl, Nat.le_of_ble_eq_true rfl⟩) (ps_w hP hD hK hG [1, 2] rfl rfl rfl) rfl rfl hl.1 rfl (lv_room (Nat.le_of_ble_eq_true rfl)) dX12_foretold_54 ⟨Nat.le_of_ble_eq_true rfl, Nat.le_of_ble_eq_true rfl⟩) hS (fun q _ h => hF q h) hF (fun uu9 tt9 H locs ht hvm wr_7 hB hz1 hk1 hS => ?_)
  obtain ⟨fb2_8, hP1, hD1⟩ := hB
  rw [ht] at hP1
  obtain ⟨hP, hD⟩ := va_join (wr := [(h0, .inr (12, ((fs.set 0 (.int 0)).set 99 (.int 0)))), (m_onNow, .inl (cT 0, 3, .inl mon)), (m_keptOn, .inl (cT 0, 3, .inl fb_keptOn)), (m_dressing, .inl (cT 0, 3, .inl fa_dressing)), (m_keptDressing, .inl (cT 0, 3, .inl fb_keptDressing)), (m_dressed, .inl (cT 0, 3, .inl fa_dressed)), (m_keptDressed, .inl (cT 0, 3, .inl fb_keptDressed)), (m_standsIn, .inl (cT 0, 8, .inl fa_standsIn)), (m_keptStands, .inl (cT 0, 8, .inl fb_keptStands)), (m_shotMany, .inl (cT 0, 12, .inl fa_shotMany)), (m_keptShot, .inl (cT 0, 12, .inl fb_keptShot)), (m_workedIn, .inl (cT 0, 6, .inl fa_workedIn)), (m_keptWorkedIn, .inl (cT 0, 6, .inl fb2_2)), (m_worked, .inl (cT 0, 6, .inl fa_worked)), (m_keptWorked, .inl (cT 0, 6, .inl fb2_4)), (m_queued, .inl (cT 0, 3, .inl (fun _ => 0))), (m_keptQueued, .inl (cT 0, 3, .inl fb2_6))]) (w1 := [(m_queue, .inl (cT 0, 30, .inl fa_queue)), (m_keptQueue, .inl (cT 0, 30, .inl fb2_8))]) hP hD [1, 2] [0, 3, 4, 5, 6, 7, 8, 9, 10, 11, 12, 13, 14, 15, 16, 17, 18] rfl rfl (by decide) (by decide) hk1 hF hP1 hD1
  have hP : va_P D vwCl [(h0, .inr (12, ((fs.set 0 (.int 0)).set 99 (.int 0)))), (m_onNow, .inl (cT 0, 3, .inl mon)), (m_keptOn, .inl (cT 0, 3, .inl fb_keptOn)), (m_dressing, .inl (cT 0, 3, .inl fa_dressing)), (m_keptDressing, .inl (cT 0, 3, .inl fb_keptDressing)), (m_dressed, .inl (cT 0, 3, .inl fa_dressed)), (m_keptDressed, .inl (cT 0, 3, .inl fb_keptDressed)), (m_standsIn, .inl (cT 0, 8, .inl fa_standsIn)), (m_keptStands, .inl (cT 0, 8, .inl fb_keptStands)), (m_shotMany, .inl (cT 0, 12, .inl fa_shotMany)), (m_keptShot, .inl (cT 0, 12, .inl fb_keptShot)), (m_workedIn, .inl (cT 0, 6, .inl fa_workedIn)), (m_keptWorkedIn, .inl (cT 0, 6, .inl fb2_2)), (m_worked, .inl (cT 0, 6, .inl fa_worked)), (m_keptWorked, .inl (cT 0, 6, .inl fb2_4)), (m_queued, .inl (cT 0, 3, .inl (fun _ => 0))), (m_keptQueued, .inl (cT 0, 3, .inl fb2_6)), (m_queue, .inl (cT 0, 30, .inl fa_queue)), (m_keptQueue, .inl (cT 0, 30, .inl fb2_8))] _ := hP
  have hD : va_D A [(h0, .inr (12, ((fs.set 0 (.int 0)).set 99 (.int 0)))), (m_onNow, .inl (cT 0, 3, .inl mon)), (m_keptOn, .inl (cT 0, 3, .inl fb_keptOn)), (m_dressing, .inl (cT 0, 3, .inl fa_dressing)), (m_keptDressing, .inl (cT 0, 3, .inl fb_keptDressing)), (m_dressed, .inl (cT 0, 3, .inl fa_dressed)), (m_keptDressed, .inl (cT 0, 3, .inl fb_keptDressed)), (m_standsIn, .inl (cT 0, 8, .inl fa_standsIn)), (m_keptStands, .inl (cT 0, 8, .inl fb_keptStands)), (m_shotMany, .inl (cT 0, 12, .inl fa_shotMany)), (m_keptShot, .inl (cT 0, 12, .inl fb_keptShot)), (m_workedIn, .inl (cT 0, 6, .inl fa_workedIn)), (m_keptWorkedIn, .inl (cT 0, 6, .inl fb2_2)), (m_worked, .inl (cT 0, 6, .inl fa_worked)), (m_keptWorked, .inl (cT 0, 6, .inl fb2_4)), (m_queued, .inl (cT 0, 3, .inl (fun _ => 0))), (m_keptQueued, .inl (cT 0, 3, .inl fb2_6)), (m_queue, .inl (cT 0, 30, .inl fa_queue)), (m_keptQueue, .inl (cT 0, 30, .inl fb2_8))] := hD
  refine lv_aload_n hx hb dX12_foretold_57 rfl (lv_at hl 0 rfl) ?_
  refine va_get (D := D) (ci := 12) (v := .ref m_onNow) (C := RX12) (T := TX12) (N := 109) hx hb hts (fun _ h => List.mem_cons_of_mem _ (List.mem_append_right _ h)) hown hK hP 0 rfl rfl 95 (by decide) (hts (.fieldLink RX12 225 "PuppetFilmModel" "onNow" "[I") (List.mem_of_getElem? (i := 12) (by decide +kernel))) (fun _ h9 => h9) ((List.getElem?_set_ne (by decide)).trans ((List.getElem?_set_ne (by decide)).trans (hfs_95))) dX12_foretold_58 ?_
  refine lv_aload_n hx hb dX12_foretold_61 rfl (lv_at hl 0 rfl) ?_
  refine va_get (D := D) (ci := 12) (v := .ref m_keptOn) (C := RX12) (T := TX12) (N := 109) hx hb hts (fun _ h => List.mem_cons_of_mem _ (List.mem_append_right _ h)) hown hK hP 0 rfl rfl 104 (by decide) (hts (.fieldLink RX12 249 "PuppetFilmModel" "keptOn" "[I") (List.mem_of_getElem? (i := 13) (by decide +kernel))) (fun _ h9 => h9) ((List.getElem?_set_ne (by decide)).trans ((List.getElem?_set_ne (by decide)).trans (hfs_104))) dX12_foretold_62 ?_
  have hF := va_free (wc := [(m_onNow, .inl (cT 0, 3, .inl mon)), (m_keptOn, .inl (cT 0, 3, .inl fb_keptOn))]) hD hS hA [1, 2] rfl
  refine va_callv (va_runS (As := [.ref m_onNow, .ref m_keptOn]) (rest := []) ⟨hx, hb, hml, hown, hts⟩ (c_X12_copy_3 l D cT m_onNow m_keptOn mon fb_keptOn _ ) (va_cwS 2 hts gX12_foretold_X12_copy rfl rfl rfl (by decide +kernel) ⟨Nat.le_of_ble_eq_true rfl, Nat.le_of_ble_eq_true rfl⟩) (ps_w hP hD hK hG [1, 2] rfl rfl rfl) rfl rfl hl.1 rfl (lv_room (Nat.le_of_ble_eq_true rfl)) dX12_foretold_65 ⟨Nat.le_of_ble_eq_true rfl, Nat.le_of_ble_eq_true rfl⟩) hS (fun q _ h => hF q h) hF (fun uu9 tt9 H locs ht hvm wr_9 hB hz1 hk1 hS => ?_)
  obtain ⟨fb2_10, hP1, hD1⟩ := hB
  rw [ht] at hP1
  obtain ⟨hP, hD⟩ := va_join (wr := [(h0, .inr (12, ((fs.set 0 (.int 0)).set 99 (.int 0)))), (m_dressing, .inl (cT 0, 3, .inl fa_dressing)), (m_keptDressing, .inl (cT 0, 3, .inl fb_keptDressing)), (m_dressed, .inl (cT 0, 3, .inl fa_dressed)), (m_keptDressed, .inl (cT 0, 3, .inl fb_keptDressed)), (m_standsIn, .inl (cT 0, 8, .inl fa_standsIn)), (m_keptStands, .inl (cT 0, 8, .inl fb_keptStands)), (m_shotMany, .inl (cT 0, 12, .inl fa_shotMany)), (m_keptShot, .inl (cT 0, 12, .inl fb_keptShot)), (m_workedIn, .inl (cT 0, 6, .inl fa_workedIn)), (m_keptWorkedIn, .inl (cT 0, 6, .inl fb2_2)), (m_worked, .inl (cT 0, 6, .inl fa_worked)), (m_keptWorked, .inl (cT 0, 6, .inl fb2_4)), (m_queued, .inl (cT 0, 3, .inl (fun _ => 0))), (m_keptQueued, .inl (cT 0, 3, .inl fb2_6)), (m_queue, .inl (cT 0, 30, .inl fa_queue)), (m_keptQueue, .inl (cT 0, 30, .inl fb2_8))]) (w1 := [(m_onNow, .inl (cT 0, 3, .inl mon)), (m_keptOn, .inl (cT 0, 3, .inl fb2_10))]) hP hD [1, 2] [0, 3, 4, 5, 6, 7, 8, 9, 10, 11, 12, 13, 14, 15, 16, 17, 18] rfl rfl (by decide) (by decide) hk1 hF hP1 hD1
  have hP : va_P D vwCl [(h0, .inr (12, ((fs.set 0 (.int 0)).set 99 (.int 0)))), (m_dressing, .inl (cT 0, 3, .inl fa_dressing)), (m_keptDressing, .inl (cT 0, 3, .inl fb_keptDressing)), (m_dressed, .inl (cT 0, 3, .inl fa_dressed)), (m_keptDressed, .inl (cT 0, 3, .inl fb_keptDressed)), (m_standsIn, .inl (cT 0, 8, .inl fa_standsIn)), (m_keptStands, .inl (cT 0, 8, .inl fb_keptStands)), (m_shotMany, .inl (cT 0, 12, .inl fa_shotMany)), (m_keptShot, .inl (cT 0, 12, .inl fb_keptShot)), (m_workedIn, .inl (cT 0, 6, .inl fa_workedIn)), (m_keptWorkedIn, .inl (cT 0, 6, .inl fb2_2)), (m_worked, .inl (cT 0, 6, .inl fa_worked)), (m_keptWorked, .inl (cT 0, 6, .inl fb2_4)), (m_queued, .inl (cT 0, 3, .inl (fun _ => 0))), (m_keptQueued, .inl (cT 0, 3, .inl fb2_6)), (m_queue, .inl (cT 0, 30, .inl fa_queue)), (m_keptQueue, .inl (cT 0, 30, .inl fb2_8)), (m_onNow, .inl (cT 0, 3, .inl mon)), (m_keptOn, .inl (cT 0, 3, .inl fb2_10))] _ := hP
  have hD : va_D A [(h0, .inr (12, ((fs.set 0 (.int 0)).set 99 (.int 0)))), (m_dressing, .inl (cT 0, 3, .inl fa_dressing)), (m_keptDressing, .inl (cT 0, 3, .inl fb_keptDressing)), (m_dressed, .inl (cT 0, 3, .inl fa_dressed)), (m_keptDressed, .inl (cT 0, 3, .inl fb_keptDressed)), (m_standsIn, .inl (cT 0, 8, .inl fa_standsIn)), (m_keptStands, .inl (cT 0, 8, .inl fb_keptStands)), (m_shotMany, .inl (cT 0, 12, .inl fa_shotMany)), (m_keptShot, .inl (cT 0, 12, .inl fb_keptShot)), (m_workedIn, .inl (cT 0, 6, .inl fa_workedIn)), (m_keptWorkedIn, .inl (cT 0, 6, .inl fb2_2)), (m_worked, .inl (cT 0, 6, .inl fa_worked)), (m_keptWorked, .inl (cT 0, 6, .inl fb2_4)), (m_queued, .inl (cT 0, 3, .inl (fun _ => 0))), (m_keptQueued, .inl (cT 0, 3, .inl fb2_6)), (m_queue, .inl (cT 0, 30, .inl fa_queue)), (m_keptQueue, .inl (cT 0, 30, .inl fb2_8)), (m_onNow, .inl (cT 0, 3, .inl mon)), (m_keptOn, .inl (cT 0, 3, .inl fb2_10))] := hD
  refine lv_aload_n hx hb dX12_foretold_68 rfl (lv_at hl 0 rfl) ?_
  refine va_get (D := D) (ci := 12) (v := .ref m_dressing) (C := RX12) (T := TX12) (N := 109) hx hb hts (fun _ h => List.mem_cons_of_mem _ (List.mem_append_right _ h)) hown hK hP 0 rfl rfl 96 (by decide) (hts (.fieldLink RX12 228 "PuppetFilmModel" "dressing" "[I") (List.mem_of_getElem? (i := 14) (by decide +kernel))) (fun _ h9 => h9) ((List.getElem?_set_ne (by decide)).trans ((List.getElem?_set_ne (by decide)).trans (hfs_96))) dX12_foretold_69 ?_
  refine lv_aload_n hx hb dX12_foretold_72 rfl (lv_at hl 0 rfl) ?_
  refine va_get (D := D) (ci := 12) (v := .ref m_keptDressing) (C := RX12) (T := TX12) (N := 109) hx hb hts (fun _ h => List.mem_cons_of_mem _ (List.mem_append_right _ h)) hown hK hP 0 rfl rfl 105 (by decide) (hts (.fieldLink RX12 252 "PuppetFilmModel" "keptDressing" "[I") (List.mem_of_getElem? (i := 15) (by decide +kernel))) (fun _ h9 => h9) ((List.getElem?_set_ne (by decide)).trans ((List.getElem?_set_ne (by decide)).trans (hfs_105))) dX12_foretold_73 ?_
  have hF := va_free (wc := [(m_dressing, .inl (cT 0, 3, .inl fa_dressing)), (m_keptDressing, .inl (cT 0, 3, .inl fb_keptDressing))]) hD hS hA [1, 2] rfl
  refine va_callv (va_runS (As := [.ref m_dressing, .ref m_keptDressing]) (rest := []) ⟨hx, hb, hml, hown, hts⟩ (c_X12_copy_3 l D cT m_dressing m_keptDressing fa_dressing fb_keptDressing _ ) (va_cwS 2 hts gX12_foretold_X12_copy rfl rfl rfl (by decide +kernel) ⟨Nat.le_of_ble_eq_true rfl, Nat.le_of_ble_eq_true rfl⟩) (ps_w hP hD hK hG [1, 2] rfl rfl rfl) rfl rfl hl.1 rfl (lv_room (Nat.le_of_ble_eq_true rfl)) dX12_foretold_76 ⟨Nat.le_of_ble_eq_true rfl, Nat.le_of_ble_eq_true rfl⟩) hS (fun q _ h => hF q h) hF (fun uu9 tt9 H locs ht hvm wr_11 hB hz1 hk1 hS => ?_)
  obtain ⟨fb2_12, hP1, hD1⟩ := hB
  rw [ht] at hP1
  obtain ⟨hP, hD⟩ := va_join (wr := [(h0, .inr (12, ((fs.set 0 (.int 0)).set 99 (.int 0)))), (m_dressed, .inl (cT 0, 3, .inl fa_dressed)), (m_keptDressed, .inl (cT 0, 3, .inl fb_keptDressed)), (m_standsIn, .inl (cT 0, 8, .inl fa_standsIn)), (m_keptStands, .inl (cT 0, 8, .inl fb_keptStands)), (m_shotMany, .inl (cT 0, 12, .inl fa_shotMany)), (m_keptShot, .inl (cT 0, 12, .inl fb_keptShot)), (m_workedIn, .inl (cT 0, 6, .inl fa_workedIn)), (m_keptWorkedIn, .inl (cT 0, 6, .inl fb2_2)), (m_worked, .inl (cT 0, 6, .inl fa_worked)), (m_keptWorked, .inl (cT 0, 6, .inl fb2_4)), (m_queued, .inl (cT 0, 3, .inl (fun _ => 0))), (m_keptQueued, .inl (cT 0, 3, .inl fb2_6)), (m_queue, .inl (cT 0, 30, .inl fa_queue)), (m_keptQueue, .inl (cT 0, 30, .inl fb2_8)), (m_onNow, .inl (cT 0, 3, .inl mon)), (m_keptOn, .inl (cT 0, 3, .inl fb2_10))]) (w1 := [(m_dressing, .inl (cT 0, 3, .inl fa_dressing)), (m_keptDressing, .inl (cT 0, 3, .inl fb2_12))]) hP hD [1, 2] [0, 3, 4, 5, 6, 7, 8, 9, 10, 11, 12, 13, 14, 15, 16, 17, 18] rfl rfl (by decide) (by decide) hk1 hF hP1 hD1
  have hP : va_P D vwCl [(h0, .inr (12, ((fs.set 0 (.int 0)).set 99 (.int 0)))), (m_dressed, .inl (cT 0, 3, .inl fa_dressed)), (m_keptDressed, .inl (cT 0, 3, .inl fb_keptDressed)), (m_standsIn, .inl (cT 0, 8, .inl fa_standsIn)), (m_keptStands, .inl (cT 0, 8, .inl fb_keptStands)), (m_shotMany, .inl (cT 0, 12, .inl fa_shotMany)), (m_keptShot, .inl (cT 0, 12, .inl fb_keptShot)), (m_workedIn, .inl (cT 0, 6, .inl fa_workedIn)), (m_keptWorkedIn, .inl (cT 0, 6, .inl fb2_2)), (m_worked, .inl (cT 0, 6, .inl fa_worked)), (m_keptWorked, .inl (cT 0, 6, .inl fb2_4)), (m_queued, .inl (cT 0, 3, .inl (fun _ => 0))), (m_keptQueued, .inl (cT 0, 3, .inl fb2_6)), (m_queue, .inl (cT 0, 30, .inl fa_queue)), (m_keptQueue, .inl (cT 0, 30, .inl fb2_8)), (m_onNow, .inl (cT 0, 3, .inl mon)), (m_keptOn, .inl (cT 0, 3, .inl fb2_10)), (m_dressing, .inl (cT 0, 3, .inl fa_dressing)), (m_keptDressing, .inl (cT 0, 3, .inl fb2_12))] _ := hP
  have hD : va_D A [(h0, .inr (12, ((fs.set 0 (.int 0)).set 99 (.int 0)))), (m_dressed, .inl (cT 0, 3, .inl fa_dressed)), (m_keptDressed, .inl (cT 0, 3, .inl fb_keptDressed)), (m_standsIn, .inl (cT 0, 8, .inl fa_standsIn)), (m_keptStands, .inl (cT 0, 8, .inl fb_keptStands)), (m_shotMany, .inl (cT 0, 12, .inl fa_shotMany)), (m_keptShot, .inl (cT 0, 12, .inl fb_keptShot)), (m_workedIn, .inl (cT 0, 6, .inl fa_workedIn)), (m_keptWorkedIn, .inl (cT 0, 6, .inl fb2_2)), (m_worked, .inl (cT 0, 6, .inl fa_worked)), (m_keptWorked, .inl (cT 0, 6, .inl fb2_4)), (m_queued, .inl (cT 0, 3, .inl (fun _ => 0))), (m_keptQueued, .inl (cT 0, 3, .inl fb2_6)), (m_queue, .inl (cT 0, 30, .inl fa_queue)), (m_keptQueue, .inl (cT 0, 30, .inl fb2_8)), (m_onNow, .inl (cT 0, 3, .inl mon)), (m_keptOn, .inl (cT 0, 3, .inl fb2_10)), (m_dressing, .inl (cT 0, 3, .inl fa_dressing)), (m_keptDressing, .inl (cT 0, 3, .inl fb2_12))] := hD
  refine lv_aload_n hx hb dX12_foretold_79 rfl (lv_at hl 0 rfl) ?_
  refine va_get (D := D) (ci := 12) (v := .ref m_dressed) (C := RX12) (T := TX12) (N := 109) hx hb hts (fun _ h => List.mem_cons_of_mem _ (List.mem_append_right _ h)) hown hK hP 0 rfl rfl 97 (by decide) (hts (.fieldLink RX12 231 "PuppetFilmModel" "dressed" "[I") (List.mem_of_getElem? (i := 16) (by decide +kernel))) (fun _ h9 => h9) ((List.getElem?_set_ne (by decide)).trans ((List.getElem?_set_ne (by decide)).trans (hfs_97))) dX12_foretold_80 ?_
  refine lv_aload_n hx hb dX12_foretold_83 rfl (lv_at hl 0 rfl) ?_
  refine va_get (D := D) (ci := 12) (v := .ref m_keptDressed) (C := RX12) (T := TX12) (N := 109) hx hb hts (fun _ h => List.mem_cons_of_mem _ (List.mem_append_right _ h)) hown hK hP 0 rfl rfl 106 (by decide) (hts (.fieldLink RX12 255 "PuppetFilmModel" "keptDressed" "[I") (List.mem_of_getElem? (i := 17) (by decide +kernel))) (fun _ h9 => h9) ((List.getElem?_set_ne (by decide)).trans ((List.getElem?_set_ne (by decide)).trans (hfs_106))) dX12_foretold_84 ?_
  have hF := va_free (wc := [(m_dressed, .inl (cT 0, 3, .inl fa_dressed)), (m_keptDressed, .inl (cT 0, 3, .inl fb_keptDressed))]) hD hS hA [1, 2] rfl
  refine va_callv (va_runS (As := [.ref m_dressed, .ref m_keptDressed]) (rest := []) ⟨hx, hb, hml, hown, hts⟩ (c_X12_copy_3 l D cT m_dressed m_keptDressed fa_dressed fb_keptDressed _ ) (va_cwS 2 hts gX12_foretold_X12_copy rfl rfl rfl (by decide +kernel) ⟨Nat.le_of_ble_eq_true rfl, Nat.le_of_ble_eq_true rfl⟩) (ps_w hP hD hK hG [1, 2] rfl rfl rfl) rfl rfl hl.1 rfl (lv_room (Nat.le_of_ble_eq_true rfl)) dX12_foretold_87 ⟨Nat.le_of_ble_eq_true rfl, Nat.le_of_ble_eq_true rfl⟩) hS (fun q _ h => hF q h) hF (fun uu9 tt9 H locs ht hvm wr_13 hB hz1 hk1 hS => ?_)
  obtain ⟨fb2_14, hP1, hD1⟩ := hB
  rw [ht] at hP1
  obtain ⟨hP, hD⟩ := va_join (wr := [(h0, .inr (12, ((fs.set 0 (.int 0)).set 99 (.int 0)))), (m_standsIn, .inl (cT 0, 8, .inl fa_standsIn)), (m_keptStands, .inl (cT 0, 8, .inl fb_keptStands)), (m_shotMany, .inl (cT 0, 12, .inl fa_shotMany)), (m_keptShot, .inl (cT 0, 12, .inl fb_keptShot)), (m_workedIn, .inl (cT 0, 6, .inl fa_workedIn)), (m_keptWorkedIn, .inl (cT 0, 6, .inl fb2_2)), (m_worked, .inl (cT 0, 6, .inl fa_worked)), (m_keptWorked, .inl (cT 0, 6, .inl fb2_4)), (m_queued, .inl (cT 0, 3, .inl (fun _ => 0))), (m_keptQueued, .inl (cT 0, 3, .inl fb2_6)), (m_queue, .inl (cT 0, 30, .inl fa_queue)), (m_keptQueue, .inl (cT 0, 30, .inl fb2_8)), (m_onNow, .inl (cT 0, 3, .inl mon)), (m_keptOn, .inl (cT 0, 3, .inl fb2_10)), (m_dressing, .inl (cT 0, 3, .inl fa_dressing)), (m_keptDressing, .inl (cT 0, 3, .inl fb2_12))]) (w1 := [(m_dressed, .inl (cT 0, 3, .inl fa_dressed)), (m_keptDressed, .inl (cT 0, 3, .inl fb2_14))]) hP hD [1, 2] [0, 3, 4, 5, 6, 7, 8, 9, 10, 11, 12, 13, 14, 15, 16, 17, 18] rfl rfl (by decide) (by decide) hk1 hF hP1 hD1
  have hP : va_P D vwCl [(h0, .inr (12, ((fs.set 0 (.int 0)).set 99 (.int 0)))), (m_standsIn, .inl (cT 0, 8, .inl fa_standsIn)), (m_keptStands, .inl (cT 0, 8, .inl fb_keptStands)), (m_shotMany, .inl (cT 0, 12, .inl fa_shotMany)), (m_keptShot, .inl (cT 0, 12, .inl fb_keptShot)), (m_workedIn, .inl (cT 0, 6, .inl fa_workedIn)), (m_keptWorkedIn, .inl (cT 0, 6, .inl fb2_2)), (m_worked, .inl (cT 0, 6, .inl fa_worked)), (m_keptWorked, .inl (cT 0, 6, .inl fb2_4)), (m_queued, .inl (cT 0, 3, .inl (fun _ => 0))), (m_keptQueued, .inl (cT 0, 3, .inl fb2_6)), (m_queue, .inl (cT 0, 30, .inl fa_queue)), (m_keptQueue, .inl (cT 0, 30, .inl fb2_8)), (m_onNow, .inl (cT 0, 3, .inl mon)), (m_keptOn, .inl (cT 0, 3, .inl fb2_10)), (m_dressing, .inl (cT 0, 3, .inl fa_dressing)), (m_keptDressing, .inl (cT 0, 3, .inl fb2_12)), (m_dressed, .inl (cT 0, 3, .inl fa_dressed)), (m_keptDressed, .inl (cT 0, 3, .inl fb2_14))] _ := hP
  have hD : va_D A [(h0, .inr (12, ((fs.set 0 (.int 0)).set 99 (.int 0)))), (m_standsIn, .inl (cT 0, 8, .inl fa_standsIn)), (m_keptStands, .inl (cT 0, 8, .inl fb_keptStands)), (m_shotMany, .inl (cT 0, 12, .inl fa_shotMany)), (m_keptShot, .inl (cT 0, 12, .inl fb_keptShot)), (m_workedIn, .inl (cT 0, 6, .inl fa_workedIn)), (m_keptWorkedIn, .inl (cT 0, 6, .inl fb2_2)), (m_worked, .inl (cT 0, 6, .inl fa_worked)), (m_keptWorked, .inl (cT 0, 6, .inl fb2_4)), (m_queued, .inl (cT 0, 3, .inl (fun _ => 0))), (m_keptQueued, .inl (cT 0, 3, .inl fb2_6)), (m_queue, .inl (cT 0, 30, .inl fa_queue)), (m_keptQueue, .inl (cT 0, 30, .inl fb2_8)), (m_onNow, .inl (cT 0, 3, .inl mon)), (m_keptOn, .inl (cT 0, 3, .inl fb2_10)), (m_dressing, .inl (cT 0, 3, .inl fa_dressing)), (m_keptDressing, .inl (cT 0, 3, .inl fb2_12)), (m_dressed, .inl (cT 0, 3, .inl fa_dressed)), (m_keptDressed, .inl (cT 0, 3, .inl fb2_14))] := hD
  refine lv_aload_n hx hb dX12_foretold_90 rfl (lv_at hl 0 rfl) ?_
  refine va_get (D := D) (ci := 12) (v := .ref m_standsIn) (C := RX12) (T := TX12) (N := 109) hx hb hts (fun _ h => List.mem_cons_of_mem _ (List.mem_append_right _ h)) hown hK hP 0 rfl rfl 98 (by decide) (hts (.fieldLink RX12 234 "PuppetFilmModel" "standsIn" "[I") (List.mem_of_getElem? (i := 18) (by decide +kernel))) (fun _ h9 => h9) ((List.getElem?_set_ne (by decide)).trans ((List.getElem?_set_ne (by decide)).trans (hfs_98))) dX12_foretold_91 ?_
  refine lv_aload_n hx hb dX12_foretold_94 rfl (lv_at hl 0 rfl) ?_
  refine va_get (D := D) (ci := 12) (v := .ref m_keptStands) (C := RX12) (T := TX12) (N := 109) hx hb hts (fun _ h => List.mem_cons_of_mem _ (List.mem_append_right _ h)) hown hK hP 0 rfl rfl 107 (by decide) (hts (.fieldLink RX12 258 "PuppetFilmModel" "keptStands" "[I") (List.mem_of_getElem? (i := 19) (by decide +kernel))) (fun _ h9 => h9) ((List.getElem?_set_ne (by decide)).trans ((List.getElem?_set_ne (by decide)).trans (hfs_107))) dX12_foretold_95 ?_
  have hF := va_free (wc := [(m_standsIn, .inl (cT 0, 8, .inl fa_standsIn)), (m_keptStands, .inl (cT 0, 8, .inl fb_keptStands))]) hD hS hA [1, 2] rfl
  refine va_callv (va_runS (As := [.ref m_standsIn, .ref m_keptStands]) (rest := []) ⟨hx, hb, hml, hown, hts⟩ (c_X12_copy_8 l D cT m_standsIn m_keptStands fa_standsIn fb_keptStands _ ) (va_cwS 2 hts gX12_foretold_X12_copy rfl rfl rfl (by decide +kernel) ⟨Nat.le_of_ble_eq_true rfl, Nat.le_of_ble_eq_true rfl⟩) (ps_w hP hD hK hG [1, 2] rfl rfl rfl) rfl rfl hl.1 rfl (lv_room (Nat.le_of_ble_eq_true rfl)) dX12_foretold_98 ⟨Nat.le_of_ble_eq_true rfl, Nat.le_of_ble_eq_true rfl⟩) hS (fun q _ h => hF q h) hF (fun uu9 tt9 H locs ht hvm wr_15 hB hz1 hk1 hS => ?_)
  obtain ⟨fb2_16, hP1, hD1⟩ := hB
  rw [ht] at hP1
  obtain ⟨hP, hD⟩ := va_join (wr := [(h0, .inr (12, ((fs.set 0 (.int 0)).set 99 (.int 0)))), (m_shotMany, .inl (cT 0, 12, .inl fa_shotMany)), (m_keptShot, .inl (cT 0, 12, .inl fb_keptShot)), (m_workedIn, .inl (cT 0, 6, .inl fa_workedIn)), (m_keptWorkedIn, .inl (cT 0, 6, .inl fb2_2)), (m_worked, .inl (cT 0, 6, .inl fa_worked)), (m_keptWorked, .inl (cT 0, 6, .inl fb2_4)), (m_queued, .inl (cT 0, 3, .inl (fun _ => 0))), (m_keptQueued, .inl (cT 0, 3, .inl fb2_6)), (m_queue, .inl (cT 0, 30, .inl fa_queue)), (m_keptQueue, .inl (cT 0, 30, .inl fb2_8)), (m_onNow, .inl (cT 0, 3, .inl mon)), (m_keptOn, .inl (cT 0, 3, .inl fb2_10)), (m_dressing, .inl (cT 0, 3, .inl fa_dressing)), (m_keptDressing, .inl (cT 0, 3, .inl fb2_12)), (m_dressed, .inl (cT 0, 3, .inl fa_dressed)), (m_keptDressed, .inl (cT 0, 3, .inl fb2_14))]) (w1 := [(m_standsIn, .inl (cT 0, 8, .inl fa_standsIn)), (m_keptStands, .inl (cT 0, 8, .inl fb2_16))]) hP hD [1, 2] [0, 3, 4, 5, 6, 7, 8, 9, 10, 11, 12, 13, 14, 15, 16, 17, 18] rfl rfl (by decide) (by decide) hk1 hF hP1 hD1
  have hP : va_P D vwCl [(h0, .inr (12, ((fs.set 0 (.int 0)).set 99 (.int 0)))), (m_shotMany, .inl (cT 0, 12, .inl fa_shotMany)), (m_keptShot, .inl (cT 0, 12, .inl fb_keptShot)), (m_workedIn, .inl (cT 0, 6, .inl fa_workedIn)), (m_keptWorkedIn, .inl (cT 0, 6, .inl fb2_2)), (m_worked, .inl (cT 0, 6, .inl fa_worked)), (m_keptWorked, .inl (cT 0, 6, .inl fb2_4)), (m_queued, .inl (cT 0, 3, .inl (fun _ => 0))), (m_keptQueued, .inl (cT 0, 3, .inl fb2_6)), (m_queue, .inl (cT 0, 30, .inl fa_queue)), (m_keptQueue, .inl (cT 0, 30, .inl fb2_8)), (m_onNow, .inl (cT 0, 3, .inl mon)), (m_keptOn, .inl (cT 0, 3, .inl fb2_10)), (m_dressing, .inl (cT 0, 3, .inl fa_dressing)), (m_keptDressing, .inl (cT 0, 3, .inl fb2_12)), (m_dressed, .inl (cT 0, 3, .inl fa_dressed)), (m_keptDressed, .inl (cT 0, 3, .inl fb2_14)), (m_standsIn, .inl (cT 0, 8, .inl fa_standsIn)), (m_keptStands, .inl (cT 0, 8, .inl fb2_16))] _ := hP
  have hD : va_D A [(h0, .inr (12, ((fs.set 0 (.int 0)).set 99 (.int 0)))), (m_shotMany, .inl (cT 0, 12, .inl fa_shotMany)), (m_keptShot, .inl (cT 0, 12, .inl fb_keptShot)), (m_workedIn, .inl (cT 0, 6, .inl fa_workedIn)), (m_keptWorkedIn, .inl (cT 0, 6, .inl fb2_2)), (m_worked, .inl (cT 0, 6, .inl fa_worked)), (m_keptWorked, .inl (cT 0, 6, .inl fb2_4)), (m_queued, .inl (cT 0, 3, .inl (fun _ => 0))), (m_keptQueued, .inl (cT 0, 3, .inl fb2_6)), (m_queue, .inl (cT 0, 30, .inl fa_queue)), (m_keptQueue, .inl (cT 0, 30, .inl fb2_8)), (m_onNow, .inl (cT 0, 3, .inl mon)), (m_keptOn, .inl (cT 0, 3, .inl fb2_10)), (m_dressing, .inl (cT 0, 3, .inl fa_dressing)), (m_keptDressing, .inl (cT 0, 3, .inl fb2_12)), (m_dressed, .inl (cT 0, 3, .inl fa_dressed)), (m_keptDressed, .inl (cT 0, 3, .inl fb2_14)), (m_standsIn, .inl (cT 0, 8, .inl fa_standsIn)), (m_keptStands, .inl (cT 0, 8, .inl fb2_16))] := hD
  refine lv_aload_n hx hb dX12_foretold_101 rfl (lv_at hl 0 rfl) ?_
  refine va_get (D := D) (ci := 12) (v := .ref m_shotMany) (C := RX12) (T := TX12) (N := 109) hx hb hts (fun _ h => List.mem_cons_of_mem _ (List.mem_append_right _ h)) hown hK hP 0 rfl rfl 48 (by decide) (hts (.fieldLink RX12 116 "PuppetFilmModel" "shotMany" "[I") (List.mem_of_getElem? (i := 20) (by decide +kernel))) (fun _ h9 => h9) ((List.getElem?_set_ne (by decide)).trans ((List.getElem?_set_ne (by decide)).trans (hfs_48))) dX12_foretold_102 ?_
  refine lv_aload_n hx hb dX12_foretold_105 rfl (lv_at hl 0 rfl) ?_
  refine va_get (D := D) (ci := 12) (v := .ref m_keptShot) (C := RX12) (T := TX12) (N := 109) hx hb hts (fun _ h => List.mem_cons_of_mem _ (List.mem_append_right _ h)) hown hK hP 0 rfl rfl 108 (by decide) (hts (.fieldLink RX12 261 "PuppetFilmModel" "keptShot" "[I") (List.mem_of_getElem? (i := 21) (by decide +kernel))) (fun _ h9 => h9) ((List.getElem?_set_ne (by decide)).trans ((List.getElem?_set_ne (by decide)).trans (hfs_108))) dX12_foretold_106 ?_
  have hF := va_free (wc := [(m_shotMany, .inl (cT 0, 12, .inl fa_shotMany)), (m_keptShot, .inl (cT 0, 12, .inl fb_keptShot))]) hD hS hA [1, 2] rfl
  refine va_callv (va_runS (As := [.ref m_shotMany, .ref m_keptShot]) (rest := []) ⟨hx, hb, hml, hown, hts⟩ (c_X12_copy_12 l D cT m_shotMany m_keptShot fa_shotMany fb_keptShot _ ) (va_cwS 2 hts gX12_foretold_X12_copy rfl rfl rfl (by decide +kernel) ⟨Nat.le_of_ble_eq_true rfl, Nat.le_of_ble_eq_true rfl⟩) (ps_w hP hD hK hG [1, 2] rfl rfl rfl) rfl rfl hl.1 rfl (lv_room (Nat.le_of_ble_eq_true rfl)) dX12_foretold_109 ⟨Nat.le_of_ble_eq_true rfl, Nat.le_of_ble_eq_true rfl⟩) hS (fun q _ h => hF q h) hF (fun uu9 tt9 H locs ht hvm wr_17 hB hz1 hk1 hS => ?_)
  obtain ⟨fb2_18, hP1, hD1⟩ := hB
  rw [ht] at hP1
  obtain ⟨hP, hD⟩ := va_join (wr := [(h0, .inr (12, ((fs.set 0 (.int 0)).set 99 (.int 0)))), (m_workedIn, .inl (cT 0, 6, .inl fa_workedIn)), (m_keptWorkedIn, .inl (cT 0, 6, .inl fb2_2)), (m_worked, .inl (cT 0, 6, .inl fa_worked)), (m_keptWorked, .inl (cT 0, 6, .inl fb2_4)), (m_queued, .inl (cT 0, 3, .inl (fun _ => 0))), (m_keptQueued, .inl (cT 0, 3, .inl fb2_6)), (m_queue, .inl (cT 0, 30, .inl fa_queue)), (m_keptQueue, .inl (cT 0, 30, .inl fb2_8)), (m_onNow, .inl (cT 0, 3, .inl mon)), (m_keptOn, .inl (cT 0, 3, .inl fb2_10)), (m_dressing, .inl (cT 0, 3, .inl fa_dressing)), (m_keptDressing, .inl (cT 0, 3, .inl fb2_12)), (m_dressed, .inl (cT 0, 3, .inl fa_dressed)), (m_keptDressed, .inl (cT 0, 3, .inl fb2_14)), (m_standsIn, .inl (cT 0, 8, .inl fa_standsIn)), (m_keptStands, .inl (cT 0, 8, .inl fb2_16))]) (w1 := [(m_shotMany, .inl (cT 0, 12, .inl fa_shotMany)), (m_keptShot, .inl (cT 0, 12, .inl fb2_18))]) hP hD [1, 2] [0, 3, 4, 5, 6, 7, 8, 9, 10, 11, 12, 13, 14, 15, 16, 17, 18] rfl rfl (by decide) (by decide) hk1 hF hP1 hD1
  have hP : va_P D vwCl [(h0, .inr (12, ((fs.set 0 (.int 0)).set 99 (.int 0)))), (m_workedIn, .inl (cT 0, 6, .inl fa_workedIn)), (m_keptWorkedIn, .inl (cT 0, 6, .inl fb2_2)), (m_worked, .inl (cT 0, 6, .inl fa_worked)), (m_keptWorked, .inl (cT 0, 6, .inl fb2_4)), (m_queued, .inl (cT 0, 3, .inl (fun _ => 0))), (m_keptQueued, .inl (cT 0, 3, .inl fb2_6)), (m_queue, .inl (cT 0, 30, .inl fa_queue)), (m_keptQueue, .inl (cT 0, 30, .inl fb2_8)), (m_onNow, .inl (cT 0, 3, .inl mon)), (m_keptOn, .inl (cT 0, 3, .inl fb2_10)), (m_dressing, .inl (cT 0, 3, .inl fa_dressing)), (m_keptDressing, .inl (cT 0, 3, .inl fb2_12)), (m_dressed, .inl (cT 0, 3, .inl fa_dressed)), (m_keptDressed, .inl (cT 0, 3, .inl fb2_14)), (m_standsIn, .inl (cT 0, 8, .inl fa_standsIn)), (m_keptStands, .inl (cT 0, 8, .inl fb2_16)), (m_shotMany, .inl (cT 0, 12, .inl fa_shotMany)), (m_keptShot, .inl (cT 0, 12, .inl fb2_18))] _ := hP
  have hD : va_D A [(h0, .inr (12, ((fs.set 0 (.int 0)).set 99 (.int 0)))), (m_workedIn, .inl (cT 0, 6, .inl fa_workedIn)), (m_keptWorkedIn, .inl (cT 0, 6, .inl fb2_2)), (m_worked, .inl (cT 0, 6, .inl fa_worked)), (m_keptWorked, .inl (cT 0, 6, .inl fb2_4)), (m_queued, .inl (cT 0, 3, .inl (fun _ => 0))), (m_keptQueued, .inl (cT 0, 3, .inl fb2_6)), (m_queue, .inl (cT 0, 30, .inl fa_queue)), (m_keptQueue, .inl (cT 0, 30, .inl fb2_8)), (m_onNow, .inl (cT 0, 3, .inl mon)), (m_keptOn, .inl (cT 0, 3, .inl fb2_10)), (m_dressing, .inl (cT 0, 3, .inl fa_dressing)), (m_keptDressing, .inl (cT 0, 3, .inl fb2_12)), (m_dressed, .inl (cT 0, 3, .inl fa_dressed)), (m_keptDressed, .inl (cT 0, 3, .inl fb2_14)), (m_standsIn, .inl (cT 0, 8, .inl fa_standsIn)), (m_keptStands, .inl (cT 0, 8, .inl fb2_16)), (m_shotMany, .inl (cT 0, 12, .inl fa_shotMany)), (m_keptShot, .inl (cT 0, 12, .inl fb2_18))] := hD
  refine lv_iconst (v := 0) hx hb dX12_foretold_112 (by decide) ?_
  refine lv_istore_n (lv' := [(1, .int 0), (0, .ref h0)]) hx hb dX12_foretold_113 rfl hl (by decide) rfl (fun ls hl => ?_)
  refine lv_iload_n hx hb dX12_foretold_114 rfl (lv_at hl 0 rfl) ?_
  refine lv_sipush (v := 2000) hx hb dX12_foretold_115 (by decide) ?_
  refine lv_icmp_ge (tgt := 138) hx hb dX12_foretold_118 (by decide) (fun c9 => absurd c9 (by decide)) (fun _ => ?_)
  refine lv_aload_n hx hb dX12_foretold_121 rfl (lv_at hl 1 rfl) ?_
  have hF := va_free (wc := [(h0, .inr (12, ((fs.set 0 (.int 0)).set 99 (.int 0)))), (m_queued, .inl (cT 0, 3, .inl (fun _ => 0))), (m_onNow, .inl (cT 0, 3, .inl mon))]) hD hS hA [0, 5, 9] rfl
  refine va_calli (va_runV (As := []) (rest := []) ⟨hx, hb, hml, hown, hts⟩ (c_X12_isIdle l D cT h0 ((fs.set 0 (.int 0)).set 99 (.int 0)) m_queued m_onNow mon _ (by assumption) (by simp only [List.length_set]; exact hfs) ((List.getElem?_set_ne (by decide)).trans ((List.getElem?_set_ne (by decide)).trans (hfs_93))) ((List.getElem?_set_ne (by decide)).trans ((List.getElem?_set_ne (by decide)).trans (hfs_95)))) (cwV 0 hts gX12_foretold_X12_isIdle rfl rfl rfl (by decide +kernel) ⟨Nat.le_of_ble_eq_true rfl, Nat.le_of_ble_eq_true rfl⟩) (pv_w hP hD hK hG [0, 5, 9] rfl rfl rfl 0 rfl rfl) rfl rfl hl.1 rfl (lv_room (Nat.le_of_ble_eq_true rfl)) dX12_foretold_122 ⟨Nat.le_of_ble_eq_true rfl, Nat.le_of_ble_eq_true rfl⟩) hS (fun q _ h => hF q h) hF (fun r_19 uu9 tt9 H locs ht hvm wr_19 hB hz1 hk1 hS => ?_)
  obtain ⟨hP1, hD1⟩ := hB
  rw [ht] at hP1
  obtain ⟨hP, hD⟩ := va_join (wr := [(m_workedIn, .inl (cT 0, 6, .inl fa_workedIn)), (m_keptWorkedIn, .inl (cT 0, 6, .inl fb2_2)), (m_worked, .inl (cT 0, 6, .inl fa_worked)), (m_keptWorked, .inl (cT 0, 6, .inl fb2_4)), (m_keptQueued, .inl (cT 0, 3, .inl fb2_6)), (m_queue, .inl (cT 0, 30, .inl fa_queue)), (m_keptQueue, .inl (cT 0, 30, .inl fb2_8)), (m_keptOn, .inl (cT 0, 3, .inl fb2_10)), (m_dressing, .inl (cT 0, 3, .inl fa_dressing)), (m_keptDressing, .inl (cT 0, 3, .inl fb2_12)), (m_dressed, .inl (cT 0, 3, .inl fa_dressed)), (m_keptDressed, .inl (cT 0, 3, .inl fb2_14)), (m_standsIn, .inl (cT 0, 8, .inl fa_standsIn)), (m_keptStands, .inl (cT 0, 8, .inl fb2_16)), (m_shotMany, .inl (cT 0, 12, .inl fa_shotMany)), (m_keptShot, .inl (cT 0, 12, .inl fb2_18))]) (w1 := [(h0, .inr (12, ((fs.set 0 (.int 0)).set 99 (.int 0)))), (m_queued, .inl (cT 0, 3, .inl (fun _ => 0))), (m_onNow, .inl (cT 0, 3, .inl mon))]) hP hD [0, 5, 9] [1, 2, 3, 4, 6, 7, 8, 10, 11, 12, 13, 14, 15, 16, 17, 18] rfl rfl (by decide) (by decide) hk1 hF hP1 hD1
  have hP : va_P D vwCl [(m_workedIn, .inl (cT 0, 6, .inl fa_workedIn)), (m_keptWorkedIn, .inl (cT 0, 6, .inl fb2_2)), (m_worked, .inl (cT 0, 6, .inl fa_worked)), (m_keptWorked, .inl (cT 0, 6, .inl fb2_4)), (m_keptQueued, .inl (cT 0, 3, .inl fb2_6)), (m_queue, .inl (cT 0, 30, .inl fa_queue)), (m_keptQueue, .inl (cT 0, 30, .inl fb2_8)), (m_keptOn, .inl (cT 0, 3, .inl fb2_10)), (m_dressing, .inl (cT 0, 3, .inl fa_dressing)), (m_keptDressing, .inl (cT 0, 3, .inl fb2_12)), (m_dressed, .inl (cT 0, 3, .inl fa_dressed)), (m_keptDressed, .inl (cT 0, 3, .inl fb2_14)), (m_standsIn, .inl (cT 0, 8, .inl fa_standsIn)), (m_keptStands, .inl (cT 0, 8, .inl fb2_16)), (m_shotMany, .inl (cT 0, 12, .inl fa_shotMany)), (m_keptShot, .inl (cT 0, 12, .inl fb2_18)), (h0, .inr (12, ((fs.set 0 (.int 0)).set 99 (.int 0)))), (m_queued, .inl (cT 0, 3, .inl (fun _ => 0))), (m_onNow, .inl (cT 0, 3, .inl mon))] _ := hP
  have hD : va_D A [(m_workedIn, .inl (cT 0, 6, .inl fa_workedIn)), (m_keptWorkedIn, .inl (cT 0, 6, .inl fb2_2)), (m_worked, .inl (cT 0, 6, .inl fa_worked)), (m_keptWorked, .inl (cT 0, 6, .inl fb2_4)), (m_keptQueued, .inl (cT 0, 3, .inl fb2_6)), (m_queue, .inl (cT 0, 30, .inl fa_queue)), (m_keptQueue, .inl (cT 0, 30, .inl fb2_8)), (m_keptOn, .inl (cT 0, 3, .inl fb2_10)), (m_dressing, .inl (cT 0, 3, .inl fa_dressing)), (m_keptDressing, .inl (cT 0, 3, .inl fb2_12)), (m_dressed, .inl (cT 0, 3, .inl fa_dressed)), (m_keptDressed, .inl (cT 0, 3, .inl fb2_14)), (m_standsIn, .inl (cT 0, 8, .inl fa_standsIn)), (m_keptStands, .inl (cT 0, 8, .inl fb2_16)), (m_shotMany, .inl (cT 0, 12, .inl fa_shotMany)), (m_keptShot, .inl (cT 0, 12, .inl fb2_18)), (h0, .inr (12, ((fs.set 0 (.int 0)).set 99 (.int 0)))), (m_queued, .inl (cT 0, 3, .inl (fun _ => 0))), (m_onNow, .inl (cT 0, 3, .inl mon))] := hD
  obtain rfl : r_19 = 1 := wr_19.trans (rfl)
  refine lv_if_ne (tgt := 138) hx hb dX12_foretold_125 (by decide) (fun _ => ?_) (fun c9 => absurd c9 (by decide))
  refine lv_aload_n hx hb dX12_foretold_138 rfl (lv_at hl 1 rfl) ?_
  have hF := va_free (wc := [(h0, .inr (12, ((fs.set 0 (.int 0)).set 99 (.int 0)))), (m_queued, .inl (cT 0, 3, .inl (fun _ => 0))), (m_onNow, .inl (cT 0, 3, .inl mon))]) hD hS hA [16, 17, 18] rfl
  refine va_calli (va_runV (As := []) (rest := []) ⟨hx, hb, hml, hown, hts⟩ (c_X12_isIdle l D cT h0 ((fs.set 0 (.int 0)).set 99 (.int 0)) m_queued m_onNow mon _ (by assumption) (by simp only [List.length_set]; exact hfs) ((List.getElem?_set_ne (by decide)).trans ((List.getElem?_set_ne (by decide)).trans (hfs_93))) ((List.getElem?_set_ne (by decide)).trans ((List.getElem?_set_ne (by decide)).trans (hfs_95)))) (cwV 0 hts gX12_foretold_X12_isIdle rfl rfl rfl (by decide +kernel) ⟨Nat.le_of_ble_eq_true rfl, Nat.le_of_ble_eq_true rfl⟩) (pv_w hP hD hK hG [16, 17, 18] rfl rfl rfl 16 rfl rfl) rfl rfl hl.1 rfl (lv_room (Nat.le_of_ble_eq_true rfl)) dX12_foretold_139 ⟨Nat.le_of_ble_eq_true rfl, Nat.le_of_ble_eq_true rfl⟩) hS (fun q _ h => hF q h) hF (fun r_20 uu9 tt9 H locs ht hvm wr_20 hB hz1 hk1 hS => ?_)
  obtain ⟨hP1, hD1⟩ := hB
  rw [ht] at hP1
  obtain ⟨hP, hD⟩ := va_join (wr := [(m_workedIn, .inl (cT 0, 6, .inl fa_workedIn)), (m_keptWorkedIn, .inl (cT 0, 6, .inl fb2_2)), (m_worked, .inl (cT 0, 6, .inl fa_worked)), (m_keptWorked, .inl (cT 0, 6, .inl fb2_4)), (m_keptQueued, .inl (cT 0, 3, .inl fb2_6)), (m_queue, .inl (cT 0, 30, .inl fa_queue)), (m_keptQueue, .inl (cT 0, 30, .inl fb2_8)), (m_keptOn, .inl (cT 0, 3, .inl fb2_10)), (m_dressing, .inl (cT 0, 3, .inl fa_dressing)), (m_keptDressing, .inl (cT 0, 3, .inl fb2_12)), (m_dressed, .inl (cT 0, 3, .inl fa_dressed)), (m_keptDressed, .inl (cT 0, 3, .inl fb2_14)), (m_standsIn, .inl (cT 0, 8, .inl fa_standsIn)), (m_keptStands, .inl (cT 0, 8, .inl fb2_16)), (m_shotMany, .inl (cT 0, 12, .inl fa_shotMany)), (m_keptShot, .inl (cT 0, 12, .inl fb2_18))]) (w1 := [(h0, .inr (12, ((fs.set 0 (.int 0)).set 99 (.int 0)))), (m_queued, .inl (cT 0, 3, .inl (fun _ => 0))), (m_onNow, .inl (cT 0, 3, .inl mon))]) hP hD [16, 17, 18] [0, 1, 2, 3, 4, 5, 6, 7, 8, 9, 10, 11, 12, 13, 14, 15] rfl rfl (by decide) (by decide) hk1 hF hP1 hD1
  have hP : va_P D vwCl [(m_workedIn, .inl (cT 0, 6, .inl fa_workedIn)), (m_keptWorkedIn, .inl (cT 0, 6, .inl fb2_2)), (m_worked, .inl (cT 0, 6, .inl fa_worked)), (m_keptWorked, .inl (cT 0, 6, .inl fb2_4)), (m_keptQueued, .inl (cT 0, 3, .inl fb2_6)), (m_queue, .inl (cT 0, 30, .inl fa_queue)), (m_keptQueue, .inl (cT 0, 30, .inl fb2_8)), (m_keptOn, .inl (cT 0, 3, .inl fb2_10)), (m_dressing, .inl (cT 0, 3, .inl fa_dressing)), (m_keptDressing, .inl (cT 0, 3, .inl fb2_12)), (m_dressed, .inl (cT 0, 3, .inl fa_dressed)), (m_keptDressed, .inl (cT 0, 3, .inl fb2_14)), (m_standsIn, .inl (cT 0, 8, .inl fa_standsIn)), (m_keptStands, .inl (cT 0, 8, .inl fb2_16)), (m_shotMany, .inl (cT 0, 12, .inl fa_shotMany)), (m_keptShot, .inl (cT 0, 12, .inl fb2_18)), (h0, .inr (12, ((fs.set 0 (.int 0)).set 99 (.int 0)))), (m_queued, .inl (cT 0, 3, .inl (fun _ => 0))), (m_onNow, .inl (cT 0, 3, .inl mon))] _ := hP
  have hD : va_D A [(m_workedIn, .inl (cT 0, 6, .inl fa_workedIn)), (m_keptWorkedIn, .inl (cT 0, 6, .inl fb2_2)), (m_worked, .inl (cT 0, 6, .inl fa_worked)), (m_keptWorked, .inl (cT 0, 6, .inl fb2_4)), (m_keptQueued, .inl (cT 0, 3, .inl fb2_6)), (m_queue, .inl (cT 0, 30, .inl fa_queue)), (m_keptQueue, .inl (cT 0, 30, .inl fb2_8)), (m_keptOn, .inl (cT 0, 3, .inl fb2_10)), (m_dressing, .inl (cT 0, 3, .inl fa_dressing)), (m_keptDressing, .inl (cT 0, 3, .inl fb2_12)), (m_dressed, .inl (cT 0, 3, .inl fa_dressed)), (m_keptDressed, .inl (cT 0, 3, .inl fb2_14)), (m_standsIn, .inl (cT 0, 8, .inl fa_standsIn)), (m_keptStands, .inl (cT 0, 8, .inl fb2_16)), (m_shotMany, .inl (cT 0, 12, .inl fa_shotMany)), (m_keptShot, .inl (cT 0, 12, .inl fb2_18)), (h0, .inr (12, ((fs.set 0 (.int 0)).set 99 (.int 0)))), (m_queued, .inl (cT 0, 3, .inl (fun _ => 0))), (m_onNow, .inl (cT 0, 3, .inl mon))] := hD
  obtain rfl : r_20 = 1 := wr_20.trans (rfl)
  refine lv_istore_n (lv' := [(2, .int 1), (1, .int 0), (0, .ref h0)]) hx hb dX12_foretold_142 rfl hl (by decide) rfl (fun ls hl => ?_)
  refine lv_aload_n hx hb dX12_foretold_143 rfl (lv_at hl 2 rfl) ?_
  refine lv_aload_n hx hb dX12_foretold_144 rfl (lv_at hl 2 rfl) ?_
  refine va_get (D := D) (ci := 12) (v := .int 0) (C := RX12) (T := TX12) (N := 109) hx hb hts (fun _ h => List.mem_cons_of_mem _ (List.mem_append_right _ h)) hown hK hP 16 rfl rfl 99 (by decide) (hts (.fieldLink RX12 561 "PuppetFilmModel" "keptHalf" "I") (List.mem_of_getElem? (i := 3) (by decide +kernel))) (fun _ h9 => h9) (List.getElem?_set_self (by simp only [List.length_set, hfs]; decide)) dX12_foretold_145 ?_
  refine va_put (D := D) (ci := 12) (v := .int 0) (ty := .int) (C := RX12) (T := TX12) (N := 109) hx hb hts (fun _ h => List.mem_cons_of_mem _ (List.mem_append_right _ h)) tyX12 tyX12_ok nmX12 hown hK hP hD hS 16 rfl rfl 82 (by decide) (hts (.fieldLink RX12 513 "PuppetFilmModel" "half" "I") (List.mem_of_getElem? (i := 2) (by decide +kernel))) (fun _ h9 => h9) rfl (by decide +kernel) rfl rfl (by simp only [List.length_set, hfs]; decide) dX12_foretold_148 (fun H locs hP hD hS => ?_)
  have hP : va_P D vwCl [(m_workedIn, .inl (cT 0, 6, .inl fa_workedIn)), (m_keptWorkedIn, .inl (cT 0, 6, .inl fb2_2)), (m_worked, .inl (cT 0, 6, .inl fa_worked)), (m_keptWorked, .inl (cT 0, 6, .inl fb2_4)), (m_keptQueued, .inl (cT 0, 3, .inl fb2_6)), (m_queue, .inl (cT 0, 30, .inl fa_queue)), (m_keptQueue, .inl (cT 0, 30, .inl fb2_8)), (m_keptOn, .inl (cT 0, 3, .inl fb2_10)), (m_dressing, .inl (cT 0, 3, .inl fa_dressing)), (m_keptDressing, .inl (cT 0, 3, .inl fb2_12)), (m_dressed, .inl (cT 0, 3, .inl fa_dressed)), (m_keptDressed, .inl (cT 0, 3, .inl fb2_14)), (m_standsIn, .inl (cT 0, 8, .inl fa_standsIn)), (m_keptStands, .inl (cT 0, 8, .inl fb2_16)), (m_shotMany, .inl (cT 0, 12, .inl fa_shotMany)), (m_keptShot, .inl (cT 0, 12, .inl fb2_18)), (h0, .inr (12, (((fs.set 0 (.int 0)).set 99 (.int 0)).set 82 (.int 0)))), (m_queued, .inl (cT 0, 3, .inl (fun _ => 0))), (m_onNow, .inl (cT 0, 3, .inl mon))] _ := hP
  have hD : va_D A [(m_workedIn, .inl (cT 0, 6, .inl fa_workedIn)), (m_keptWorkedIn, .inl (cT 0, 6, .inl fb2_2)), (m_worked, .inl (cT 0, 6, .inl fa_worked)), (m_keptWorked, .inl (cT 0, 6, .inl fb2_4)), (m_keptQueued, .inl (cT 0, 3, .inl fb2_6)), (m_queue, .inl (cT 0, 30, .inl fa_queue)), (m_keptQueue, .inl (cT 0, 30, .inl fb2_8)), (m_keptOn, .inl (cT 0, 3, .inl fb2_10)), (m_dressing, .inl (cT 0, 3, .inl fa_dressing)), (m_keptDressing, .inl (cT 0, 3, .inl fb2_12)), (m_dressed, .inl (cT 0, 3, .inl fa_dressed)), (m_keptDressed, .inl (cT 0, 3, .inl fb2_14)), (m_standsIn, .inl (cT 0, 8, .inl fa_standsIn)), (m_keptStands, .inl (cT 0, 8, .inl fb2_16)), (m_shotMany, .inl (cT 0, 12, .inl fa_shotMany)), (m_keptShot, .inl (cT 0, 12, .inl fb2_18)), (h0, .inr (12, (((fs.set 0 (.int 0)).set 99 (.int 0)).set 82 (.int 0)))), (m_queued, .inl (cT 0, 3, .inl (fun _ => 0))), (m_onNow, .inl (cT 0, 3, .inl mon))] := hD
  refine lv_aload_n hx hb dX12_foretold_151 rfl (lv_at hl 2 rfl) ?_
  refine va_get (D := D) (ci := 12) (v := .ref m_keptWorkedIn) (C := RX12) (T := TX12) (N := 109) hx hb hts (fun _ h => List.mem_cons_of_mem _ (List.mem_append_right _ h)) hown hK hP 16 rfl rfl 100 (by decide) (hts (.fieldLink RX12 237 "PuppetFilmModel" "keptWorkedIn" "[I") (List.mem_of_getElem? (i := 5) (by decide +kernel))) (fun _ h9 => h9) ((List.getElem?_set_ne (by decide)).trans ((List.getElem?_set_ne (by decide)).trans ((List.getElem?_set_ne (by decide)).trans (hfs_100)))) dX12_foretold_152 ?_
  refine lv_aload_n hx hb dX12_foretold_155 rfl (lv_at hl 2 rfl) ?_
  refine va_get (D := D) (ci := 12) (v := .ref m_workedIn) (C := RX12) (T := TX12) (N := 109) hx hb hts (fun _ h => List.mem_cons_of_mem _ (List.mem_append_right _ h)) hown hK hP 16 rfl rfl 90 (by decide) (hts (.fieldLink RX12 210 "PuppetFilmModel" "workedIn" "[I") (List.mem_of_getElem? (i := 4) (by decide +kernel))) (fun _ h9 => h9) ((List.getElem?_set_ne (by decide)).trans ((List.getElem?_set_ne (by decide)).trans ((List.getElem?_set_ne (by decide)).trans (hfs_90)))) dX12_foretold_156 ?_
  have hF := va_free (wc := [(m_keptWorkedIn, .inl (cT 0, 6, .inl fb2_2)), (m_workedIn, .inl (cT 0, 6, .inl fa_workedIn))]) hD hS hA [1, 0] rfl
  refine va_callv (va_runS (As := [.ref m_keptWorkedIn, .ref m_workedIn]) (rest := []) ⟨hx, hb, hml, hown, hts⟩ (c_X12_copy_6 l D cT m_keptWorkedIn m_workedIn fb2_2 fa_workedIn _ ) (va_cwS 2 hts gX12_foretold_X12_copy rfl rfl rfl (by decide +kernel) ⟨Nat.le_of_ble_eq_true rfl, Nat.le_of_ble_eq_true rfl⟩) (ps_w hP hD hK hG [1, 0] rfl rfl rfl) rfl rfl hl.1 rfl (lv_room (Nat.le_of_ble_eq_true rfl)) dX12_foretold_159 ⟨Nat.le_of_ble_eq_true rfl, Nat.le_of_ble_eq_true rfl⟩) hS (fun q _ h => hF q h) hF (fun uu9 tt9 H locs ht hvm wr_21 hB hz1 hk1 hS => ?_)
  obtain ⟨fb2_22, hP1, hD1⟩ := hB
  rw [ht] at hP1
  obtain ⟨hP, hD⟩ := va_join (wr := [(m_worked, .inl (cT 0, 6, .inl fa_worked)), (m_keptWorked, .inl (cT 0, 6, .inl fb2_4)), (m_keptQueued, .inl (cT 0, 3, .inl fb2_6)), (m_queue, .inl (cT 0, 30, .inl fa_queue)), (m_keptQueue, .inl (cT 0, 30, .inl fb2_8)), (m_keptOn, .inl (cT 0, 3, .inl fb2_10)), (m_dressing, .inl (cT 0, 3, .inl fa_dressing)), (m_keptDressing, .inl (cT 0, 3, .inl fb2_12)), (m_dressed, .inl (cT 0, 3, .inl fa_dressed)), (m_keptDressed, .inl (cT 0, 3, .inl fb2_14)), (m_standsIn, .inl (cT 0, 8, .inl fa_standsIn)), (m_keptStands, .inl (cT 0, 8, .inl fb2_16)), (m_shotMany, .inl (cT 0, 12, .inl fa_shotMany)), (m_keptShot, .inl (cT 0, 12, .inl fb2_18)), (h0, .inr (12, (((fs.set 0 (.int 0)).set 99 (.int 0)).set 82 (.int 0)))), (m_queued, .inl (cT 0, 3, .inl (fun _ => 0))), (m_onNow, .inl (cT 0, 3, .inl mon))]) (w1 := [(m_keptWorkedIn, .inl (cT 0, 6, .inl fb2_2)), (m_workedIn, .inl (cT 0, 6, .inl fb2_22))]) hP hD [1, 0] [2, 3, 4, 5, 6, 7, 8, 9, 10, 11, 12, 13, 14, 15, 16, 17, 18] rfl rfl (by decide) (by decide) hk1 hF hP1 hD1
  have hP : va_P D vwCl [(m_worked, .inl (cT 0, 6, .inl fa_worked)), (m_keptWorked, .inl (cT 0, 6, .inl fb2_4)), (m_keptQueued, .inl (cT 0, 3, .inl fb2_6)), (m_queue, .inl (cT 0, 30, .inl fa_queue)), (m_keptQueue, .inl (cT 0, 30, .inl fb2_8)), (m_keptOn, .inl (cT 0, 3, .inl fb2_10)), (m_dressing, .inl (cT 0, 3, .inl fa_dressing)), (m_keptDressing, .inl (cT 0, 3, .inl fb2_12)), (m_dressed, .inl (cT 0, 3, .inl fa_dressed)), (m_keptDressed, .inl (cT 0, 3, .inl fb2_14)), (m_standsIn, .inl (cT 0, 8, .inl fa_standsIn)), (m_keptStands, .inl (cT 0, 8, .inl fb2_16)), (m_shotMany, .inl (cT 0, 12, .inl fa_shotMany)), (m_keptShot, .inl (cT 0, 12, .inl fb2_18)), (h0, .inr (12, (((fs.set 0 (.int 0)).set 99 (.int 0)).set 82 (.int 0)))), (m_queued, .inl (cT 0, 3, .inl (fun _ => 0))), (m_onNow, .inl (cT 0, 3, .inl mon)), (m_keptWorkedIn, .inl (cT 0, 6, .inl fb2_2)), (m_workedIn, .inl (cT 0, 6, .inl fb2_22))] _ := hP
  have hD : va_D A [(m_worked, .inl (cT 0, 6, .inl fa_worked)), (m_keptWorked, .inl (cT 0, 6, .inl fb2_4)), (m_keptQueued, .inl (cT 0, 3, .inl fb2_6)), (m_queue, .inl (cT 0, 30, .inl fa_queue)), (m_keptQueue, .inl (cT 0, 30, .inl fb2_8)), (m_keptOn, .inl (cT 0, 3, .inl fb2_10)), (m_dressing, .inl (cT 0, 3, .inl fa_dressing)), (m_keptDressing, .inl (cT 0, 3, .inl fb2_12)), (m_dressed, .inl (cT 0, 3, .inl fa_dressed)), (m_keptDressed, .inl (cT 0, 3, .inl fb2_14)), (m_standsIn, .inl (cT 0, 8, .inl fa_standsIn)), (m_keptStands, .inl (cT 0, 8, .inl fb2_16)), (m_shotMany, .inl (cT 0, 12, .inl fa_shotMany)), (m_keptShot, .inl (cT 0, 12, .inl fb2_18)), (h0, .inr (12, (((fs.set 0 (.int 0)).set 99 (.int 0)).set 82 (.int 0)))), (m_queued, .inl (cT 0, 3, .inl (fun _ => 0))), (m_onNow, .inl (cT 0, 3, .inl mon)), (m_keptWorkedIn, .inl (cT 0, 6, .inl fb2_2)), (m_workedIn, .inl (cT 0, 6, .inl fb2_22))] := hD
  refine lv_aload_n hx hb dX12_foretold_162 rfl (lv_at hl 2 rfl) ?_
  refine va_get (D := D) (ci := 12) (v := .ref m_keptWorked) (C := RX12) (T := TX12) (N := 109) hx hb hts (fun _ h => List.mem_cons_of_mem _ (List.mem_append_right _ h)) hown hK hP 14 rfl rfl 101 (by decide) (hts (.fieldLink RX12 240 "PuppetFilmModel" "keptWorked" "[I") (List.mem_of_getElem? (i := 7) (by decide +kernel))) (fun _ h9 => h9) ((List.getElem?_set_ne (by decide)).trans ((List.getElem?_set_ne (by decide)).trans ((List.getElem?_set_ne (by decide)).trans (hfs_101)))) dX12_foretold_163 ?_
  refine lv_aload_n hx hb dX12_foretold_166 rfl (lv_at hl 2 rfl) ?_
  refine va_get (D := D) (ci := 12) (v := .ref m_worked) (C := RX12) (T := TX12) (N := 109) hx hb hts (fun _ h => List.mem_cons_of_mem _ (List.mem_append_right _ h)) hown hK hP 14 rfl rfl 91 (by decide) (hts (.fieldLink RX12 213 "PuppetFilmModel" "worked" "[I") (List.mem_of_getElem? (i := 6) (by decide +kernel))) (fun _ h9 => h9) ((List.getElem?_set_ne (by decide)).trans ((List.getElem?_set_ne (by decide)).trans ((List.getElem?_set_ne (by decide)).trans (hfs_91)))) dX12_foretold_167 ?_
  have hF := va_free (wc := [(m_keptWorked, .inl (cT 0, 6, .inl fb2_4)), (m_worked, .inl (cT 0, 6, .inl fa_worked))]) hD hS hA [1, 0] rfl
  refine va_callv (va_runS (As := [.ref m_keptWorked, .ref m_worked]) (rest := []) ⟨hx, hb, hml, hown, hts⟩ (c_X12_copy_6 l D cT m_keptWorked m_worked fb2_4 fa_worked _ ) (va_cwS 2 hts gX12_foretold_X12_copy rfl rfl rfl (by decide +kernel) ⟨Nat.le_of_ble_eq_true rfl, Nat.le_of_ble_eq_true rfl⟩) (ps_w hP hD hK hG [1, 0] rfl rfl rfl) rfl rfl hl.1 rfl (lv_room (Nat.le_of_ble_eq_true rfl)) dX12_foretold_170 ⟨Nat.le_of_ble_eq_true rfl, Nat.le_of_ble_eq_true rfl⟩) hS (fun q _ h => hF q h) hF (fun uu9 tt9 H locs ht hvm wr_23 hB hz1 hk1 hS => ?_)
  obtain ⟨fb2_24, hP1, hD1⟩ := hB
  rw [ht] at hP1
  obtain ⟨hP, hD⟩ := va_join (wr := [(m_keptQueued, .inl (cT 0, 3, .inl fb2_6)), (m_queue, .inl (cT 0, 30, .inl fa_queue)), (m_keptQueue, .inl (cT 0, 30, .inl fb2_8)), (m_keptOn, .inl (cT 0, 3, .inl fb2_10)), (m_dressing, .inl (cT 0, 3, .inl fa_dressing)), (m_keptDressing, .inl (cT 0, 3, .inl fb2_12)), (m_dressed, .inl (cT 0, 3, .inl fa_dressed)), (m_keptDressed, .inl (cT 0, 3, .inl fb2_14)), (m_standsIn, .inl (cT 0, 8, .inl fa_standsIn)), (m_keptStands, .inl (cT 0, 8, .inl fb2_16)), (m_shotMany, .inl (cT 0, 12, .inl fa_shotMany)), (m_keptShot, .inl (cT 0, 12, .inl fb2_18)), (h0, .inr (12, (((fs.set 0 (.int 0)).set 99 (.int 0)).set 82 (.int 0)))), (m_queued, .inl (cT 0, 3, .inl (fun _ => 0))), (m_onNow, .inl (cT 0, 3, .inl mon)), (m_keptWorkedIn, .inl (cT 0, 6, .inl fb2_2)), (m_workedIn, .inl (cT 0, 6, .inl fb2_22))]) (w1 := [(m_keptWorked, .inl (cT 0, 6, .inl fb2_4)), (m_worked, .inl (cT 0, 6, .inl fb2_24))]) hP hD [1, 0] [2, 3, 4, 5, 6, 7, 8, 9, 10, 11, 12, 13, 14, 15, 16, 17, 18] rfl rfl (by decide) (by decide) hk1 hF hP1 hD1
  have hP : va_P D vwCl [(m_keptQueued, .inl (cT 0, 3, .inl fb2_6)), (m_queue, .inl (cT 0, 30, .inl fa_queue)), (m_keptQueue, .inl (cT 0, 30, .inl fb2_8)), (m_keptOn, .inl (cT 0, 3, .inl fb2_10)), (m_dressing, .inl (cT 0, 3, .inl fa_dressing)), (m_keptDressing, .inl (cT 0, 3, .inl fb2_12)), (m_dressed, .inl (cT 0, 3, .inl fa_dressed)), (m_keptDressed, .inl (cT 0, 3, .inl fb2_14)), (m_standsIn, .inl (cT 0, 8, .inl fa_standsIn)), (m_keptStands, .inl (cT 0, 8, .inl fb2_16)), (m_shotMany, .inl (cT 0, 12, .inl fa_shotMany)), (m_keptShot, .inl (cT 0, 12, .inl fb2_18)), (h0, .inr (12, (((fs.set 0 (.int 0)).set 99 (.int 0)).set 82 (.int 0)))), (m_queued, .inl (cT 0, 3, .inl (fun _ => 0))), (m_onNow, .inl (cT 0, 3, .inl mon)), (m_keptWorkedIn, .inl (cT 0, 6, .inl fb2_2)), (m_workedIn, .inl (cT 0, 6, .inl fb2_22)), (m_keptWorked, .inl (cT 0, 6, .inl fb2_4)), (m_worked, .inl (cT 0, 6, .inl fb2_24))] _ := hP
  have hD : va_D A [(m_keptQueued, .inl (cT 0, 3, .inl fb2_6)), (m_queue, .inl (cT 0, 30, .inl fa_queue)), (m_keptQueue, .inl (cT 0, 30, .inl fb2_8)), (m_keptOn, .inl (cT 0, 3, .inl fb2_10)), (m_dressing, .inl (cT 0, 3, .inl fa_dressing)), (m_keptDressing, .inl (cT 0, 3, .inl fb2_12)), (m_dressed, .inl (cT 0, 3, .inl fa_dressed)), (m_keptDressed, .inl (cT 0, 3, .inl fb2_14)), (m_standsIn, .inl (cT 0, 8, .inl fa_standsIn)), (m_keptStands, .inl (cT 0, 8, .inl fb2_16)), (m_shotMany, .inl (cT 0, 12, .inl fa_shotMany)), (m_keptShot, .inl (cT 0, 12, .inl fb2_18)), (h0, .inr (12, (((fs.set 0 (.int 0)).set 99 (.int 0)).set 82 (.int 0)))), (m_queued, .inl (cT 0, 3, .inl (fun _ => 0))), (m_onNow, .inl (cT 0, 3, .inl mon)), (m_keptWorkedIn, .inl (cT 0, 6, .inl fb2_2)), (m_workedIn, .inl (cT 0, 6, .inl fb2_22)), (m_keptWorked, .inl (cT 0, 6, .inl fb2_4)), (m_worked, .inl (cT 0, 6, .inl fb2_24))] := hD
  refine lv_aload_n hx hb dX12_foretold_173 rfl (lv_at hl 2 rfl) ?_
  refine va_get (D := D) (ci := 12) (v := .ref m_keptQueued) (C := RX12) (T := TX12) (N := 109) hx hb hts (fun _ h => List.mem_cons_of_mem _ (List.mem_append_right _ h)) hown hK hP 12 rfl rfl 102 (by decide) (hts (.fieldLink RX12 243 "PuppetFilmModel" "keptQueued" "[I") (List.mem_of_getElem? (i := 9) (by decide +kernel))) (fun _ h9 => h9) ((List.getElem?_set_ne (by decide)).trans ((List.getElem?_set_ne (by decide)).trans ((List.getElem?_set_ne (by decide)).trans (hfs_102)))) dX12_foretold_174 ?_
  refine lv_aload_n hx hb dX12_foretold_177 rfl (lv_at hl 2 rfl) ?_
  refine va_get (D := D) (ci := 12) (v := .ref m_queued) (C := RX12) (T := TX12) (N := 109) hx hb hts (fun _ h => List.mem_cons_of_mem _ (List.mem_append_right _ h)) hown hK hP 12 rfl rfl 93 (by decide) (hts (.fieldLink RX12 219 "PuppetFilmModel" "queued" "[I") (List.mem_of_getElem? (i := 8) (by decide +kernel))) (fun _ h9 => h9) ((List.getElem?_set_ne (by decide)).trans ((List.getElem?_set_ne (by decide)).trans ((List.getElem?_set_ne (by decide)).trans (hfs_93)))) dX12_foretold_178 ?_
  have hF := va_free (wc := [(m_keptQueued, .inl (cT 0, 3, .inl fb2_6)), (m_queued, .inl (cT 0, 3, .inl (fun _ => 0)))]) hD hS hA [0, 13] rfl
  refine va_callv (va_runS (As := [.ref m_keptQueued, .ref m_queued]) (rest := []) ⟨hx, hb, hml, hown, hts⟩ (c_X12_copy_3 l D cT m_keptQueued m_queued fb2_6 (fun _ => 0) _ ) (va_cwS 2 hts gX12_foretold_X12_copy rfl rfl rfl (by decide +kernel) ⟨Nat.le_of_ble_eq_true rfl, Nat.le_of_ble_eq_true rfl⟩) (ps_w hP hD hK hG [0, 13] rfl rfl rfl) rfl rfl hl.1 rfl (lv_room (Nat.le_of_ble_eq_true rfl)) dX12_foretold_181 ⟨Nat.le_of_ble_eq_true rfl, Nat.le_of_ble_eq_true rfl⟩) hS (fun q _ h => hF q h) hF (fun uu9 tt9 H locs ht hvm wr_25 hB hz1 hk1 hS => ?_)
  obtain ⟨fb2_26, hP1, hD1⟩ := hB
  rw [ht] at hP1
  obtain ⟨hP, hD⟩ := va_join (wr := [(m_queue, .inl (cT 0, 30, .inl fa_queue)), (m_keptQueue, .inl (cT 0, 30, .inl fb2_8)), (m_keptOn, .inl (cT 0, 3, .inl fb2_10)), (m_dressing, .inl (cT 0, 3, .inl fa_dressing)), (m_keptDressing, .inl (cT 0, 3, .inl fb2_12)), (m_dressed, .inl (cT 0, 3, .inl fa_dressed)), (m_keptDressed, .inl (cT 0, 3, .inl fb2_14)), (m_standsIn, .inl (cT 0, 8, .inl fa_standsIn)), (m_keptStands, .inl (cT 0, 8, .inl fb2_16)), (m_shotMany, .inl (cT 0, 12, .inl fa_shotMany)), (m_keptShot, .inl (cT 0, 12, .inl fb2_18)), (h0, .inr (12, (((fs.set 0 (.int 0)).set 99 (.int 0)).set 82 (.int 0)))), (m_onNow, .inl (cT 0, 3, .inl mon)), (m_keptWorkedIn, .inl (cT 0, 6, .inl fb2_2)), (m_workedIn, .inl (cT 0, 6, .inl fb2_22)), (m_keptWorked, .inl (cT 0, 6, .inl fb2_4)), (m_worked, .inl (cT 0, 6, .inl fb2_24))]) (w1 := [(m_keptQueued, .inl (cT 0, 3, .inl fb2_6)), (m_queued, .inl (cT 0, 3, .inl fb2_26))]) hP hD [0, 13] [1, 2, 3, 4, 5, 6, 7, 8, 9, 10, 11, 12, 14, 15, 16, 17, 18] rfl rfl (by decide) (by decide) hk1 hF hP1 hD1
  have hP : va_P D vwCl [(m_queue, .inl (cT 0, 30, .inl fa_queue)), (m_keptQueue, .inl (cT 0, 30, .inl fb2_8)), (m_keptOn, .inl (cT 0, 3, .inl fb2_10)), (m_dressing, .inl (cT 0, 3, .inl fa_dressing)), (m_keptDressing, .inl (cT 0, 3, .inl fb2_12)), (m_dressed, .inl (cT 0, 3, .inl fa_dressed)), (m_keptDressed, .inl (cT 0, 3, .inl fb2_14)), (m_standsIn, .inl (cT 0, 8, .inl fa_standsIn)), (m_keptStands, .inl (cT 0, 8, .inl fb2_16)), (m_shotMany, .inl (cT 0, 12, .inl fa_shotMany)), (m_keptShot, .inl (cT 0, 12, .inl fb2_18)), (h0, .inr (12, (((fs.set 0 (.int 0)).set 99 (.int 0)).set 82 (.int 0)))), (m_onNow, .inl (cT 0, 3, .inl mon)), (m_keptWorkedIn, .inl (cT 0, 6, .inl fb2_2)), (m_workedIn, .inl (cT 0, 6, .inl fb2_22)), (m_keptWorked, .inl (cT 0, 6, .inl fb2_4)), (m_worked, .inl (cT 0, 6, .inl fb2_24)), (m_keptQueued, .inl (cT 0, 3, .inl fb2_6)), (m_queued, .inl (cT 0, 3, .inl fb2_26))] _ := hP
  have hD : va_D A [(m_queue, .inl (cT 0, 30, .inl fa_queue)), (m_keptQueue, .inl (cT 0, 30, .inl fb2_8)), (m_keptOn, .inl (cT 0, 3, .inl fb2_10)), (m_dressing, .inl (cT 0, 3, .inl fa_dressing)), (m_keptDressing, .inl (cT 0, 3, .inl fb2_12)), (m_dressed, .inl (cT 0, 3, .inl fa_dressed)), (m_keptDressed, .inl (cT 0, 3, .inl fb2_14)), (m_standsIn, .inl (cT 0, 8, .inl fa_standsIn)), (m_keptStands, .inl (cT 0, 8, .inl fb2_16)), (m_shotMany, .inl (cT 0, 12, .inl fa_shotMany)), (m_keptShot, .inl (cT 0, 12, .inl fb2_18)), (h0, .inr (12, (((fs.set 0 (.int 0)).set 99 (.int 0)).set 82 (.int 0)))), (m_onNow, .inl (cT 0, 3, .inl mon)), (m_keptWorkedIn, .inl (cT 0, 6, .inl fb2_2)), (m_workedIn, .inl (cT 0, 6, .inl fb2_22)), (m_keptWorked, .inl (cT 0, 6, .inl fb2_4)), (m_worked, .inl (cT 0, 6, .inl fb2_24)), (m_keptQueued, .inl (cT 0, 3, .inl fb2_6)), (m_queued, .inl (cT 0, 3, .inl fb2_26))] := hD
  refine lv_aload_n hx hb dX12_foretold_184 rfl (lv_at hl 2 rfl) ?_
  refine va_get (D := D) (ci := 12) (v := .ref m_keptQueue) (C := RX12) (T := TX12) (N := 109) hx hb hts (fun _ h => List.mem_cons_of_mem _ (List.mem_append_right _ h)) hown hK hP 11 rfl rfl 103 (by decide) (hts (.fieldLink RX12 246 "PuppetFilmModel" "keptQueue" "[I") (List.mem_of_getElem? (i := 11) (by decide +kernel))) (fun _ h9 => h9) ((List.getElem?_set_ne (by decide)).trans ((List.getElem?_set_ne (by decide)).trans ((List.getElem?_set_ne (by decide)).trans (hfs_103)))) dX12_foretold_185 ?_
  refine lv_aload_n hx hb dX12_foretold_188 rfl (lv_at hl 2 rfl) ?_
  refine va_get (D := D) (ci := 12) (v := .ref m_queue) (C := RX12) (T := TX12) (N := 109) hx hb hts (fun _ h => List.mem_cons_of_mem _ (List.mem_append_right _ h)) hown hK hP 11 rfl rfl 94 (by decide) (hts (.fieldLink RX12 222 "PuppetFilmModel" "queue" "[I") (List.mem_of_getElem? (i := 10) (by decide +kernel))) (fun _ h9 => h9) ((List.getElem?_set_ne (by decide)).trans ((List.getElem?_set_ne (by decide)).trans ((List.getElem?_set_ne (by decide)).trans (hfs_94)))) dX12_foretold_189 ?_
  have hF := va_free (wc := [(m_keptQueue, .inl (cT 0, 30, .inl fb2_8)), (m_queue, .inl (cT 0, 30, .inl fa_queue))]) hD hS hA [1, 0] rfl
  refine va_callv (va_runS (As := [.ref m_keptQueue, .ref m_queue]) (rest := []) ⟨hx, hb, hml, hown, hts⟩ (c_X12_copy_30 l D cT m_keptQueue m_queue fb2_8 fa_queue _ ) (va_cwS 2 hts gX12_foretold_X12_copy rfl rfl rfl (by decide +kernel) ⟨Nat.le_of_ble_eq_true rfl, Nat.le_of_ble_eq_true rfl⟩) (ps_w hP hD hK hG [1, 0] rfl rfl rfl) rfl rfl hl.1 rfl (lv_room (Nat.le_of_ble_eq_true rfl)) dX12_foretold_192 ⟨Nat.le_of_ble_eq_true rfl, Nat.le_of_ble_eq_true rfl⟩) hS (fun q _ h => hF q h) hF (fun uu9 tt9 H locs ht hvm wr_27 hB hz1 hk1 hS => ?_)
  obtain ⟨fb2_28, hP1, hD1⟩ := hB
  rw [ht] at hP1
  obtain ⟨hP, hD⟩ := va_join (wr := [(m_keptOn, .inl (cT 0, 3, .inl fb2_10)), (m_dressing, .inl (cT 0, 3, .inl fa_dressing)), (m_keptDressing, .inl (cT 0, 3, .inl fb2_12)), (m_dressed, .inl (cT 0, 3, .inl fa_dressed)), (m_keptDressed, .inl (cT 0, 3, .inl fb2_14)), (m_standsIn, .inl (cT 0, 8, .inl fa_standsIn)), (m_keptStands, .inl (cT 0, 8, .inl fb2_16)), (m_shotMany, .inl (cT 0, 12, .inl fa_shotMany)), (m_keptShot, .inl (cT 0, 12, .inl fb2_18)), (h0, .inr (12, (((fs.set 0 (.int 0)).set 99 (.int 0)).set 82 (.int 0)))), (m_onNow, .inl (cT 0, 3, .inl mon)), (m_keptWorkedIn, .inl (cT 0, 6, .inl fb2_2)), (m_workedIn, .inl (cT 0, 6, .inl fb2_22)), (m_keptWorked, .inl (cT 0, 6, .inl fb2_4)), (m_worked, .inl (cT 0, 6, .inl fb2_24)), (m_keptQueued, .inl (cT 0, 3, .inl fb2_6)), (m_queued, .inl (cT 0, 3, .inl fb2_26))]) (w1 := [(m_keptQueue, .inl (cT 0, 30, .inl fb2_8)), (m_queue, .inl (cT 0, 30, .inl fb2_28))]) hP hD [1, 0] [2, 3, 4, 5, 6, 7, 8, 9, 10, 11, 12, 13, 14, 15, 16, 17, 18] rfl rfl (by decide) (by decide) hk1 hF hP1 hD1
  have hP : va_P D vwCl [(m_keptOn, .inl (cT 0, 3, .inl fb2_10)), (m_dressing, .inl (cT 0, 3, .inl fa_dressing)), (m_keptDressing, .inl (cT 0, 3, .inl fb2_12)), (m_dressed, .inl (cT 0, 3, .inl fa_dressed)), (m_keptDressed, .inl (cT 0, 3, .inl fb2_14)), (m_standsIn, .inl (cT 0, 8, .inl fa_standsIn)), (m_keptStands, .inl (cT 0, 8, .inl fb2_16)), (m_shotMany, .inl (cT 0, 12, .inl fa_shotMany)), (m_keptShot, .inl (cT 0, 12, .inl fb2_18)), (h0, .inr (12, (((fs.set 0 (.int 0)).set 99 (.int 0)).set 82 (.int 0)))), (m_onNow, .inl (cT 0, 3, .inl mon)), (m_keptWorkedIn, .inl (cT 0, 6, .inl fb2_2)), (m_workedIn, .inl (cT 0, 6, .inl fb2_22)), (m_keptWorked, .inl (cT 0, 6, .inl fb2_4)), (m_worked, .inl (cT 0, 6, .inl fb2_24)), (m_keptQueued, .inl (cT 0, 3, .inl fb2_6)), (m_queued, .inl (cT 0, 3, .inl fb2_26)), (m_keptQueue, .inl (cT 0, 30, .inl fb2_8)), (m_queue, .inl (cT 0, 30, .inl fb2_28))] _ := hP
  have hD : va_D A [(m_keptOn, .inl (cT 0, 3, .inl fb2_10)), (m_dressing, .inl (cT 0, 3, .inl fa_dressing)), (m_keptDressing, .inl (cT 0, 3, .inl fb2_12)), (m_dressed, .inl (cT 0, 3, .inl fa_dressed)), (m_keptDressed, .inl (cT 0, 3, .inl fb2_14)), (m_standsIn, .inl (cT 0, 8, .inl fa_standsIn)), (m_keptStands, .inl (cT 0, 8, .inl fb2_16)), (m_shotMany, .inl (cT 0, 12, .inl fa_shotMany)), (m_keptShot, .inl (cT 0, 12, .inl fb2_18)), (h0, .inr (12, (((fs.set 0 (.int 0)).set 99 (.int 0)).set 82 (.int 0)))), (m_onNow, .inl (cT 0, 3, .inl mon)), (m_keptWorkedIn, .inl (cT 0, 6, .inl fb2_2)), (m_workedIn, .inl (cT 0, 6, .inl fb2_22)), (m_keptWorked, .inl (cT 0, 6, .inl fb2_4)), (m_worked, .inl (cT 0, 6, .inl fb2_24)), (m_keptQueued, .inl (cT 0, 3, .inl fb2_6)), (m_queued, .inl (cT 0, 3, .inl fb2_26)), (m_keptQueue, .inl (cT 0, 30, .inl fb2_8)), (m_queue, .inl (cT 0, 30, .inl fb2_28))] := hD
  refine lv_aload_n hx hb dX12_foretold_195 rfl (lv_at hl 2 rfl) ?_
  refine va_get (D := D) (ci := 12) (v := .ref m_keptOn) (C := RX12) (T := TX12) (N := 109) hx hb hts (fun _ h => List.mem_cons_of_mem _ (List.mem_append_right _ h)) hown hK hP 9 rfl rfl 104 (by decide) (hts (.fieldLink RX12 249 "PuppetFilmModel" "keptOn" "[I") (List.mem_of_getElem? (i := 13) (by decide +kernel))) (fun _ h9 => h9) ((List.getElem?_set_ne (by decide)).trans ((List.getElem?_set_ne (by decide)).trans ((List.getElem?_set_ne (by decide)).trans (hfs_104)))) dX12_foretold_196 ?_
  refine lv_aload_n hx hb dX12_foretold_199 rfl (lv_at hl 2 rfl) ?_
  refine va_get (D := D) (ci := 12) (v := .ref m_onNow) (C := RX12) (T := TX12) (N := 109) hx hb hts (fun _ h => List.mem_cons_of_mem _ (List.mem_append_right _ h)) hown hK hP 9 rfl rfl 95 (by decide) (hts (.fieldLink RX12 225 "PuppetFilmModel" "onNow" "[I") (List.mem_of_getElem? (i := 12) (by decide +kernel))) (fun _ h9 => h9) ((List.getElem?_set_ne (by decide)).trans ((List.getElem?_set_ne (by decide)).trans ((List.getElem?_set_ne (by decide)).trans (hfs_95)))) dX12_foretold_200 ?_
  have hF := va_free (wc := [(m_keptOn, .inl (cT 0, 3, .inl fb2_10)), (m_onNow, .inl (cT 0, 3, .inl mon))]) hD hS hA [0, 10] rfl
  refine va_callv (va_runS (As := [.ref m_keptOn, .ref m_onNow]) (rest := []) ⟨hx, hb, hml, hown, hts⟩ (c_X12_copy_3 l D cT m_keptOn m_onNow fb2_10 mon _ ) (va_cwS 2 hts gX12_foretold_X12_copy rfl rfl rfl (by decide +kernel) ⟨Nat.le_of_ble_eq_true rfl, Nat.le_of_ble_eq_true rfl⟩) (ps_w hP hD hK hG [0, 10] rfl rfl rfl) rfl rfl hl.1 rfl (lv_room (Nat.le_of_ble_eq_true rfl)) dX12_foretold_203 ⟨Nat.le_of_ble_eq_true rfl, Nat.le_of_ble_eq_true rfl⟩) hS (fun q _ h => hF q h) hF (fun uu9 tt9 H locs ht hvm wr_29 hB hz1 hk1 hS => ?_)
  obtain ⟨fb2_30, hP1, hD1⟩ := hB
  rw [ht] at hP1
  obtain ⟨hP, hD⟩ := va_join (wr := [(m_dressing, .inl (cT 0, 3, .inl fa_dressing)), (m_keptDressing, .inl (cT 0, 3, .inl fb2_12)), (m_dressed, .inl (cT 0, 3, .inl fa_dressed)), (m_keptDressed, .inl (cT 0, 3, .inl fb2_14)), (m_standsIn, .inl (cT 0, 8, .inl fa_standsIn)), (m_keptStands, .inl (cT 0, 8, .inl fb2_16)), (m_shotMany, .inl (cT 0, 12, .inl fa_shotMany)), (m_keptShot, .inl (cT 0, 12, .inl fb2_18)), (h0, .inr (12, (((fs.set 0 (.int 0)).set 99 (.int 0)).set 82 (.int 0)))), (m_keptWorkedIn, .inl (cT 0, 6, .inl fb2_2)), (m_workedIn, .inl (cT 0, 6, .inl fb2_22)), (m_keptWorked, .inl (cT 0, 6, .inl fb2_4)), (m_worked, .inl (cT 0, 6, .inl fb2_24)), (m_keptQueued, .inl (cT 0, 3, .inl fb2_6)), (m_queued, .inl (cT 0, 3, .inl fb2_26)), (m_keptQueue, .inl (cT 0, 30, .inl fb2_8)), (m_queue, .inl (cT 0, 30, .inl fb2_28))]) (w1 := [(m_keptOn, .inl (cT 0, 3, .inl fb2_10)), (m_onNow, .inl (cT 0, 3, .inl fb2_30))]) hP hD [0, 10] [1, 2, 3, 4, 5, 6, 7, 8, 9, 11, 12, 13, 14, 15, 16, 17, 18] rfl rfl (by decide) (by decide) hk1 hF hP1 hD1
  have hP : va_P D vwCl [(m_dressing, .inl (cT 0, 3, .inl fa_dressing)), (m_keptDressing, .inl (cT 0, 3, .inl fb2_12)), (m_dressed, .inl (cT 0, 3, .inl fa_dressed)), (m_keptDressed, .inl (cT 0, 3, .inl fb2_14)), (m_standsIn, .inl (cT 0, 8, .inl fa_standsIn)), (m_keptStands, .inl (cT 0, 8, .inl fb2_16)), (m_shotMany, .inl (cT 0, 12, .inl fa_shotMany)), (m_keptShot, .inl (cT 0, 12, .inl fb2_18)), (h0, .inr (12, (((fs.set 0 (.int 0)).set 99 (.int 0)).set 82 (.int 0)))), (m_keptWorkedIn, .inl (cT 0, 6, .inl fb2_2)), (m_workedIn, .inl (cT 0, 6, .inl fb2_22)), (m_keptWorked, .inl (cT 0, 6, .inl fb2_4)), (m_worked, .inl (cT 0, 6, .inl fb2_24)), (m_keptQueued, .inl (cT 0, 3, .inl fb2_6)), (m_queued, .inl (cT 0, 3, .inl fb2_26)), (m_keptQueue, .inl (cT 0, 30, .inl fb2_8)), (m_queue, .inl (cT 0, 30, .inl fb2_28)), (m_keptOn, .inl (cT 0, 3, .inl fb2_10)), (m_onNow, .inl (cT 0, 3, .inl fb2_30))] _ := hP
  have hD : va_D A [(m_dressing, .inl (cT 0, 3, .inl fa_dressing)), (m_keptDressing, .inl (cT 0, 3, .inl fb2_12)), (m_dressed, .inl (cT 0, 3, .inl fa_dressed)), (m_keptDressed, .inl (cT 0, 3, .inl fb2_14)), (m_standsIn, .inl (cT 0, 8, .inl fa_standsIn)), (m_keptStands, .inl (cT 0, 8, .inl fb2_16)), (m_shotMany, .inl (cT 0, 12, .inl fa_shotMany)), (m_keptShot, .inl (cT 0, 12, .inl fb2_18)), (h0, .inr (12, (((fs.set 0 (.int 0)).set 99 (.int 0)).set 82 (.int 0)))), (m_keptWorkedIn, .inl (cT 0, 6, .inl fb2_2)), (m_workedIn, .inl (cT 0, 6, .inl fb2_22)), (m_keptWorked, .inl (cT 0, 6, .inl fb2_4)), (m_worked, .inl (cT 0, 6, .inl fb2_24)), (m_keptQueued, .inl (cT 0, 3, .inl fb2_6)), (m_queued, .inl (cT 0, 3, .inl fb2_26)), (m_keptQueue, .inl (cT 0, 30, .inl fb2_8)), (m_queue, .inl (cT 0, 30, .inl fb2_28)), (m_keptOn, .inl (cT 0, 3, .inl fb2_10)), (m_onNow, .inl (cT 0, 3, .inl fb2_30))] := hD
  refine lv_aload_n hx hb dX12_foretold_206 rfl (lv_at hl 2 rfl) ?_
  refine va_get (D := D) (ci := 12) (v := .ref m_keptDressing) (C := RX12) (T := TX12) (N := 109) hx hb hts (fun _ h => List.mem_cons_of_mem _ (List.mem_append_right _ h)) hown hK hP 8 rfl rfl 105 (by decide) (hts (.fieldLink RX12 252 "PuppetFilmModel" "keptDressing" "[I") (List.mem_of_getElem? (i := 15) (by decide +kernel))) (fun _ h9 => h9) ((List.getElem?_set_ne (by decide)).trans ((List.getElem?_set_ne (by decide)).trans ((List.getElem?_set_ne (by decide)).trans (hfs_105)))) dX12_foretold_207 ?_
  refine lv_aload_n hx hb dX12_foretold_210 rfl (lv_at hl 2 rfl) ?_
  refine va_get (D := D) (ci := 12) (v := .ref m_dressing) (C := RX12) (T := TX12) (N := 109) hx hb hts (fun _ h => List.mem_cons_of_mem _ (List.mem_append_right _ h)) hown hK hP 8 rfl rfl 96 (by decide) (hts (.fieldLink RX12 228 "PuppetFilmModel" "dressing" "[I") (List.mem_of_getElem? (i := 14) (by decide +kernel))) (fun _ h9 => h9) ((List.getElem?_set_ne (by decide)).trans ((List.getElem?_set_ne (by decide)).trans ((List.getElem?_set_ne (by decide)).trans (hfs_96)))) dX12_foretold_211 ?_
  have hF := va_free (wc := [(m_keptDressing, .inl (cT 0, 3, .inl fb2_12)), (m_dressing, .inl (cT 0, 3, .inl fa_dressing))]) hD hS hA [1, 0] rfl
  refine va_callv (va_runS (As := [.ref m_keptDressing, .ref m_dressing]) (rest := []) ⟨hx, hb, hml, hown, hts⟩ (c_X12_copy_3 l D cT m_keptDressing m_dressing fb2_12 fa_dressing _ ) (va_cwS 2 hts gX12_foretold_X12_copy rfl rfl rfl (by decide +kernel) ⟨Nat.le_of_ble_eq_true rfl, Nat.le_of_ble_eq_true rfl⟩) (ps_w hP hD hK hG [1, 0] rfl rfl rfl) rfl rfl hl.1 rfl (lv_room (Nat.le_of_ble_eq_true rfl)) dX12_foretold_214 ⟨Nat.le_of_ble_eq_true rfl, Nat.le_of_ble_eq_true rfl⟩) hS (fun q _ h => hF q h) hF (fun uu9 tt9 H locs ht hvm wr_31 hB hz1 hk1 hS => ?_)
  obtain ⟨fb2_32, hP1, hD1⟩ := hB
  rw [ht] at hP1
  obtain ⟨hP, hD⟩ := va_join (wr := [(m_dressed, .inl (cT 0, 3, .inl fa_dressed)), (m_keptDressed, .inl (cT 0, 3, .inl fb2_14)), (m_standsIn, .inl (cT 0, 8, .inl fa_standsIn)), (m_keptStands, .inl (cT 0, 8, .inl fb2_16)), (m_shotMany, .inl (cT 0, 12, .inl fa_shotMany)), (m_keptShot, .inl (cT 0, 12, .inl fb2_18)), (h0, .inr (12, (((fs.set 0 (.int 0)).set 99 (.int 0)).set 82 (.int 0)))), (m_keptWorkedIn, .inl (cT 0, 6, .inl fb2_2)), (m_workedIn, .inl (cT 0, 6, .inl fb2_22)), (m_keptWorked, .inl (cT 0, 6, .inl fb2_4)), (m_worked, .inl (cT 0, 6, .inl fb2_24)), (m_keptQueued, .inl (cT 0, 3, .inl fb2_6)), (m_queued, .inl (cT 0, 3, .inl fb2_26)), (m_keptQueue, .inl (cT 0, 30, .inl fb2_8)), (m_queue, .inl (cT 0, 30, .inl fb2_28)), (m_keptOn, .inl (cT 0, 3, .inl fb2_10)), (m_onNow, .inl (cT 0, 3, .inl fb2_30))]) (w1 := [(m_keptDressing, .inl (cT 0, 3, .inl fb2_12)), (m_dressing, .inl (cT 0, 3, .inl fb2_32))]) hP hD [1, 0] [2, 3, 4, 5, 6, 7, 8, 9, 10, 11, 12, 13, 14, 15, 16, 17, 18] rfl rfl (by decide) (by decide) hk1 hF hP1 hD1
  have hP : va_P D vwCl [(m_dressed, .inl (cT 0, 3, .inl fa_dressed)), (m_keptDressed, .inl (cT 0, 3, .inl fb2_14)), (m_standsIn, .inl (cT 0, 8, .inl fa_standsIn)), (m_keptStands, .inl (cT 0, 8, .inl fb2_16)), (m_shotMany, .inl (cT 0, 12, .inl fa_shotMany)), (m_keptShot, .inl (cT 0, 12, .inl fb2_18)), (h0, .inr (12, (((fs.set 0 (.int 0)).set 99 (.int 0)).set 82 (.int 0)))), (m_keptWorkedIn, .inl (cT 0, 6, .inl fb2_2)), (m_workedIn, .inl (cT 0, 6, .inl fb2_22)), (m_keptWorked, .inl (cT 0, 6, .inl fb2_4)), (m_worked, .inl (cT 0, 6, .inl fb2_24)), (m_keptQueued, .inl (cT 0, 3, .inl fb2_6)), (m_queued, .inl (cT 0, 3, .inl fb2_26)), (m_keptQueue, .inl (cT 0, 30, .inl fb2_8)), (m_queue, .inl (cT 0, 30, .inl fb2_28)), (m_keptOn, .inl (cT 0, 3, .inl fb2_10)), (m_onNow, .inl (cT 0, 3, .inl fb2_30)), (m_keptDressing, .inl (cT 0, 3, .inl fb2_12)), (m_dressing, .inl (cT 0, 3, .inl fb2_32))] _ := hP
  have hD : va_D A [(m_dressed, .inl (cT 0, 3, .inl fa_dressed)), (m_keptDressed, .inl (cT 0, 3, .inl fb2_14)), (m_standsIn, .inl (cT 0, 8, .inl fa_standsIn)), (m_keptStands, .inl (cT 0, 8, .inl fb2_16)), (m_shotMany, .inl (cT 0, 12, .inl fa_shotMany)), (m_keptShot, .inl (cT 0, 12, .inl fb2_18)), (h0, .inr (12, (((fs.set 0 (.int 0)).set 99 (.int 0)).set 82 (.int 0)))), (m_keptWorkedIn, .inl (cT 0, 6, .inl fb2_2)), (m_workedIn, .inl (cT 0, 6, .inl fb2_22)), (m_keptWorked, .inl (cT 0, 6, .inl fb2_4)), (m_worked, .inl (cT 0, 6, .inl fb2_24)), (m_keptQueued, .inl (cT 0, 3, .inl fb2_6)), (m_queued, .inl (cT 0, 3, .inl fb2_26)), (m_keptQueue, .inl (cT 0, 30, .inl fb2_8)), (m_queue, .inl (cT 0, 30, .inl fb2_28)), (m_keptOn, .inl (cT 0, 3, .inl fb2_10)), (m_onNow, .inl (cT 0, 3, .inl fb2_30)), (m_keptDressing, .inl (cT 0, 3, .inl fb2_12)), (m_dressing, .inl (cT 0, 3, .inl fb2_32))] := hD
  refine lv_aload_n hx hb dX12_foretold_217 rfl (lv_at hl 2 rfl) ?_
  refine va_get (D := D) (ci := 12) (v := .ref m_keptDressed) (C := RX12) (T := TX12) (N := 109) hx hb hts (fun _ h => List.mem_cons_of_mem _ (List.mem_append_right _ h)) hown hK hP 6 rfl rfl 106 (by decide) (hts (.fieldLink RX12 255 "PuppetFilmModel" "keptDressed" "[I") (List.mem_of_getElem? (i := 17) (by decide +kernel))) (fun _ h9 => h9) ((List.getElem?_set_ne (by decide)).trans ((List.getElem?_set_ne (by decide)).trans ((List.getElem?_set_ne (by decide)).trans (hfs_106)))) dX12_foretold_218 ?_
  refine lv_aload_n hx hb dX12_foretold_221 rfl (lv_at hl 2 rfl) ?_
  refine va_get (D := D) (ci := 12) (v := .ref m_dressed) (C := RX12) (T := TX12) (N := 109) hx hb hts (fun _ h => List.mem_cons_of_mem _ (List.mem_append_right _ h)) hown hK hP 6 rfl rfl 97 (by decide) (hts (.fieldLink RX12 231 "PuppetFilmModel" "dressed" "[I") (List.mem_of_getElem? (i := 16) (by decide +kernel))) (fun _ h9 => h9) ((List.getElem?_set_ne (by decide)).trans ((List.getElem?_set_ne (by decide)).trans ((List.getElem?_set_ne (by decide)).trans (hfs_97)))) dX12_foretold_222 ?_
  have hF := va_free (wc := [(m_keptDressed, .inl (cT 0, 3, .inl fb2_14)), (m_dressed, .inl (cT 0, 3, .inl fa_dressed))]) hD hS hA [1, 0] rfl
  refine va_callv (va_runS (As := [.ref m_keptDressed, .ref m_dressed]) (rest := []) ⟨hx, hb, hml, hown, hts⟩ (c_X12_copy_3 l D cT m_keptDressed m_dressed fb2_14 fa_dressed _ ) (va_cwS 2 hts gX12_foretold_X12_copy rfl rfl rfl (by decide +kernel) ⟨Nat.le_of_ble_eq_true rfl, Nat.le_of_ble_eq_true rfl⟩) (ps_w hP hD hK hG [1, 0] rfl rfl rfl) rfl rfl hl.1 rfl (lv_room (Nat.le_of_ble_eq_true rfl)) dX12_foretold_225 ⟨Nat.le_of_ble_eq_true rfl, Nat.le_of_ble_eq_true rfl⟩) hS (fun q _ h => hF q h) hF (fun uu9 tt9 H locs ht hvm wr_33 hB hz1 hk1 hS => ?_)
  obtain ⟨fb2_34, hP1, hD1⟩ := hB
  rw [ht] at hP1
  obtain ⟨hP, hD⟩ := va_join (wr := [(m_standsIn, .inl (cT 0, 8, .inl fa_standsIn)), (m_keptStands, .inl (cT 0, 8, .inl fb2_16)), (m_shotMany, .inl (cT 0, 12, .inl fa_shotMany)), (m_keptShot, .inl (cT 0, 12, .inl fb2_18)), (h0, .inr (12, (((fs.set 0 (.int 0)).set 99 (.int 0)).set 82 (.int 0)))), (m_keptWorkedIn, .inl (cT 0, 6, .inl fb2_2)), (m_workedIn, .inl (cT 0, 6, .inl fb2_22)), (m_keptWorked, .inl (cT 0, 6, .inl fb2_4)), (m_worked, .inl (cT 0, 6, .inl fb2_24)), (m_keptQueued, .inl (cT 0, 3, .inl fb2_6)), (m_queued, .inl (cT 0, 3, .inl fb2_26)), (m_keptQueue, .inl (cT 0, 30, .inl fb2_8)), (m_queue, .inl (cT 0, 30, .inl fb2_28)), (m_keptOn, .inl (cT 0, 3, .inl fb2_10)), (m_onNow, .inl (cT 0, 3, .inl fb2_30)), (m_keptDressing, .inl (cT 0, 3, .inl fb2_12)), (m_dressing, .inl (cT 0, 3, .inl fb2_32))]) (w1 := [(m_keptDressed, .inl (cT 0, 3, .inl fb2_14)), (m_dressed, .inl (cT 0, 3, .inl fb2_34))]) hP hD [1, 0] [2, 3, 4, 5, 6, 7, 8, 9, 10, 11, 12, 13, 14, 15, 16, 17, 18] rfl rfl (by decide) (by decide) hk1 hF hP1 hD1
  have hP : va_P D vwCl [(m_standsIn, .inl (cT 0, 8, .inl fa_standsIn)), (m_keptStands, .inl (cT 0, 8, .inl fb2_16)), (m_shotMany, .inl (cT 0, 12, .inl fa_shotMany)), (m_keptShot, .inl (cT 0, 12, .inl fb2_18)), (h0, .inr (12, (((fs.set 0 (.int 0)).set 99 (.int 0)).set 82 (.int 0)))), (m_keptWorkedIn, .inl (cT 0, 6, .inl fb2_2)), (m_workedIn, .inl (cT 0, 6, .inl fb2_22)), (m_keptWorked, .inl (cT 0, 6, .inl fb2_4)), (m_worked, .inl (cT 0, 6, .inl fb2_24)), (m_keptQueued, .inl (cT 0, 3, .inl fb2_6)), (m_queued, .inl (cT 0, 3, .inl fb2_26)), (m_keptQueue, .inl (cT 0, 30, .inl fb2_8)), (m_queue, .inl (cT 0, 30, .inl fb2_28)), (m_keptOn, .inl (cT 0, 3, .inl fb2_10)), (m_onNow, .inl (cT 0, 3, .inl fb2_30)), (m_keptDressing, .inl (cT 0, 3, .inl fb2_12)), (m_dressing, .inl (cT 0, 3, .inl fb2_32)), (m_keptDressed, .inl (cT 0, 3, .inl fb2_14)), (m_dressed, .inl (cT 0, 3, .inl fb2_34))] _ := hP
  have hD : va_D A [(m_standsIn, .inl (cT 0, 8, .inl fa_standsIn)), (m_keptStands, .inl (cT 0, 8, .inl fb2_16)), (m_shotMany, .inl (cT 0, 12, .inl fa_shotMany)), (m_keptShot, .inl (cT 0, 12, .inl fb2_18)), (h0, .inr (12, (((fs.set 0 (.int 0)).set 99 (.int 0)).set 82 (.int 0)))), (m_keptWorkedIn, .inl (cT 0, 6, .inl fb2_2)), (m_workedIn, .inl (cT 0, 6, .inl fb2_22)), (m_keptWorked, .inl (cT 0, 6, .inl fb2_4)), (m_worked, .inl (cT 0, 6, .inl fb2_24)), (m_keptQueued, .inl (cT 0, 3, .inl fb2_6)), (m_queued, .inl (cT 0, 3, .inl fb2_26)), (m_keptQueue, .inl (cT 0, 30, .inl fb2_8)), (m_queue, .inl (cT 0, 30, .inl fb2_28)), (m_keptOn, .inl (cT 0, 3, .inl fb2_10)), (m_onNow, .inl (cT 0, 3, .inl fb2_30)), (m_keptDressing, .inl (cT 0, 3, .inl fb2_12)), (m_dressing, .inl (cT 0, 3, .inl fb2_32)), (m_keptDressed, .inl (cT 0, 3, .inl fb2_14)), (m_dressed, .inl (cT 0, 3, .inl fb2_34))] := hD
  refine lv_aload_n hx hb dX12_foretold_228 rfl (lv_at hl 2 rfl) ?_
  refine va_get (D := D) (ci := 12) (v := .ref m_keptStands) (C := RX12) (T := TX12) (N := 109) hx hb hts (fun _ h => List.mem_cons_of_mem _ (List.mem_append_right _ h)) hown hK hP 4 rfl rfl 107 (by decide) (hts (.fieldLink RX12 258 "PuppetFilmModel" "keptStands" "[I") (List.mem_of_getElem? (i := 19) (by decide +kernel))) (fun _ h9 => h9) ((List.getElem?_set_ne (by decide)).trans ((List.getElem?_set_ne (by decide)).trans ((List.getElem?_set_ne (by decide)).trans (hfs_107)))) dX12_foretold_229 ?_
  refine lv_aload_n hx hb dX12_foretold_232 rfl (lv_at hl 2 rfl) ?_
  refine va_get (D := D) (ci := 12) (v := .ref m_standsIn) (C := RX12) (T := TX12) (N := 109) hx hb hts (fun _ h => List.mem_cons_of_mem _ (List.mem_append_right _ h)) hown hK hP 4 rfl rfl 98 (by decide) (hts (.fieldLink RX12 234 "PuppetFilmModel" "standsIn" "[I") (List.mem_of_getElem? (i := 18) (by decide +kernel))) (fun _ h9 => h9) ((List.getElem?_set_ne (by decide)).trans ((List.getElem?_set_ne (by decide)).trans ((List.getElem?_set_ne (by decide)).trans (hfs_98)))) dX12_foretold_233 ?_
  have hF := va_free (wc := [(m_keptStands, .inl (cT 0, 8, .inl fb2_16)), (m_standsIn, .inl (cT 0, 8, .inl fa_standsIn))]) hD hS hA [1, 0] rfl
  refine va_callv (va_runS (As := [.ref m_keptStands, .ref m_standsIn]) (rest := []) ⟨hx, hb, hml, hown, hts⟩ (c_X12_copy_8 l D cT m_keptStands m_standsIn fb2_16 fa_standsIn _ ) (va_cwS 2 hts gX12_foretold_X12_copy rfl rfl rfl (by decide +kernel) ⟨Nat.le_of_ble_eq_true rfl, Nat.le_of_ble_eq_true rfl⟩) (ps_w hP hD hK hG [1, 0] rfl rfl rfl) rfl rfl hl.1 rfl (lv_room (Nat.le_of_ble_eq_true rfl)) dX12_foretold_236 ⟨Nat.le_of_ble_eq_true rfl, Nat.le_of_ble_eq_true rfl⟩) hS (fun q _ h => hF q h) hF (fun uu9 tt9 H locs ht hvm wr_35 hB hz1 hk1 hS => ?_)
  obtain ⟨fb2_36, hP1, hD1⟩ := hB
  rw [ht] at hP1
  obtain ⟨hP, hD⟩ := va_join (wr := [(m_shotMany, .inl (cT 0, 12, .inl fa_shotMany)), (m_keptShot, .inl (cT 0, 12, .inl fb2_18)), (h0, .inr (12, (((fs.set 0 (.int 0)).set 99 (.int 0)).set 82 (.int 0)))), (m_keptWorkedIn, .inl (cT 0, 6, .inl fb2_2)), (m_workedIn, .inl (cT 0, 6, .inl fb2_22)), (m_keptWorked, .inl (cT 0, 6, .inl fb2_4)), (m_worked, .inl (cT 0, 6, .inl fb2_24)), (m_keptQueued, .inl (cT 0, 3, .inl fb2_6)), (m_queued, .inl (cT 0, 3, .inl fb2_26)), (m_keptQueue, .inl (cT 0, 30, .inl fb2_8)), (m_queue, .inl (cT 0, 30, .inl fb2_28)), (m_keptOn, .inl (cT 0, 3, .inl fb2_10)), (m_onNow, .inl (cT 0, 3, .inl fb2_30)), (m_keptDressing, .inl (cT 0, 3, .inl fb2_12)), (m_dressing, .inl (cT 0, 3, .inl fb2_32)), (m_keptDressed, .inl (cT 0, 3, .inl fb2_14)), (m_dressed, .inl (cT 0, 3, .inl fb2_34))]) (w1 := [(m_keptStands, .inl (cT 0, 8, .inl fb2_16)), (m_standsIn, .inl (cT 0, 8, .inl fb2_36))]) hP hD [1, 0] [2, 3, 4, 5, 6, 7, 8, 9, 10, 11, 12, 13, 14, 15, 16, 17, 18] rfl rfl (by decide) (by decide) hk1 hF hP1 hD1
  have hP : va_P D vwCl [(m_shotMany, .inl (cT 0, 12, .inl fa_shotMany)), (m_keptShot, .inl (cT 0, 12, .inl fb2_18)), (h0, .inr (12, (((fs.set 0 (.int 0)).set 99 (.int 0)).set 82 (.int 0)))), (m_keptWorkedIn, .inl (cT 0, 6, .inl fb2_2)), (m_workedIn, .inl (cT 0, 6, .inl fb2_22)), (m_keptWorked, .inl (cT 0, 6, .inl fb2_4)), (m_worked, .inl (cT 0, 6, .inl fb2_24)), (m_keptQueued, .inl (cT 0, 3, .inl fb2_6)), (m_queued, .inl (cT 0, 3, .inl fb2_26)), (m_keptQueue, .inl (cT 0, 30, .inl fb2_8)), (m_queue, .inl (cT 0, 30, .inl fb2_28)), (m_keptOn, .inl (cT 0, 3, .inl fb2_10)), (m_onNow, .inl (cT 0, 3, .inl fb2_30)), (m_keptDressing, .inl (cT 0, 3, .inl fb2_12)), (m_dressing, .inl (cT 0, 3, .inl fb2_32)), (m_keptDressed, .inl (cT 0, 3, .inl fb2_14)), (m_dressed, .inl (cT 0, 3, .inl fb2_34)), (m_keptStands, .inl (cT 0, 8, .inl fb2_16)), (m_standsIn, .inl (cT 0, 8, .inl fb2_36))] _ := hP
  have hD : va_D A [(m_shotMany, .inl (cT 0, 12, .inl fa_shotMany)), (m_keptShot, .inl (cT 0, 12, .inl fb2_18)), (h0, .inr (12, (((fs.set 0 (.int 0)).set 99 (.int 0)).set 82 (.int 0)))), (m_keptWorkedIn, .inl (cT 0, 6, .inl fb2_2)), (m_workedIn, .inl (cT 0, 6, .inl fb2_22)), (m_keptWorked, .inl (cT 0, 6, .inl fb2_4)), (m_worked, .inl (cT 0, 6, .inl fb2_24)), (m_keptQueued, .inl (cT 0, 3, .inl fb2_6)), (m_queued, .inl (cT 0, 3, .inl fb2_26)), (m_keptQueue, .inl (cT 0, 30, .inl fb2_8)), (m_queue, .inl (cT 0, 30, .inl fb2_28)), (m_keptOn, .inl (cT 0, 3, .inl fb2_10)), (m_onNow, .inl (cT 0, 3, .inl fb2_30)), (m_keptDressing, .inl (cT 0, 3, .inl fb2_12)), (m_dressing, .inl (cT 0, 3, .inl fb2_32)), (m_keptDressed, .inl (cT 0, 3, .inl fb2_14)), (m_dressed, .inl (cT 0, 3, .inl fb2_34)), (m_keptStands, .inl (cT 0, 8, .inl fb2_16)), (m_standsIn, .inl (cT 0, 8, .inl fb2_36))] := hD
  refine lv_aload_n hx hb dX12_foretold_239 rfl (lv_at hl 2 rfl) ?_
  refine va_get (D := D) (ci := 12) (v := .ref m_keptShot) (C := RX12) (T := TX12) (N := 109) hx hb hts (fun _ h => List.mem_cons_of_mem _ (List.mem_append_right _ h)) hown hK hP 2 rfl rfl 108 (by decide) (hts (.fieldLink RX12 261 "PuppetFilmModel" "keptShot" "[I") (List.mem_of_getElem? (i := 21) (by decide +kernel))) (fun _ h9 => h9) ((List.getElem?_set_ne (by decide)).trans ((List.getElem?_set_ne (by decide)).trans ((List.getElem?_set_ne (by decide)).trans (hfs_108)))) dX12_foretold_240 ?_
  refine lv_aload_n hx hb dX12_foretold_243 rfl (lv_at hl 2 rfl) ?_
  refine va_get (D := D) (ci := 12) (v := .ref m_shotMany) (C := RX12) (T := TX12) (N := 109) hx hb hts (fun _ h => List.mem_cons_of_mem _ (List.mem_append_right _ h)) hown hK hP 2 rfl rfl 48 (by decide) (hts (.fieldLink RX12 116 "PuppetFilmModel" "shotMany" "[I") (List.mem_of_getElem? (i := 20) (by decide +kernel))) (fun _ h9 => h9) ((List.getElem?_set_ne (by decide)).trans ((List.getElem?_set_ne (by decide)).trans ((List.getElem?_set_ne (by decide)).trans (hfs_48)))) dX12_foretold_244 ?_
  have hF := va_free (wc := [(m_keptShot, .inl (cT 0, 12, .inl fb2_18)), (m_shotMany, .inl (cT 0, 12, .inl fa_shotMany))]) hD hS hA [1, 0] rfl
  refine va_callv (va_runS (As := [.ref m_keptShot, .ref m_shotMany]) (rest := []) ⟨hx, hb, hml, hown, hts⟩ (c_X12_copy_12 l D cT m_keptShot m_shotMany fb2_18 fa_shotMany _ ) (va_cwS 2 hts gX12_foretold_X12_copy rfl rfl rfl (by decide +kernel) ⟨Nat.le_of_ble_eq_true rfl, Nat.le_of_ble_eq_true rfl⟩) (ps_w hP hD hK hG [1, 0] rfl rfl rfl) rfl rfl hl.1 rfl (lv_room (Nat.le_of_ble_eq_true rfl)) dX12_foretold_247 ⟨Nat.le_of_ble_eq_true rfl, Nat.le_of_ble_eq_true rfl⟩) hS (fun q _ h => hF q h) hF (fun uu9 tt9 H locs ht hvm wr_37 hB hz1 hk1 hS => ?_)
  obtain ⟨fb2_38, hP1, hD1⟩ := hB
  rw [ht] at hP1
  obtain ⟨hP, hD⟩ := va_join (wr := [(h0, .inr (12, (((fs.set 0 (.int 0)).set 99 (.int 0)).set 82 (.int 0)))), (m_keptWorkedIn, .inl (cT 0, 6, .inl fb2_2)), (m_workedIn, .inl (cT 0, 6, .inl fb2_22)), (m_keptWorked, .inl (cT 0, 6, .inl fb2_4)), (m_worked, .inl (cT 0, 6, .inl fb2_24)), (m_keptQueued, .inl (cT 0, 3, .inl fb2_6)), (m_queued, .inl (cT 0, 3, .inl fb2_26)), (m_keptQueue, .inl (cT 0, 30, .inl fb2_8)), (m_queue, .inl (cT 0, 30, .inl fb2_28)), (m_keptOn, .inl (cT 0, 3, .inl fb2_10)), (m_onNow, .inl (cT 0, 3, .inl fb2_30)), (m_keptDressing, .inl (cT 0, 3, .inl fb2_12)), (m_dressing, .inl (cT 0, 3, .inl fb2_32)), (m_keptDressed, .inl (cT 0, 3, .inl fb2_14)), (m_dressed, .inl (cT 0, 3, .inl fb2_34)), (m_keptStands, .inl (cT 0, 8, .inl fb2_16)), (m_standsIn, .inl (cT 0, 8, .inl fb2_36))]) (w1 := [(m_keptShot, .inl (cT 0, 12, .inl fb2_18)), (m_shotMany, .inl (cT 0, 12, .inl fb2_38))]) hP hD [1, 0] [2, 3, 4, 5, 6, 7, 8, 9, 10, 11, 12, 13, 14, 15, 16, 17, 18] rfl rfl (by decide) (by decide) hk1 hF hP1 hD1
  have hP : va_P D vwCl [(h0, .inr (12, (((fs.set 0 (.int 0)).set 99 (.int 0)).set 82 (.int 0)))), (m_keptWorkedIn, .inl (cT 0, 6, .inl fb2_2)), (m_workedIn, .inl (cT 0, 6, .inl fb2_22)), (m_keptWorked, .inl (cT 0, 6, .inl fb2_4)), (m_worked, .inl (cT 0, 6, .inl fb2_24)), (m_keptQueued, .inl (cT 0, 3, .inl fb2_6)), (m_queued, .inl (cT 0, 3, .inl fb2_26)), (m_keptQueue, .inl (cT 0, 30, .inl fb2_8)), (m_queue, .inl (cT 0, 30, .inl fb2_28)), (m_keptOn, .inl (cT 0, 3, .inl fb2_10)), (m_onNow, .inl (cT 0, 3, .inl fb2_30)), (m_keptDressing, .inl (cT 0, 3, .inl fb2_12)), (m_dressing, .inl (cT 0, 3, .inl fb2_32)), (m_keptDressed, .inl (cT 0, 3, .inl fb2_14)), (m_dressed, .inl (cT 0, 3, .inl fb2_34)), (m_keptStands, .inl (cT 0, 8, .inl fb2_16)), (m_standsIn, .inl (cT 0, 8, .inl fb2_36)), (m_keptShot, .inl (cT 0, 12, .inl fb2_18)), (m_shotMany, .inl (cT 0, 12, .inl fb2_38))] _ := hP
  have hD : va_D A [(h0, .inr (12, (((fs.set 0 (.int 0)).set 99 (.int 0)).set 82 (.int 0)))), (m_keptWorkedIn, .inl (cT 0, 6, .inl fb2_2)), (m_workedIn, .inl (cT 0, 6, .inl fb2_22)), (m_keptWorked, .inl (cT 0, 6, .inl fb2_4)), (m_worked, .inl (cT 0, 6, .inl fb2_24)), (m_keptQueued, .inl (cT 0, 3, .inl fb2_6)), (m_queued, .inl (cT 0, 3, .inl fb2_26)), (m_keptQueue, .inl (cT 0, 30, .inl fb2_8)), (m_queue, .inl (cT 0, 30, .inl fb2_28)), (m_keptOn, .inl (cT 0, 3, .inl fb2_10)), (m_onNow, .inl (cT 0, 3, .inl fb2_30)), (m_keptDressing, .inl (cT 0, 3, .inl fb2_12)), (m_dressing, .inl (cT 0, 3, .inl fb2_32)), (m_keptDressed, .inl (cT 0, 3, .inl fb2_14)), (m_dressed, .inl (cT 0, 3, .inl fb2_34)), (m_keptStands, .inl (cT 0, 8, .inl fb2_16)), (m_standsIn, .inl (cT 0, 8, .inl fb2_36)), (m_keptShot, .inl (cT 0, 12, .inl fb2_18)), (m_shotMany, .inl (cT 0, 12, .inl fb2_38))] := hD
  refine lv_iload_n hx hb dX12_foretold_250 rfl (lv_at hl 0 rfl) ?_
  refine lv_if_eq (tgt := 258) hx hb dX12_foretold_251 (by decide) (fun c9 => absurd c9 (by decide)) (fun _ => ?_)
  refine lv_iload_n hx hb dX12_foretold_254 rfl (lv_at hl 1 rfl) ?_
  refine lv_goto (tgt := 259) hx hb dX12_foretold_255 (by decide) ?_
  have hP9 := hP.sub (ws' := [(h0, .inr (12, (((fs.set 0 (.int 0)).set 99 (.int 0)).set 82 (.int 0))))]) [0] rfl
  have hD9 := hD.sub (ws' := [(h0, .inr (12, (((fs.set 0 (.int 0)).set 99 (.int 0)).set 82 (.int 0))))]) [0] (by decide) rfl
  exact W.iret (v := 0) hx hb hr (fun t ht hW => ⟨⟨0, (), rfl, rfl, ⟨(((fs.set 0 (.int 0)).set 99 (.int 0)).set 82 (.int 0)), by simp only [List.length_set]; exact hfs, (List.getElem?_set_ne (by decide)).trans ((List.getElem?_set_ne (by decide)).trans (List.getElem?_set_self (by simp only [List.length_set, hfs]; decide))), by rw [ht]; exact hP9, hD9⟩⟩, hS.F ht⟩) hS.2.2 dX12_foretold_259
theorem dX12_begins_0 : decode cX12_begins 0 = .ok (.aload_n 0, 1) := by decide +kernel
theorem dX12_begins_1 : decode cX12_begins 1 = .ok (.getfield 219, 3) := by decide +kernel
theorem dX12_begins_10 : decode cX12_begins 10 = .ok (.ifCond .lt 33, 3) := by decide +kernel
theorem dX12_begins_107 : decode cX12_begins 107 = .ok (.return_, 1) := by decide +kernel
theorem dX12_begins_4 : decode cX12_begins 4 = .ok (.iload_n 1, 1) := by decide +kernel
theorem dX12_begins_43 : decode cX12_begins 43 = .ok (.iconst 0, 1) := by decide +kernel
theorem dX12_begins_44 : decode cX12_begins 44 = .ok (.istore_n 2, 1) := by decide +kernel
theorem dX12_begins_45 : decode cX12_begins 45 = .ok (.iload_n 2, 1) := by decide +kernel
theorem dX12_begins_46 : decode cX12_begins 46 = .ok (.aload_n 0, 1) := by decide +kernel
theorem dX12_begins_47 : decode cX12_begins 47 = .ok (.getfield 219, 3) := by decide +kernel
theorem dX12_begins_5 : decode cX12_begins 5 = .ok (.iaload, 1) := by decide +kernel
theorem dX12_begins_50 : decode cX12_begins 50 = .ok (.iload_n 1, 1) := by decide +kernel
theorem dX12_begins_51 : decode cX12_begins 51 = .ok (.iaload, 1) := by decide +kernel
theorem dX12_begins_52 : decode cX12_begins 52 = .ok (.if_icmp .ge 55, 3) := by decide +kernel
theorem dX12_begins_6 : decode cX12_begins 6 = .ok (.iconst 1, 1) := by decide +kernel
theorem dX12_begins_7 : decode cX12_begins 7 = .ok (.isub, 1) := by decide +kernel
theorem dX12_begins_8 : decode cX12_begins 8 = .ok (.istore_n 2, 1) := by decide +kernel
theorem dX12_begins_9 : decode cX12_begins 9 = .ok (.iload_n 2, 1) := by decide +kernel
set_option maxHeartbeats 4000000 in
set_option maxRecDepth 100000 in
theorem c_X12_begins (l : Launch) (D : va_G) (cT : Nat → ClassId) (h0 : Nat) (p0 : Int32) (fs : List Value) (m_queued : Nat) (sz : Nat) (hu : vp_in p0 3) (hfs : fs.length = 109) (hfs_93 : fs[93]? = some (.ref m_queued)) : Met l yX12_begins wsX12_begins ({ frames := 8, cells := 0, slots := 0, locals := 160 }) (va_Pc [.ref h0, .int p0] (PW D cT [(h0, .inr (12, fs)), (m_queued, .inl (cT 0, 3, .inl (fun _ => 0)))] sz)) (va_Qv (fun _ : Unit => True) (fun (_ : Unit) (t : State) => va_P D vwCl [(h0, .inr (12, fs)), (m_queued, .inl (cT 0, 3, .inl (fun _ => 0)))] t.heap ∧ va_D (va_A [(h0, .inr (12, fs)), (m_queued, .inl (cT 0, 3, .inl (fun _ => 0)))] sz) [(h0, .inr (12, fs)), (m_queued, .inl (cT 0, 3, .inl (fun _ => 0)))]) (va_A [(h0, .inr (12, fs)), (m_queued, .inl (cT 0, 3, .inl (fun _ => 0)))] sz)) 0 0 (va_A [(h0, .inr (12, fs)), (m_queued, .inl (cT 0, 3, .inl (fun _ => 0)))] sz) := by
  refine Met.ofW (cc := cX12_begins) (maxL := 3) (ret := none) (by decide) rfl ?_
  intro p e s m args below meth c s₁ B hml hv
  obtain ⟨rfl, hsz, hP, hK, hD0, hG⟩ := hv
  have hx := B.exec
  have hb := B.bytes
  have hr := B.returns
  have hts := atoms_spec (ws := wsX12_begins) B.pre
  have hown : s.vm.findClass RX12 = some m.cls := findClass_of_methodNamed B.named
  have hlocks := B.notSynchronized
  subst hsz
  have hD := hD0.self (sz := s.heap.size)
  generalize hAe : va_A [(h0, .inr (12, fs)), (m_queued, .inl (cT 0, 3, .inl (fun _ => 0)))] s.heap.size = A at hD ⊢
  have hA : ∀ q : Nat, s.heap.size ≤ q → A q := fun q h => by rw [← hAe]; exact Or.inr h
  have hS : va_S A s.heap s.heap [] := va_S.rf
  have hP : va_P D vwCl [(h0, .inr (12, fs)), (m_queued, .inl (cT 0, 3, .inl (fun _ => 0)))] s.heap := hP
  have hl := lv_entry ([.ref h0, .int p0]) (n := 3) (Nat.le_of_ble_eq_true rfl)
  rw [lg_entry_eq]
  generalize (lg_sl ([.ref h0, .int p0]) ++ List.replicate (3 - (lg_sl ([.ref h0, .int p0])).length) Slot.unset).toArray = ls at hl ⊢
  have hl : lv_has ls 3 [(0, .ref h0), (1, .int p0)] := hl
  refine lv_aload_n hx hb dX12_begins_0 rfl (lv_at hl 0 rfl) ?_
  refine va_get (D := D) (ci := 12) (v := .ref m_queued) (C := RX12) (T := TX12) (N := 109) hx hb hts (fun _ h => List.mem_cons_of_mem _ (List.mem_append_right _ h)) hown hK hP 0 rfl rfl 93 (by decide) (hts (.fieldLink RX12 219 "PuppetFilmModel" "queued" "[I") (List.mem_of_getElem? (i := 1) (by decide +kernel))) (fun _ h9 => h9) (hfs_93) dX12_begins_1 ?_
  refine lv_iload_n hx hb dX12_begins_4 rfl (lv_at hl 1 rfl) ?_
  refine va_iald hx hb hK hP 1 0 rfl rfl hu dX12_begins_5 ?_
  refine lv_topi (fun x_1 ex_1 => ?_)
  obtain rfl : x_1 = 0 := ex_1.trans (rfl)
  refine lv_iconst (v := 1) hx hb dX12_begins_6 (by decide) ?_
  refine lv_isub hx hb dX12_begins_7 ?_
  refine lv_topi (fun z_2 ez_2 => ?_)
  obtain rfl : z_2 = (-1) := ez_2.trans (by decide)
  refine lv_istore_n (lv' := [(2, .int (-1)), (0, .ref h0), (1, .int p0)]) hx hb dX12_begins_8 rfl hl (by decide) rfl (fun ls hl => ?_)
  refine lv_iload_n hx hb dX12_begins_9 rfl (lv_at hl 0 rfl) ?_
  refine lv_if_lt (tgt := 43) hx hb dX12_begins_10 (by decide) (fun _ => ?_) (fun c9 => absurd c9 (by decide))
  refine lv_iconst (v := 0) hx hb dX12_begins_43 (by decide) ?_
  refine lv_istore_n (lv' := [(2, .int 0), (0, .ref h0), (1, .int p0)]) hx hb dX12_begins_44 rfl hl (by decide) rfl (fun ls hl => ?_)
  refine lv_iload_n hx hb dX12_begins_45 rfl (lv_at hl 0 rfl) ?_
  refine lv_aload_n hx hb dX12_begins_46 rfl (lv_at hl 1 rfl) ?_
  refine va_get (D := D) (ci := 12) (v := .ref m_queued) (C := RX12) (T := TX12) (N := 109) hx hb hts (fun _ h => List.mem_cons_of_mem _ (List.mem_append_right _ h)) hown hK hP 0 rfl rfl 93 (by decide) (hts (.fieldLink RX12 219 "PuppetFilmModel" "queued" "[I") (List.mem_of_getElem? (i := 1) (by decide +kernel))) (fun _ h9 => h9) (hfs_93) dX12_begins_47 ?_
  refine lv_iload_n hx hb dX12_begins_50 rfl (lv_at hl 2 rfl) ?_
  refine va_iald hx hb hK hP 1 0 rfl rfl hu dX12_begins_51 ?_
  refine lv_topi (fun x_3 ex_3 => ?_)
  obtain rfl : x_3 = 0 := ex_3.trans (rfl)
  refine lv_icmp_ge (tgt := 107) hx hb dX12_begins_52 (by decide) (fun _ => ?_) (fun c9 => absurd c9 (by decide))
  have hP9 := hP.sub (ws' := [(h0, .inr (12, fs)), (m_queued, .inl (cT 0, 3, .inl (fun _ => 0)))]) [0, 1] rfl
  have hD9 := hD.sub (ws' := [(h0, .inr (12, fs)), (m_queued, .inl (cT 0, 3, .inl (fun _ => 0)))]) [0, 1] (by decide) rfl
  exact W.vret hx hb hr (fun t ht hW => ⟨⟨(), rfl, trivial, ⟨by rw [ht]; exact hP9, hD9⟩⟩, hS.F ht⟩) hS.2.2 dX12_begins_107
theorem dX12_halfOf_0 : decode cX12_halfOf 0 = .ok (.aload_n 0, 1) := by decide +kernel
theorem dX12_halfOf_1 : decode cX12_halfOf 1 = .ok (.getfield 225, 3) := by decide +kernel
theorem dX12_halfOf_10 : decode cX12_halfOf 10 = .ok (.aload_n 0, 1) := by decide +kernel
theorem dX12_halfOf_11 : decode cX12_halfOf 11 = .ok (.iload_n 1, 1) := by decide +kernel
theorem dX12_halfOf_12 : decode cX12_halfOf 12 = .ok (.invokevirtual 546, 3) := by decide +kernel
theorem dX12_halfOf_15 : decode cX12_halfOf 15 = .ok (.aload_n 0, 1) := by decide +kernel
theorem dX12_halfOf_16 : decode cX12_halfOf 16 = .ok (.getfield 225, 3) := by decide +kernel
theorem dX12_halfOf_19 : decode cX12_halfOf 19 = .ok (.iload_n 1, 1) := by decide +kernel
theorem dX12_halfOf_20 : decode cX12_halfOf 20 = .ok (.iaload, 1) := by decide +kernel
theorem dX12_halfOf_21 : decode cX12_halfOf 21 = .ok (.iconst (-1), 1) := by decide +kernel
theorem dX12_halfOf_22 : decode cX12_halfOf 22 = .ok (.if_icmp .ne 4, 3) := by decide +kernel
theorem dX12_halfOf_25 : decode cX12_halfOf 25 = .ok (.return_, 1) := by decide +kernel
theorem dX12_halfOf_4 : decode cX12_halfOf 4 = .ok (.iload_n 1, 1) := by decide +kernel
theorem dX12_halfOf_5 : decode cX12_halfOf 5 = .ok (.iaload, 1) := by decide +kernel
theorem dX12_halfOf_6 : decode cX12_halfOf 6 = .ok (.iconst (-1), 1) := by decide +kernel
theorem dX12_halfOf_7 : decode cX12_halfOf 7 = .ok (.if_icmp .ne 8, 3) := by decide +kernel
set_option maxRecDepth 20000 in
theorem ggX12_halfOf_X12_begins : GoodIn wsX12_halfOf wsX12_begins := goodIn_r _ [11, 12, 13, 1, 14, 15, 16, 10, 17, 18, 19, 20, 21, 22, 23, 24, 25, 26, 27, 4, 2, 28, 29, 30, 31, 32, 33, 34, 35, 36, 37, 38, 73, 74, 75, 76, 77, 78, 79, 80, 81, 82, 83, 84, 85, 86, 87, 88, 89, 90, 91, 92, 93, 94, 95, 96, 97, 98, 99, 100, 101, 102, 103, 104, 105, 106, 107, 108, 109, 110, 111, 112, 113, 114, 115, 116, 117, 118, 119, 120, 121, 122, 123, 124, 125, 126, 127, 128, 129, 130, 131, 132, 133, 134, 135, 136, 137, 138, 139, 140, 141, 142, 143, 144, 145, 146, 147, 148, 149, 150, 151, 152, 153, 154, 155, 156, 157, 158, 159, 160, 161, 162, 163, 164, 165, 166, 167, 168, 169, 170, 171, 172, 173, 174, 175, 176, 177, 178, 179, 180, 181] (by decide +kernel) (by decide +kernel)
set_option maxRecDepth 20000 in
theorem gX12_halfOf_X12_begins : GoodIn wsX12_halfOf (wsV RX12 546 RX12 yX12_begins wsX12_begins) := goodIn_app (goodIn_of _ (by decide +kernel)) ggX12_halfOf_X12_begins
set_option maxHeartbeats 4000000 in
set_option maxRecDepth 100000 in
theorem c_X12_halfOf (l : Launch) (D : va_G) (cT : Nat → ClassId) (h0 : Nat) (p0 : Int32) (fs : List Value) (m_queued : Nat) (m_onNow : Nat) (mon : Nat → Int32) (sz : Nat) (hu : vp_in p0 3) (hmon : ∀ k, k < 3 → mon k = -1) (hfs : fs.length = 109) (hfs_93 : fs[93]? = some (.ref m_queued)) (hfs_95 : fs[95]? = some (.ref m_onNow)) : Met l yX12_halfOf wsX12_halfOf ({ frames := 9, cells := 0, slots := 0, locals := 220 }) (va_Pc [.ref h0, .int p0] (PW D cT [(h0, .inr (12, fs)), (m_queued, .inl (cT 0, 3, .inl (fun _ => 0))), (m_onNow, .inl (cT 0, 3, .inl mon))] sz)) (va_Qv (fun _ : Unit => True) (fun (_ : Unit) (t : State) => va_P D vwCl [(h0, .inr (12, fs)), (m_queued, .inl (cT 0, 3, .inl (fun _ => 0))), (m_onNow, .inl (cT 0, 3, .inl mon))] t.heap ∧ va_D (va_A [(h0, .inr (12, fs)), (m_queued, .inl (cT 0, 3, .inl (fun _ => 0))), (m_onNow, .inl (cT 0, 3, .inl mon))] sz) [(h0, .inr (12, fs)), (m_queued, .inl (cT 0, 3, .inl (fun _ => 0))), (m_onNow, .inl (cT 0, 3, .inl mon))]) (va_A [(h0, .inr (12, fs)), (m_queued, .inl (cT 0, 3, .inl (fun _ => 0))), (m_onNow, .inl (cT 0, 3, .inl mon))] sz)) 0 0 (va_A [(h0, .inr (12, fs)), (m_queued, .inl (cT 0, 3, .inl (fun _ => 0))), (m_onNow, .inl (cT 0, 3, .inl mon))] sz) := by
  refine Met.ofW (cc := cX12_halfOf) (maxL := 4) (ret := none) (by decide) rfl ?_
  intro p e s m args below meth c s₁ B hml hv
  obtain ⟨rfl, hsz, hP, hK, hD0, hG⟩ := hv
  have hx := B.exec
  have hb := B.bytes
  have hr := B.returns
  have hts := atoms_spec (ws := wsX12_halfOf) B.pre
  have hown : s.vm.findClass RX12 = some m.cls := findClass_of_methodNamed B.named
  have hlocks := B.notSynchronized
  subst hsz
  have hD := hD0.self (sz := s.heap.size)
  generalize hAe : va_A [(h0, .inr (12, fs)), (m_queued, .inl (cT 0, 3, .inl (fun _ => 0))), (m_onNow, .inl (cT 0, 3, .inl mon))] s.heap.size = A at hD ⊢
  have hA : ∀ q : Nat, s.heap.size ≤ q → A q := fun q h => by rw [← hAe]; exact Or.inr h
  have hS : va_S A s.heap s.heap [] := va_S.rf
  have hP : va_P D vwCl [(h0, .inr (12, fs)), (m_queued, .inl (cT 0, 3, .inl (fun _ => 0))), (m_onNow, .inl (cT 0, 3, .inl mon))] s.heap := hP
  have hl := lv_entry ([.ref h0, .int p0]) (n := 4) (Nat.le_of_ble_eq_true rfl)
  rw [lg_entry_eq]
  generalize (lg_sl ([.ref h0, .int p0]) ++ List.replicate (4 - (lg_sl ([.ref h0, .int p0])).length) Slot.unset).toArray = ls at hl ⊢
  have hl : lv_has ls 4 [(0, .ref h0), (1, .int p0)] := hl
  refine lv_aload_n hx hb dX12_halfOf_0 rfl (lv_at hl 0 rfl) ?_
  refine va_get (D := D) (ci := 12) (v := .ref m_onNow) (C := RX12) (T := TX12) (N := 109) hx hb hts (fun _ h => List.mem_cons_of_mem _ (List.mem_append_right _ h)) hown hK hP 0 rfl rfl 95 (by decide) (hts (.fieldLink RX12 225 "PuppetFilmModel" "onNow" "[I") (List.mem_of_getElem? (i := 1) (by decide +kernel))) (fun _ h9 => h9) (hfs_95) dX12_halfOf_1 ?_
  refine lv_iload_n hx hb dX12_halfOf_4 rfl (lv_at hl 1 rfl) ?_
  refine va_iald hx hb hK hP 2 0 rfl rfl hu dX12_halfOf_5 ?_
  refine lv_topi (fun x_1 ex_1 => ?_)
  obtain rfl : x_1 = (-1) := ex_1.trans (hmon _ (vin_n hu))
  refine lv_iconst (v := (-1)) hx hb dX12_halfOf_6 (by decide) ?_
  refine lv_icmp_ne (tgt := 15) hx hb dX12_halfOf_7 (by decide) (fun c9 => absurd c9 (by decide)) (fun _ => ?_)
  refine lv_aload_n hx hb dX12_halfOf_10 rfl (lv_at hl 0 rfl) ?_
  refine lv_iload_n hx hb dX12_halfOf_11 rfl (lv_at hl 1 rfl) ?_
  have hF := va_free (wc := [(h0, .inr (12, fs)), (m_queued, .inl (cT 0, 3, .inl (fun _ => 0)))]) hD hS hA [0, 1] rfl
  refine va_callv (va_runV (As := [.int p0]) (rest := []) ⟨hx, hb, hml, hown, hts⟩ (c_X12_begins l D cT h0 p0 fs m_queued _ (by first | exact hu | (unfold vp_in; decide)) (hfs) (hfs_93)) (cwV 1 hts gX12_halfOf_X12_begins rfl rfl rfl (by decide +kernel) ⟨Nat.le_of_ble_eq_true rfl, Nat.le_of_ble_eq_true rfl⟩) (pv_w hP hD hK hG [0, 1] rfl rfl rfl 0 rfl rfl) rfl rfl hl.1 rfl (lv_room (Nat.le_of_ble_eq_true rfl)) dX12_halfOf_12 ⟨Nat.le_of_ble_eq_true rfl, Nat.le_of_ble_eq_true rfl⟩) hS (fun q _ h => hF q h) hF (fun uu9 tt9 H locs ht hvm wr_2 hB hz1 hk1 hS => ?_)
  obtain ⟨hP1, hD1⟩ := hB
  rw [ht] at hP1
  obtain ⟨hP, hD⟩ := va_join (wr := [(m_onNow, .inl (cT 0, 3, .inl mon))]) (w1 := [(h0, .inr (12, fs)), (m_queued, .inl (cT 0, 3, .inl (fun _ => 0)))]) hP hD [0, 1] [2] rfl rfl (by decide) (by decide) hk1 hF hP1 hD1
  have hP : va_P D vwCl [(m_onNow, .inl (cT 0, 3, .inl mon)), (h0, .inr (12, fs)), (m_queued, .inl (cT 0, 3, .inl (fun _ => 0)))] _ := hP
  have hD : va_D A [(m_onNow, .inl (cT 0, 3, .inl mon)), (h0, .inr (12, fs)), (m_queued, .inl (cT 0, 3, .inl (fun _ => 0)))] := hD
  refine lv_aload_n hx hb dX12_halfOf_15 rfl (lv_at hl 0 rfl) ?_
  refine va_get (D := D) (ci := 12) (v := .ref m_onNow) (C := RX12) (T := TX12) (N := 109) hx hb hts (fun _ h => List.mem_cons_of_mem _ (List.mem_append_right _ h)) hown hK hP 1 rfl rfl 95 (by decide) (hts (.fieldLink RX12 225 "PuppetFilmModel" "onNow" "[I") (List.mem_of_getElem? (i := 1) (by decide +kernel))) (fun _ h9 => h9) (hfs_95) dX12_halfOf_16 ?_
  refine lv_iload_n hx hb dX12_halfOf_19 rfl (lv_at hl 1 rfl) ?_
  refine va_iald hx hb hK hP 0 0 rfl rfl hu dX12_halfOf_20 ?_
  refine lv_topi (fun x_3 ex_3 => ?_)
  obtain rfl : x_3 = (-1) := ex_3.trans (hmon _ (vin_n hu))
  refine lv_iconst (v := (-1)) hx hb dX12_halfOf_21 (by decide) ?_
  refine lv_icmp_ne (tgt := 26) hx hb dX12_halfOf_22 (by decide) (fun c9 => absurd c9 (by decide)) (fun _ => ?_)
  have hP9 := hP.sub (ws' := [(h0, .inr (12, fs)), (m_queued, .inl (cT 0, 3, .inl (fun _ => 0))), (m_onNow, .inl (cT 0, 3, .inl mon))]) [1, 2, 0] rfl
  have hD9 := hD.sub (ws' := [(h0, .inr (12, fs)), (m_queued, .inl (cT 0, 3, .inl (fun _ => 0))), (m_onNow, .inl (cT 0, 3, .inl mon))]) [1, 2, 0] (by decide) rfl
  exact W.vret hx hb hr (fun t ht hW => ⟨⟨(), rfl, trivial, ⟨by rw [ht]; exact hP9, hD9⟩⟩, hS.F ht⟩) hS.2.2 dX12_halfOf_25
theorem dX12_floorHalf_0 : decode cX12_floorHalf 0 = .ok (.iconst 0, 1) := by decide +kernel
theorem dX12_floorHalf_1 : decode cX12_floorHalf 1 = .ok (.istore_n 1, 1) := by decide +kernel
theorem dX12_floorHalf_12 : decode cX12_floorHalf 12 = .ok (.iinc 1 1, 3) := by decide +kernel
theorem dX12_floorHalf_15 : decode cX12_floorHalf 15 = .ok (.goto (-13), 3) := by decide +kernel
theorem dX12_floorHalf_18 : decode cX12_floorHalf 18 = .ok (.aload_n 0, 1) := by decide +kernel
theorem dX12_floorHalf_19 : decode cX12_floorHalf 19 = .ok (.dup, 1) := by decide +kernel
theorem dX12_floorHalf_2 : decode cX12_floorHalf 2 = .ok (.iload_n 1, 1) := by decide +kernel
theorem dX12_floorHalf_20 : decode cX12_floorHalf 20 = .ok (.getfield 513, 3) := by decide +kernel
theorem dX12_floorHalf_23 : decode cX12_floorHalf 23 = .ok (.iconst 1, 1) := by decide +kernel
theorem dX12_floorHalf_24 : decode cX12_floorHalf 24 = .ok (.iadd, 1) := by decide +kernel
theorem dX12_floorHalf_25 : decode cX12_floorHalf 25 = .ok (.putfield 513, 3) := by decide +kernel
theorem dX12_floorHalf_28 : decode cX12_floorHalf 28 = .ok (.return_, 1) := by decide +kernel
theorem dX12_floorHalf_3 : decode cX12_floorHalf 3 = .ok (.iconst 3, 1) := by decide +kernel
theorem dX12_floorHalf_4 : decode cX12_floorHalf 4 = .ok (.if_icmp .ge 14, 3) := by decide +kernel
theorem dX12_floorHalf_7 : decode cX12_floorHalf 7 = .ok (.aload_n 0, 1) := by decide +kernel
theorem dX12_floorHalf_8 : decode cX12_floorHalf 8 = .ok (.iload_n 1, 1) := by decide +kernel
theorem dX12_floorHalf_9 : decode cX12_floorHalf 9 = .ok (.invokevirtual 555, 3) := by decide +kernel
set_option maxRecDepth 20000 in
theorem ggX12_floorHalf_X12_halfOf : GoodIn wsX12_floorHalf wsX12_halfOf := goodIn_r _ [6, 7, 8, 9, 10, 11, 12, 13, 14, 15, 5, 16, 17, 18, 19, 20, 21, 22, 23, 24, 25, 26, 27, 28, 29, 30, 31, 32, 33, 34, 35, 36, 37, 38, 39, 40, 41, 42, 43, 44, 45, 46, 47, 48, 49, 50, 51, 52, 53, 54, 55, 1, 56, 57, 58, 59, 60, 61, 62, 63, 64, 65, 66, 67, 68, 69, 70, 71, 72, 73, 74, 75, 76, 77, 78, 79, 80, 81, 82, 83, 84, 85, 86, 87, 88, 89, 90, 91, 92, 93, 94, 95, 96, 97, 98, 99, 100, 101, 102, 103, 104, 105, 106, 107, 108, 109, 110, 111, 112, 113, 114, 115, 116, 117, 118, 119, 120, 121, 122, 123, 124, 125, 126, 127, 128, 129, 130, 131, 132, 133, 134, 135, 136, 137, 138, 139, 140, 141, 142, 143, 144, 145, 146, 147, 148, 149, 150, 151, 152, 153, 154, 155, 156, 157, 158, 159, 160, 161, 162, 163, 164, 165, 166, 167, 168, 169, 170, 171, 172, 173, 174, 175, 176, 177, 178, 179, 180, 181, 182, 183, 184, 185] (by decide +kernel) (by decide +kernel)
set_option maxRecDepth 20000 in
theorem gX12_floorHalf_X12_halfOf : GoodIn wsX12_floorHalf (wsV RX12 555 RX12 yX12_halfOf wsX12_halfOf) := goodIn_app (goodIn_of _ (by decide +kernel)) ggX12_floorHalf_X12_halfOf
set_option maxHeartbeats 4000000 in
set_option maxRecDepth 100000 in
theorem c_X12_floorHalf (l : Launch) (D : va_G) (cT : Nat → ClassId) (h0 : Nat) (fs : List Value) (m_th : Int32) (m_half : Int32) (m_queued : Nat) (m_onNow : Nat) (mon : Nat → Int32) (sz : Nat) (hmon : ∀ k, k < 3 → mon k = -1) (hfs : fs.length = 109) (hfs_0 : fs[0]? = some (.int m_th)) (hfs_82 : fs[82]? = some (.int m_half)) (hfs_93 : fs[93]? = some (.ref m_queued)) (hfs_95 : fs[95]? = some (.ref m_onNow)) : Met l yX12_floorHalf wsX12_floorHalf ({ frames := 10, cells := 0, slots := 0, locals := 280 }) (va_Pc [.ref h0] (PW D cT [(h0, .inr (12, fs)), (m_queued, .inl (cT 0, 3, .inl (fun _ => 0))), (m_onNow, .inl (cT 0, 3, .inl mon))] sz)) (va_Qv (fun _ : Unit => True) (fun (_ : Unit) (t : State) => ∃ (gs : List Value), ∃ (h2 : Int32), (gs.length = 109) ∧ (gs[0]? = some (.int m_th)) ∧ (gs[82]? = some (.int h2)) ∧ (gs[93]? = some (.ref m_queued)) ∧ (gs[95]? = some (.ref m_onNow)) ∧ (h2 = m_half + 1) ∧ va_P D vwCl [(h0, .inr (12, gs)), (m_queued, .inl (cT 0, 3, .inl (fun _ => 0))), (m_onNow, .inl (cT 0, 3, .inl mon))] t.heap ∧ va_D (va_A [(h0, .inr (12, fs)), (m_queued, .inl (cT 0, 3, .inl (fun _ => 0))), (m_onNow, .inl (cT 0, 3, .inl mon))] sz) [(h0, .inr (12, gs)), (m_queued, .inl (cT 0, 3, .inl (fun _ => 0))), (m_onNow, .inl (cT 0, 3, .inl mon))]) (va_A [(h0, .inr (12, fs)), (m_queued, .inl (cT 0, 3, .inl (fun _ => 0))), (m_onNow, .inl (cT 0, 3, .inl mon))] sz)) 0 0 (va_A [(h0, .inr (12, fs)), (m_queued, .inl (cT 0, 3, .inl (fun _ => 0))), (m_onNow, .inl (cT 0, 3, .inl mon))] sz) := by
  refine Met.ofW (cc := cX12_floorHalf) (maxL := 2) (ret := none) (by decide) rfl ?_
  intro p e s m args below meth c s₁ B hml hv
  obtain ⟨rfl, hsz, hP, hK, hD0, hG⟩ := hv
  have hx := B.exec
  have hb := B.bytes
  have hr := B.returns
  have hts := atoms_spec (ws := wsX12_floorHalf) B.pre
  have hown : s.vm.findClass RX12 = some m.cls := findClass_of_methodNamed B.named
  have hlocks := B.notSynchronized
  subst hsz
  have hD := hD0.self (sz := s.heap.size)
  generalize hAe : va_A [(h0, .inr (12, fs)), (m_queued, .inl (cT 0, 3, .inl (fun _ => 0))), (m_onNow, .inl (cT 0, 3, .inl mon))] s.heap.size = A at hD ⊢
  have hA : ∀ q : Nat, s.heap.size ≤ q → A q := fun q h => by rw [← hAe]; exact Or.inr h
  have hS : va_S A s.heap s.heap [] := va_S.rf
  have hP : va_P D vwCl [(h0, .inr (12, fs)), (m_queued, .inl (cT 0, 3, .inl (fun _ => 0))), (m_onNow, .inl (cT 0, 3, .inl mon))] s.heap := hP
  have hl := lv_entry ([.ref h0]) (n := 2) (Nat.le_of_ble_eq_true rfl)
  rw [lg_entry_eq]
  generalize (lg_sl ([.ref h0]) ++ List.replicate (2 - (lg_sl ([.ref h0])).length) Slot.unset).toArray = ls at hl ⊢
  have hl : lv_has ls 2 [(0, .ref h0)] := hl
  refine lv_iconst (v := 0) hx hb dX12_floorHalf_0 (by decide) ?_
  refine lv_istore_n (lv' := [(1, .int 0), (0, .ref h0)]) hx hb dX12_floorHalf_1 rfl hl (by decide) rfl (fun ls hl => ?_)
  refine lv_iload_n hx hb dX12_floorHalf_2 rfl (lv_at hl 0 rfl) ?_
  refine lv_iconst (v := 3) hx hb dX12_floorHalf_3 (by decide) ?_
  refine lv_icmp_ge (tgt := 18) hx hb dX12_floorHalf_4 (by decide) (fun c9 => absurd c9 (by decide)) (fun _ => ?_)
  refine lv_aload_n hx hb dX12_floorHalf_7 rfl (lv_at hl 1 rfl) ?_
  refine lv_iload_n hx hb dX12_floorHalf_8 rfl (lv_at hl 0 rfl) ?_
  have hF := va_free (wc := [(h0, .inr (12, fs)), (m_queued, .inl (cT 0, 3, .inl (fun _ => 0))), (m_onNow, .inl (cT 0, 3, .inl mon))]) hD hS hA [0, 1, 2] rfl
  refine va_callv (va_runV (As := [.int 0]) (rest := []) ⟨hx, hb, hml, hown, hts⟩ (c_X12_halfOf l D cT h0 0 fs m_queued m_onNow mon _ (by first | exact hu | (unfold vp_in; decide)) (by assumption) (hfs) (hfs_93) (hfs_95)) (cwV 1 hts gX12_floorHalf_X12_halfOf rfl rfl rfl (by decide +kernel) ⟨Nat.le_of_ble_eq_true rfl, Nat.le_of_ble_eq_true rfl⟩) (pv_w hP hD hK hG [0, 1, 2] rfl rfl rfl 0 rfl rfl) rfl rfl hl.1 rfl (lv_room (Nat.le_of_ble_eq_true rfl)) dX12_floorHalf_9 ⟨Nat.le_of_ble_eq_true rfl, Nat.le_of_ble_eq_true rfl⟩) hS (fun q _ h => hF q h) hF (fun uu9 tt9 H locs ht hvm wr_1 hB hz1 hk1 hS => ?_)
  obtain ⟨hP1, hD1⟩ := hB
  rw [ht] at hP1
  obtain ⟨hP, hD⟩ := va_join (wr := []) (w1 := [(h0, .inr (12, fs)), (m_queued, .inl (cT 0, 3, .inl (fun _ => 0))), (m_onNow, .inl (cT 0, 3, .inl mon))]) hP hD [0, 1, 2] [] rfl rfl (by decide) (by decide) hk1 hF hP1 hD1
  have hP : va_P D vwCl [(h0, .inr (12, fs)), (m_queued, .inl (cT 0, 3, .inl (fun _ => 0))), (m_onNow, .inl (cT 0, 3, .inl mon))] _ := hP
  have hD : va_D A [(h0, .inr (12, fs)), (m_queued, .inl (cT 0, 3, .inl (fun _ => 0))), (m_onNow, .inl (cT 0, 3, .inl mon))] := hD
  refine lv_iinc (v := 1) (lv' := [(1, .int 1), (0, .ref h0)]) hx hb dX12_floorHalf_12 hl (k := 0) rfl (by decide) (by decide) rfl (fun ls hl => ?_)
  refine lv_goto (tgt := 2) hx hb dX12_floorHalf_15 (by decide) ?_
  refine lv_iload_n hx hb dX12_floorHalf_2 rfl (lv_at hl 0 rfl) ?_
  refine lv_iconst (v := 3) hx hb dX12_floorHalf_3 (by decide) ?_
  refine lv_icmp_ge (tgt := 18) hx hb dX12_floorHalf_4 (by decide) (fun c9 => absurd c9 (by decide)) (fun _ => ?_)
  refine lv_aload_n hx hb dX12_floorHalf_7 rfl (lv_at hl 1 rfl) ?_
  refine lv_iload_n hx hb dX12_floorHalf_8 rfl (lv_at hl 0 rfl) ?_
  have hF := va_free (wc := [(h0, .inr (12, fs)), (m_queued, .inl (cT 0, 3, .inl (fun _ => 0))), (m_onNow, .inl (cT 0, 3, .inl mon))]) hD hS hA [0, 1, 2] rfl
  refine va_callv (va_runV (As := [.int 1]) (rest := []) ⟨hx, hb, hml, hown, hts⟩ (c_X12_halfOf l D cT h0 1 fs m_queued m_onNow mon _ (by first | exact hu | (unfold vp_in; decide)) (by assumption) (hfs) (hfs_93) (hfs_95)) (cwV 1 hts gX12_floorHalf_X12_halfOf rfl rfl rfl (by decide +kernel) ⟨Nat.le_of_ble_eq_true rfl, Nat.le_of_ble_eq_true rfl⟩) (pv_w hP hD hK hG [0, 1, 2] rfl rfl rfl 0 rfl rfl) rfl rfl hl.1 rfl (lv_room (Nat.le_of_ble_eq_true rfl)) dX12_floorHalf_9 ⟨Nat.le_of_ble_eq_true rfl, Nat.le_of_ble_eq_true rfl⟩) hS (fun q _ h => hF q h) hF (fun uu9 tt9 H locs ht hvm wr_2 hB hz1 hk1 hS => ?_)
  obtain ⟨hP1, hD1⟩ := hB
  rw [ht] at hP1
  obtain ⟨hP, hD⟩ := va_join (wr := []) (w1 := [(h0, .inr (12, fs)), (m_queued, .inl (cT 0, 3, .inl (fun _ => 0))), (m_onNow, .inl (cT 0, 3, .inl mon))]) hP hD [0, 1, 2] [] rfl rfl (by decide) (by decide) hk1 hF hP1 hD1
  have hP : va_P D vwCl [(h0, .inr (12, fs)), (m_queued, .inl (cT 0, 3, .inl (fun _ => 0))), (m_onNow, .inl (cT 0, 3, .inl mon))] _ := hP
  have hD : va_D A [(h0, .inr (12, fs)), (m_queued, .inl (cT 0, 3, .inl (fun _ => 0))), (m_onNow, .inl (cT 0, 3, .inl mon))] := hD
  refine lv_iinc (v := 2) (lv' := [(1, .int 2), (0, .ref h0)]) hx hb dX12_floorHalf_12 hl (k := 0) rfl (by decide) (by decide) rfl (fun ls hl => ?_)
  refine lv_goto (tgt := 2) hx hb dX12_floorHalf_15 (by decide) ?_
  refine lv_iload_n hx hb dX12_floorHalf_2 rfl (lv_at hl 0 rfl) ?_
  refine lv_iconst (v := 3) hx hb dX12_floorHalf_3 (by decide) ?_
  refine lv_icmp_ge (tgt := 18) hx hb dX12_floorHalf_4 (by decide) (fun c9 => absurd c9 (by decide)) (fun _ => ?_)
  refine lv_aload_n hx hb dX12_floorHalf_7 rfl (lv_at hl 1 rfl) ?_
  refine lv_iload_n hx hb dX12_floorHalf_8 rfl (lv_at hl 0 rfl) ?_
  have hF := va_free (wc := [(h0, .inr (12, fs)), (m_queued, .inl (cT 0, 3, .inl (fun _ => 0))), (m_onNow, .inl (cT 0, 3, .inl mon))]) hD hS hA [0, 1, 2] rfl
  refine va_callv (va_runV (As := [.int 2]) (rest := []) ⟨hx, hb, hml, hown, hts⟩ (c_X12_halfOf l D cT h0 2 fs m_queued m_onNow mon _ (by first | exact hu | (unfold vp_in; decide)) (by assumption) (hfs) (hfs_93) (hfs_95)) (cwV 1 hts gX12_floorHalf_X12_halfOf rfl rfl rfl (by decide +kernel) ⟨Nat.le_of_ble_eq_true rfl, Nat.le_of_ble_eq_true rfl⟩) (pv_w hP hD hK hG [0, 1, 2] rfl rfl rfl 0 rfl rfl) rfl rfl hl.1 rfl (lv_room (Nat.le_of_ble_eq_true rfl)) dX12_floorHalf_9 ⟨Nat.le_of_ble_eq_true rfl, Nat.le_of_ble_eq_true rfl⟩) hS (fun q _ h => hF q h) hF (fun uu9 tt9 H locs ht hvm wr_3 hB hz1 hk1 hS => ?_)
  obtain ⟨hP1, hD1⟩ := hB
  rw [ht] at hP1
  obtain ⟨hP, hD⟩ := va_join (wr := []) (w1 := [(h0, .inr (12, fs)), (m_queued, .inl (cT 0, 3, .inl (fun _ => 0))), (m_onNow, .inl (cT 0, 3, .inl mon))]) hP hD [0, 1, 2] [] rfl rfl (by decide) (by decide) hk1 hF hP1 hD1
  have hP : va_P D vwCl [(h0, .inr (12, fs)), (m_queued, .inl (cT 0, 3, .inl (fun _ => 0))), (m_onNow, .inl (cT 0, 3, .inl mon))] _ := hP
  have hD : va_D A [(h0, .inr (12, fs)), (m_queued, .inl (cT 0, 3, .inl (fun _ => 0))), (m_onNow, .inl (cT 0, 3, .inl mon))] := hD
  refine lv_iinc (v := 3) (lv' := [(1, .int 3), (0, .ref h0)]) hx hb dX12_floorHalf_12 hl (k := 0) rfl (by decide) (by decide) rfl (fun ls hl => ?_)
  refine lv_goto (tgt := 2) hx hb dX12_floorHalf_15 (by decide) ?_
  refine lv_iload_n hx hb dX12_floorHalf_2 rfl (lv_at hl 0 rfl) ?_
  refine lv_iconst (v := 3) hx hb dX12_floorHalf_3 (by decide) ?_
  refine lv_icmp_ge (tgt := 18) hx hb dX12_floorHalf_4 (by decide) (fun _ => ?_) (fun c9 => absurd c9 (by decide))
  refine lv_aload_n hx hb dX12_floorHalf_18 rfl (lv_at hl 1 rfl) ?_
  refine lv_dup hx hb dX12_floorHalf_19 rfl ?_
  refine va_get (D := D) (ci := 12) (v := .int m_half) (C := RX12) (T := TX12) (N := 109) hx hb hts (fun _ h => List.mem_cons_of_mem _ (List.mem_append_right _ h)) hown hK hP 0 rfl rfl 82 (by decide) (hts (.fieldLink RX12 513 "PuppetFilmModel" "half" "I") (List.mem_of_getElem? (i := 1) (by decide +kernel))) (fun _ h9 => h9) (hfs_82) dX12_floorHalf_20 ?_
  refine lv_iconst (v := 1) hx hb dX12_floorHalf_23 (by decide) ?_
  refine lv_iadd hx hb dX12_floorHalf_24 ?_
  refine lv_topi (fun x_4 ex_4 => ?_)
  refine va_put (D := D) (ci := 12) (v := .int x_4) (ty := .int) (C := RX12) (T := TX12) (N := 109) hx hb hts (fun _ h => List.mem_cons_of_mem _ (List.mem_append_right _ h)) tyX12 tyX12_ok nmX12 hown hK hP hD hS 0 rfl rfl 82 (by decide) (hts (.fieldLink RX12 513 "PuppetFilmModel" "half" "I") (List.mem_of_getElem? (i := 1) (by decide +kernel))) (fun _ h9 => h9) rfl (by decide +kernel) rfl rfl (by simp only [List.length_set, hfs]; decide) dX12_floorHalf_25 (fun H locs hP hD hS => ?_)
  have hP : va_P D vwCl [(h0, .inr (12, (fs.set 82 (.int x_4)))), (m_queued, .inl (cT 0, 3, .inl (fun _ => 0))), (m_onNow, .inl (cT 0, 3, .inl mon))] _ := hP
  have hD : va_D A [(h0, .inr (12, (fs.set 82 (.int x_4)))), (m_queued, .inl (cT 0, 3, .inl (fun _ => 0))), (m_onNow, .inl (cT 0, 3, .inl mon))] := hD
  have hP9 := hP.sub (ws' := [(h0, .inr (12, (fs.set 82 (.int x_4)))), (m_queued, .inl (cT 0, 3, .inl (fun _ => 0))), (m_onNow, .inl (cT 0, 3, .inl mon))]) [0, 1, 2] rfl
  have hD9 := hD.sub (ws' := [(h0, .inr (12, (fs.set 82 (.int x_4)))), (m_queued, .inl (cT 0, 3, .inl (fun _ => 0))), (m_onNow, .inl (cT 0, 3, .inl mon))]) [0, 1, 2] (by decide) rfl
  exact W.vret hx hb hr (fun t ht hW => ⟨⟨(), rfl, trivial, ⟨(fs.set 82 (.int x_4)), x_4, by simp only [List.length_set]; exact hfs, (List.getElem?_set_ne (by decide)).trans (hfs_0), List.getElem?_set_self (by simp only [List.length_set, hfs]; decide), (List.getElem?_set_ne (by decide)).trans (hfs_93), (List.getElem?_set_ne (by decide)).trans (hfs_95), ex_4, by rw [ht]; exact hP9, hD9⟩⟩, hS.F ht⟩) hS.2.2 dX12_floorHalf_28
