theorem dX11_within_0 : decode cX11_within 0 = .ok (.iload_n 0, 1) := by decide +kernel
theorem dX11_within_1 : decode cX11_within 1 = .ok (.iload_n 1, 1) := by decide +kernel
theorem dX11_within_10 : decode cX11_within 10 = .ok (.iconst 1, 1) := by decide +kernel
theorem dX11_within_11 : decode cX11_within 11 = .ok (.goto 4, 3) := by decide +kernel
theorem dX11_within_14 : decode cX11_within 14 = .ok (.iconst 0, 1) := by decide +kernel
theorem dX11_within_15 : decode cX11_within 15 = .ok (.ireturn, 1) := by decide +kernel
theorem dX11_within_2 : decode cX11_within 2 = .ok (.if_icmp .lt 12, 3) := by decide +kernel
theorem dX11_within_5 : decode cX11_within 5 = .ok (.iload_n 0, 1) := by decide +kernel
theorem dX11_within_6 : decode cX11_within 6 = .ok (.iload_n 2, 1) := by decide +kernel
theorem dX11_within_7 : decode cX11_within 7 = .ok (.if_icmp .gt 7, 3) := by decide +kernel
set_option maxHeartbeats 4000000 in
set_option maxRecDepth 100000 in
/-- value within two bounds -/
theorem c_X11_within (l : Launch) (D : va_G) (cT : Nat → ClassId) (v : Int32) (lo : Int32) (hi : Int32) (sz : Nat)  : Met l yX11_within wsX11_within ({ frames := 8, cells := 0, slots := 0, locals := 160 }) (va_Pc [.int v, .int lo, .int hi] (PW D cT [] sz)) (va_Qi (fun (r : Int32) (_ : Unit) => r = wi v lo hi) (fun (_ : Unit) (_ : State) => True) (va_A [] sz)) 0 0 (va_A [] sz) := by
  refine Met.ofW (cc := cX11_within) (maxL := 3) (ret := (some .boolean)) (by decide) rfl ?_
  intro p e s m args below meth c s₁ B hml hv
  obtain ⟨rfl, hsz, hP, hK, hD0, hG⟩ := hv
  have hx := B.exec
  have hb := B.bytes
  have hr := B.returns
  have hts := atoms_spec (ws := wsX11_within) B.pre
  have hown : s.vm.findClass RX11 = some m.cls := findClass_of_methodNamed B.named
  have hlocks := B.notSynchronized
  subst hsz
  have hD := hD0.self (sz := s.heap.size)
  generalize hAe : va_A [] s.heap.size = A at hD ⊢
  have hA : ∀ q : Nat, s.heap.size ≤ q → A q := fun q h => by rw [← hAe]; exact Or.inr h
  have hS : va_S A s.heap s.heap [] := va_S.rf
  have hP : va_P D vwCl [] s.heap := hP
  have hl := lv_entry ([.int v, .int lo, .int hi]) (n := 3) (Nat.le_of_ble_eq_true rfl)
  rw [lg_entry_eq]
  generalize (lg_sl ([.int v, .int lo, .int hi]) ++ List.replicate (3 - (lg_sl ([.int v, .int lo, .int hi])).length) Slot.unset).toArray = ls at hl ⊢
  have hl : lv_has ls 3 [(0, .int v), (1, .int lo), (2, .int hi)] := hl
  refine lv_iload_n hx hb dX11_within_0 rfl (lv_at hl 0 rfl) ?_
  refine lv_iload_n hx hb dX11_within_1 rfl (lv_at hl 1 rfl) ?_
  refine lv_icmp_lt (tgt := 14) hx hb dX11_within_2 (by decide) (fun c_1 => ?_) (fun c_1 => ?_)
  · refine lv_iconst (v := 0) hx hb dX11_within_14 (by decide) ?_
    exact W.zret (v := 0) (ty := .boolean) hx hb hr rfl (fun t ht hW => ⟨⟨0, (), rfl, (wi_l (i_nle c_1)).symm, trivial⟩, hS.F ht⟩) hS.2.2 dX11_within_15
  · refine lv_iload_n hx hb dX11_within_5 rfl (lv_at hl 0 rfl) ?_
    refine lv_iload_n hx hb dX11_within_6 rfl (lv_at hl 2 rfl) ?_
    refine lv_icmp_gt (tgt := 14) hx hb dX11_within_7 (by decide) (fun c_2 => ?_) (fun c_2 => ?_)
    · refine lv_iconst (v := 0) hx hb dX11_within_14 (by decide) ?_
      exact W.zret (v := 0) (ty := .boolean) hx hb hr rfl (fun t ht hW => ⟨⟨0, (), rfl, (wi_h (i_nle c_2)).symm, trivial⟩, hS.F ht⟩) hS.2.2 dX11_within_15
    · refine lv_iconst (v := 1) hx hb dX11_within_10 (by decide) ?_
      refine lv_goto (tgt := 15) hx hb dX11_within_11 (by decide) ?_
      exact W.zret (v := 1) (ty := .boolean) hx hb hr rfl (fun t ht hW => ⟨⟨1, (), rfl, (wi_y (i_ge c_1) (i_ge c_2)).symm, trivial⟩, hS.F ht⟩) hS.2.2 dX11_within_15
theorem dX12_within_0 : decode cX12_within 0 = .ok (.iload_n 0, 1) := by decide +kernel
theorem dX12_within_1 : decode cX12_within 1 = .ok (.iload_n 1, 1) := by decide +kernel
theorem dX12_within_10 : decode cX12_within 10 = .ok (.iconst 1, 1) := by decide +kernel
theorem dX12_within_11 : decode cX12_within 11 = .ok (.goto 4, 3) := by decide +kernel
theorem dX12_within_14 : decode cX12_within 14 = .ok (.iconst 0, 1) := by decide +kernel
theorem dX12_within_15 : decode cX12_within 15 = .ok (.ireturn, 1) := by decide +kernel
theorem dX12_within_2 : decode cX12_within 2 = .ok (.if_icmp .lt 12, 3) := by decide +kernel
theorem dX12_within_5 : decode cX12_within 5 = .ok (.iload_n 0, 1) := by decide +kernel
theorem dX12_within_6 : decode cX12_within 6 = .ok (.iload_n 2, 1) := by decide +kernel
theorem dX12_within_7 : decode cX12_within 7 = .ok (.if_icmp .gt 7, 3) := by decide +kernel
set_option maxHeartbeats 4000000 in
set_option maxRecDepth 100000 in
/-- value within two bounds -/
theorem c_X12_within (l : Launch) (D : va_G) (cT : Nat → ClassId) (v : Int32) (lo : Int32) (hi : Int32) (sz : Nat)  : Met l yX12_within wsX12_within ({ frames := 8, cells := 0, slots := 0, locals := 160 }) (va_Pc [.int v, .int lo, .int hi] (PW D cT [] sz)) (va_Qi (fun (r : Int32) (_ : Unit) => r = wi v lo hi) (fun (_ : Unit) (_ : State) => True) (va_A [] sz)) 0 0 (va_A [] sz) := by
  refine Met.ofW (cc := cX12_within) (maxL := 3) (ret := (some .boolean)) (by decide) rfl ?_
  intro p e s m args below meth c s₁ B hml hv
  obtain ⟨rfl, hsz, hP, hK, hD0, hG⟩ := hv
  have hx := B.exec
  have hb := B.bytes
  have hr := B.returns
  have hts := atoms_spec (ws := wsX12_within) B.pre
  have hown : s.vm.findClass RX12 = some m.cls := findClass_of_methodNamed B.named
  have hlocks := B.notSynchronized
  subst hsz
  have hD := hD0.self (sz := s.heap.size)
  generalize hAe : va_A [] s.heap.size = A at hD ⊢
  have hA : ∀ q : Nat, s.heap.size ≤ q → A q := fun q h => by rw [← hAe]; exact Or.inr h
  have hS : va_S A s.heap s.heap [] := va_S.rf
  have hP : va_P D vwCl [] s.heap := hP
  have hl := lv_entry ([.int v, .int lo, .int hi]) (n := 3) (Nat.le_of_ble_eq_true rfl)
  rw [lg_entry_eq]
  generalize (lg_sl ([.int v, .int lo, .int hi]) ++ List.replicate (3 - (lg_sl ([.int v, .int lo, .int hi])).length) Slot.unset).toArray = ls at hl ⊢
  have hl : lv_has ls 3 [(0, .int v), (1, .int lo), (2, .int hi)] := hl
  refine lv_iload_n hx hb dX12_within_0 rfl (lv_at hl 0 rfl) ?_
  refine lv_iload_n hx hb dX12_within_1 rfl (lv_at hl 1 rfl) ?_
  refine lv_icmp_lt (tgt := 14) hx hb dX12_within_2 (by decide) (fun c_1 => ?_) (fun c_1 => ?_)
  · refine lv_iconst (v := 0) hx hb dX12_within_14 (by decide) ?_
    exact W.zret (v := 0) (ty := .boolean) hx hb hr rfl (fun t ht hW => ⟨⟨0, (), rfl, (wi_l (i_nle c_1)).symm, trivial⟩, hS.F ht⟩) hS.2.2 dX12_within_15
  · refine lv_iload_n hx hb dX12_within_5 rfl (lv_at hl 0 rfl) ?_
    refine lv_iload_n hx hb dX12_within_6 rfl (lv_at hl 2 rfl) ?_
    refine lv_icmp_gt (tgt := 14) hx hb dX12_within_7 (by decide) (fun c_2 => ?_) (fun c_2 => ?_)
    · refine lv_iconst (v := 0) hx hb dX12_within_14 (by decide) ?_
      exact W.zret (v := 0) (ty := .boolean) hx hb hr rfl (fun t ht hW => ⟨⟨0, (), rfl, (wi_h (i_nle c_2)).symm, trivial⟩, hS.F ht⟩) hS.2.2 dX12_within_15
    · refine lv_iconst (v := 1) hx hb dX12_within_10 (by decide) ?_
      refine lv_goto (tgt := 15) hx hb dX12_within_11 (by decide) ?_
      exact W.zret (v := 1) (ty := .boolean) hx hb hr rfl (fun t ht hW => ⟨⟨1, (), rfl, (wi_y (i_ge c_1) (i_ge c_2)).symm, trivial⟩, hS.F ht⟩) hS.2.2 dX12_within_15
theorem dX11_need_0 : decode cX11_need 0 = .ok (.iload_n 0, 1) := by decide +kernel
theorem dX11_need_1 : decode cX11_need 1 = .ok (.ifCond .ne 14, 3) := by decide +kernel
theorem dX11_need_11 : decode cX11_need 11 = .ok (.invokespecial 196, 3) := by decide +kernel
theorem dX11_need_14 : decode cX11_need 14 = .ok (.athrow, 1) := by decide +kernel
theorem dX11_need_15 : decode cX11_need 15 = .ok (.return_, 1) := by decide +kernel
theorem dX11_need_4 : decode cX11_need 4 = .ok (.new 192, 3) := by decide +kernel
theorem dX11_need_7 : decode cX11_need 7 = .ok (.dup, 1) := by decide +kernel
theorem dX11_need_8 : decode cX11_need 8 = .ok (.ldc_w 274, 3) := by decide +kernel
set_option maxHeartbeats 4000000 in
set_option maxRecDepth 100000 in
/-- need: returns on true, throws on false -/
theorem c_X11_need (l : Launch) (hst : l.stackTraces = false) (D : va_G) (cT : Nat → ClassId) (b9 : Int32) (sz : Nat)  : vx_Met l yX11_need wsX11_need ({ frames := 8, cells := 1, slots := 6, locals := 160 }) (va_Pc [.int b9] (PZ D cT [] sz)) (va_Qv (fun _ : Unit => ¬ b9 = 0) (fun (_ : Unit) (_ : State) => True) (va_A [] sz)) (vx_X (fun _ : Unit => True) (fun (E : String) (_ : Unit) (_ : State) => (E = "java/lang/IllegalArgumentException" ∧ b9 = 0)) (va_A [] sz)) 1 6 (va_A [] sz) := by
  refine vx_ofW (cc := cX11_need) (maxL := 1) (ret := none) (by decide) rfl ?_
  intro p e s m args below meth c s₁ B hml hex hv
  obtain ⟨rfl, ⟨hsz, hP, hK, hD0, hG⟩, hZ⟩ := hv
  have hx := B.exec
  have hb := B.bytes
  have hr := B.returns
  have hts := atoms_spec (ws := wsX11_need) B.pre
  have hown : s.vm.findClass RX11 = some m.cls := findClass_of_methodNamed B.named
  have hlocks := B.notSynchronized
  subst hsz
  have hD := hD0.self (sz := s.heap.size)
  generalize hAe : va_A [] s.heap.size = A at hD hZ ⊢
  have hA : ∀ q : Nat, s.heap.size ≤ q → A q := fun q h => by rw [← hAe]; exact Or.inr h
  have hS : va_S A s.heap s.heap [] := va_S.rf
  have hP : va_P D vwCl [] s.heap := hP
  have hl := lv_entry ([.int b9]) (n := 1) (Nat.le_of_ble_eq_true rfl)
  rw [lg_entry_eq]
  generalize (lg_sl ([.int b9]) ++ List.replicate (1 - (lg_sl ([.int b9])).length) Slot.unset).toArray = ls at hl ⊢
  have hl : lv_has ls 1 [(0, .int b9)] := hl
  refine lv_iload_n hx hb dX11_need_0 rfl (lv_at hl 0 rfl) ?_
  refine lv_if_ne (tgt := 15) hx hb dX11_need_1 (by decide) (fun c_1 => ?_) (fun c_1 => ?_)
  · refine vx_ret ?_
    refine W.widen (k := 1) (n := 6) (Nat.le_of_ble_eq_true rfl) (Nat.le_of_ble_eq_true rfl) ?_
    exact W.vret hx hb hr (fun t ht hW => ⟨⟨(), rfl, c_1, trivial⟩, hS.F ht⟩) hS.2.2 dX11_need_15
  · obtain ⟨sa9, hsa9⟩ := hG.2.2.2.1 (274, "none such") (by decide +kernel)
    exact vx_throwSW (own := RX11) (cls := "java/lang/IllegalArgumentException") (text := "none such") (names := ["java/lang/RuntimeException", "java/lang/Exception"]) (ik := 192) (is := 274) (ic := 196) (A := A) hx hb hst hown (by decide +kernel) (by decide +kernel) (hts (.classLink RX11 192 "java/lang/IllegalArgumentException") (List.mem_of_getElem? (i := 1) (by decide +kernel))) (hts (.initialized "java/lang/IllegalArgumentException") (List.mem_of_getElem? (i := 2) (by decide +kernel))) hsa9 (vx_hat (fun w h => hts w (List.mem_cons_of_mem _ (List.mem_append_right _ h))) (by decide +kernel) (gwB_any hG)) (by decide +kernel) hZ.1 hZ.2 hS (hl.1.trans hml.symm) dX11_need_4 dX11_need_7 dX11_need_8 dX11_need_11 dX11_need_14 (fun x hx9 => (hex x hx9).elim) (Nat.le_of_ble_eq_true rfl) (Nat.le_of_ble_eq_true rfl) (Nat.le_of_ble_eq_true rfl) (Nat.le_of_ble_eq_true rfl) hlocks (fun t hA9 h1 h2 => ⟨(), trivial, ⟨rfl, c_1⟩, Nat.le_trans hS.1 h1, fun q hq hA => (h2 q (Nat.lt_of_lt_of_le hq hS.1)).trans (hS.2.1 q hq hA)⟩) hS.2.2 (Nat.le_of_ble_eq_true rfl) (Nat.le_of_ble_eq_true rfl)
theorem dX11_entry_0 : decode cX11_entry 0 = .ok (.iload_n 1, 1) := by decide +kernel
theorem dX11_entry_1 : decode cX11_entry 1 = .ok (.ifCond .lt 15, 3) := by decide +kernel
theorem dX11_entry_10 : decode cX11_entry 10 = .ok (.aload_n 0, 1) := by decide +kernel
theorem dX11_entry_11 : decode cX11_entry 11 = .ok (.iload_n 1, 1) := by decide +kernel
theorem dX11_entry_12 : decode cX11_entry 12 = .ok (.iaload, 1) := by decide +kernel
theorem dX11_entry_13 : decode cX11_entry 13 = .ok (.goto 4, 3) := by decide +kernel
theorem dX11_entry_16 : decode cX11_entry 16 = .ok (.iload_n 2, 1) := by decide +kernel
theorem dX11_entry_17 : decode cX11_entry 17 = .ok (.ireturn, 1) := by decide +kernel
theorem dX11_entry_4 : decode cX11_entry 4 = .ok (.iload_n 1, 1) := by decide +kernel
theorem dX11_entry_5 : decode cX11_entry 5 = .ok (.aload_n 0, 1) := by decide +kernel
theorem dX11_entry_6 : decode cX11_entry 6 = .ok (.arraylength, 1) := by decide +kernel
theorem dX11_entry_7 : decode cX11_entry 7 = .ok (.if_icmp .ge 9, 3) := by decide +kernel
set_option maxHeartbeats 4000000 in
set_option maxRecDepth 100000 in
/-- an entry of a row, or what stands for none -/
theorem c_X11_entry (l : Launch) (D : va_G) (cT : Nat → ClassId) (h0 : Nat) (n : Nat) (f : Nat → Int32) (at9 : Int32) (w9 : Int32) (sz : Nat) (hn : n < 2147483648) : Met l yX11_entry wsX11_entry ({ frames := 8, cells := 0, slots := 0, locals := 160 }) (va_Pc [.ref h0, .int at9, .int w9] (PW D cT [(h0, .inl (cT 0, n, .inl f))] sz)) (va_Qi (fun (r : Int32) (_ : Unit) => r = ent f n at9 w9) (fun (_ : Unit) (t : State) => va_P D vwCl [(h0, .inl (cT 0, n, .inl f))] t.heap ∧ va_D (va_A [(h0, .inl (cT 0, n, .inl f))] sz) [(h0, .inl (cT 0, n, .inl f))]) (va_A [(h0, .inl (cT 0, n, .inl f))] sz)) 0 0 (va_A [(h0, .inl (cT 0, n, .inl f))] sz) := by
  refine Met.ofW (cc := cX11_entry) (maxL := 3) (ret := (some .int)) (by decide) rfl ?_
  intro p e s m args below meth c s₁ B hml hv
  obtain ⟨rfl, hsz, hP, hK, hD0, hG⟩ := hv
  have hx := B.exec
  have hb := B.bytes
  have hr := B.returns
  have hts := atoms_spec (ws := wsX11_entry) B.pre
  have hown : s.vm.findClass RX11 = some m.cls := findClass_of_methodNamed B.named
  have hlocks := B.notSynchronized
  subst hsz
  have hD := hD0.self (sz := s.heap.size)
  generalize hAe : va_A [(h0, .inl (cT 0, n, .inl f))] s.heap.size = A at hD ⊢
  have hA : ∀ q : Nat, s.heap.size ≤ q → A q := fun q h => by rw [← hAe]; exact Or.inr h
  have hS : va_S A s.heap s.heap [] := va_S.rf
  have hP : va_P D vwCl [(h0, .inl (cT 0, n, .inl f))] s.heap := hP
  have hl := lv_entry ([.ref h0, .int at9, .int w9]) (n := 3) (Nat.le_of_ble_eq_true rfl)
  rw [lg_entry_eq]
  generalize (lg_sl ([.ref h0, .int at9, .int w9]) ++ List.replicate (3 - (lg_sl ([.ref h0, .int at9, .int w9])).length) Slot.unset).toArray = ls at hl ⊢
  have hl : lv_has ls 3 [(0, .ref h0), (1, .int at9), (2, .int w9)] := hl
  refine lv_iload_n hx hb dX11_entry_0 rfl (lv_at hl 1 rfl) ?_
  refine lv_if_lt (tgt := 16) hx hb dX11_entry_1 (by decide) (fun c_1 => ?_) (fun c_1 => ?_)
  · refine lv_iload_n hx hb dX11_entry_16 rfl (lv_at hl 2 rfl) ?_
    have hP9 := hP.sub (ws' := [(h0, .inl (cT 0, n, .inl f))]) [0] rfl
    have hD9 := hD.sub (ws' := [(h0, .inl (cT 0, n, .inl f))]) [0] (by decide) rfl
    exact W.iret (v := w9) hx hb hr (fun t ht hW => ⟨⟨w9, (), rfl, (if_neg (fun g => i_nle c_1 g.1)).symm, ⟨by rw [ht]; exact hP9, hD9⟩⟩, hS.F ht⟩) hS.2.2 dX11_entry_17
  · refine lv_iload_n hx hb dX11_entry_4 rfl (lv_at hl 1 rfl) ?_
    refine lv_aload_n hx hb dX11_entry_5 rfl (lv_at hl 0 rfl) ?_
    refine va_alen (v := nI n) hx hb hK hP 0 0 rfl rfl rfl dX11_entry_6 ?_
    refine lv_icmp_ge (tgt := 16) hx hb dX11_entry_7 (by decide) (fun c_2 => ?_) (fun c_2 => ?_)
    · refine lv_iload_n hx hb dX11_entry_16 rfl (lv_at hl 2 rfl) ?_
      have hP9 := hP.sub (ws' := [(h0, .inl (cT 0, n, .inl f))]) [0] rfl
      have hD9 := hD.sub (ws' := [(h0, .inl (cT 0, n, .inl f))]) [0] (by decide) rfl
      exact W.iret (v := w9) hx hb hr (fun t ht hW => ⟨⟨w9, (), rfl, (if_neg (fun g => i_nle g.2 c_2)).symm, ⟨by rw [ht]; exact hP9, hD9⟩⟩, hS.F ht⟩) hS.2.2 dX11_entry_17
    · refine lv_aload_n hx hb dX11_entry_10 rfl (lv_at hl 0 rfl) ?_
      refine lv_iload_n hx hb dX11_entry_11 rfl (lv_at hl 1 rfl) ?_
      refine va_iald hx hb hK hP 0 0 rfl rfl (vin_nI hn (i_ge c_1) (i_lt c_2)) dX11_entry_12 ?_
      refine lv_topi (fun x_3 ex_3 => ?_)
      refine lv_goto (tgt := 17) hx hb dX11_entry_13 (by decide) ?_
      have hP9 := hP.sub (ws' := [(h0, .inl (cT 0, n, .inl f))]) [0] rfl
      have hD9 := hD.sub (ws' := [(h0, .inl (cT 0, n, .inl f))]) [0] (by decide) rfl
      exact W.iret (v := x_3) hx hb hr (fun t ht hW => ⟨⟨x_3, (), rfl, ex_3.trans (if_pos ⟨i_ge c_1, (i_lt c_2)⟩).symm, ⟨by rw [ht]; exact hP9, hD9⟩⟩, hS.F ht⟩) hS.2.2 dX11_entry_17
theorem dX11_swapIn_0 : decode cX11_swapIn 0 = .ok (.iload_n 1, 1) := by decide +kernel
theorem dX11_swapIn_1 : decode cX11_swapIn 1 = .ok (.ifCond .lt 9, 3) := by decide +kernel
theorem dX11_swapIn_10 : decode cX11_swapIn 10 = .ok (.iconst (-1), 1) := by decide +kernel
theorem dX11_swapIn_11 : decode cX11_swapIn 11 = .ok (.ireturn, 1) := by decide +kernel
theorem dX11_swapIn_12 : decode cX11_swapIn 12 = .ok (.aload_n 0, 1) := by decide +kernel
theorem dX11_swapIn_13 : decode cX11_swapIn 13 = .ok (.iload_n 1, 1) := by decide +kernel
theorem dX11_swapIn_14 : decode cX11_swapIn 14 = .ok (.iaload, 1) := by decide +kernel
theorem dX11_swapIn_15 : decode cX11_swapIn 15 = .ok (.istore_n 3, 1) := by decide +kernel
theorem dX11_swapIn_16 : decode cX11_swapIn 16 = .ok (.aload_n 0, 1) := by decide +kernel
theorem dX11_swapIn_17 : decode cX11_swapIn 17 = .ok (.iload_n 1, 1) := by decide +kernel
theorem dX11_swapIn_18 : decode cX11_swapIn 18 = .ok (.iload_n 2, 1) := by decide +kernel
theorem dX11_swapIn_19 : decode cX11_swapIn 19 = .ok (.iastore, 1) := by decide +kernel
theorem dX11_swapIn_20 : decode cX11_swapIn 20 = .ok (.iload_n 3, 1) := by decide +kernel
theorem dX11_swapIn_21 : decode cX11_swapIn 21 = .ok (.ireturn, 1) := by decide +kernel
theorem dX11_swapIn_4 : decode cX11_swapIn 4 = .ok (.iload_n 1, 1) := by decide +kernel
theorem dX11_swapIn_5 : decode cX11_swapIn 5 = .ok (.aload_n 0, 1) := by decide +kernel
theorem dX11_swapIn_6 : decode cX11_swapIn 6 = .ok (.arraylength, 1) := by decide +kernel
theorem dX11_swapIn_7 : decode cX11_swapIn 7 = .ok (.if_icmp .lt 5, 3) := by decide +kernel
set_option maxHeartbeats 4000000 in
set_option maxRecDepth 100000 in
/-- an entry of a row, another in its place -/
theorem c_X11_swapIn (l : Launch) (D : va_G) (cT : Nat → ClassId) (h0 : Nat) (n : Nat) (f : Nat → Int32) (at9 : Int32) (v9 : Int32) (sz : Nat) (hn : n < 2147483648) : Met l yX11_swapIn wsX11_swapIn ({ frames := 8, cells := 0, slots := 0, locals := 160 }) (va_Pc [.ref h0, .int at9, .int v9] (PW D cT [(h0, .inl (cT 0, n, .inl f))] sz)) (va_Qi (fun (r : Int32) (_ : Unit) => r = ent f n at9 (-1)) (fun (_ : Unit) (t : State) => ∃ (g9 : Nat → Int32), va_P D vwCl [(h0, .inl (cT 0, n, .inl g9))] t.heap ∧ va_D (va_A [(h0, .inl (cT 0, n, .inl f))] sz) [(h0, .inl (cT 0, n, .inl g9))]) (va_A [(h0, .inl (cT 0, n, .inl f))] sz)) 0 0 (va_A [(h0, .inl (cT 0, n, .inl f))] sz) := by
  refine Met.ofW (cc := cX11_swapIn) (maxL := 4) (ret := (some .int)) (by decide) rfl ?_
  intro p e s m args below meth c s₁ B hml hv
  obtain ⟨rfl, hsz, hP, hK, hD0, hG⟩ := hv
  have hx := B.exec
  have hb := B.bytes
  have hr := B.returns
  have hts := atoms_spec (ws := wsX11_swapIn) B.pre
  have hown : s.vm.findClass RX11 = some m.cls := findClass_of_methodNamed B.named
  have hlocks := B.notSynchronized
  subst hsz
  have hD := hD0.self (sz := s.heap.size)
  generalize hAe : va_A [(h0, .inl (cT 0, n, .inl f))] s.heap.size = A at hD ⊢
  have hA : ∀ q : Nat, s.heap.size ≤ q → A q := fun q h => by rw [← hAe]; exact Or.inr h
  have hS : va_S A s.heap s.heap [] := va_S.rf
  have hP : va_P D vwCl [(h0, .inl (cT 0, n, .inl f))] s.heap := hP
  have hl := lv_entry ([.ref h0, .int at9, .int v9]) (n := 4) (Nat.le_of_ble_eq_true rfl)
  rw [lg_entry_eq]
  generalize (lg_sl ([.ref h0, .int at9, .int v9]) ++ List.replicate (4 - (lg_sl ([.ref h0, .int at9, .int v9])).length) Slot.unset).toArray = ls at hl ⊢
  have hl : lv_has ls 4 [(0, .ref h0), (1, .int at9), (2, .int v9)] := hl
  refine lv_iload_n hx hb dX11_swapIn_0 rfl (lv_at hl 1 rfl) ?_
  refine lv_if_lt (tgt := 10) hx hb dX11_swapIn_1 (by decide) (fun c_1 => ?_) (fun c_1 => ?_)
  · refine lv_iconst (v := (-1)) hx hb dX11_swapIn_10 (by decide) ?_
    have hP9 := hP.sub (ws' := [(h0, .inl (cT 0, n, .inl f))]) [0] rfl
    have hD9 := hD.sub (ws' := [(h0, .inl (cT 0, n, .inl f))]) [0] (by decide) rfl
    exact W.iret (v := (-1)) hx hb hr (fun t ht hW => ⟨⟨(-1), (), rfl, (if_neg (fun g => i_nle c_1 g.1)).symm, ⟨f, by rw [ht]; exact hP9, hD9⟩⟩, hS.F ht⟩) hS.2.2 dX11_swapIn_11
  · refine lv_iload_n hx hb dX11_swapIn_4 rfl (lv_at hl 1 rfl) ?_
    refine lv_aload_n hx hb dX11_swapIn_5 rfl (lv_at hl 0 rfl) ?_
    refine va_alen (v := nI n) hx hb hK hP 0 0 rfl rfl rfl dX11_swapIn_6 ?_
    refine lv_icmp_lt (tgt := 12) hx hb dX11_swapIn_7 (by decide) (fun c_2 => ?_) (fun c_2 => ?_)
    · refine lv_aload_n hx hb dX11_swapIn_12 rfl (lv_at hl 0 rfl) ?_
      refine lv_iload_n hx hb dX11_swapIn_13 rfl (lv_at hl 1 rfl) ?_
      refine va_iald hx hb hK hP 0 0 rfl rfl (vin_nI hn (i_ge c_1) c_2) dX11_swapIn_14 ?_
      refine lv_topi (fun x_3 ex_3 => ?_)
      refine lv_istore_n (lv' := [(3, .int x_3), (0, .ref h0), (1, .int at9), (2, .int v9)]) hx hb dX11_swapIn_15 rfl hl (by decide) rfl (fun ls hl => ?_)
      refine lv_aload_n hx hb dX11_swapIn_16 rfl (lv_at hl 1 rfl) ?_
      refine lv_iload_n hx hb dX11_swapIn_17 rfl (lv_at hl 2 rfl) ?_
      refine lv_iload_n hx hb dX11_swapIn_18 rfl (lv_at hl 3 rfl) ?_
      refine va_iast hx hb hK hP hD hS 0 0 rfl rfl (vin_nI hn (i_ge c_1) c_2) dX11_swapIn_19 (fun H locs hP hD hS => ?_)
      have hP : va_P D vwCl [(h0, .inl (cT 0, n, .inl (upd f (at9.toNatClampNeg) v9)))] _ := hP
      have hD : va_D A [(h0, .inl (cT 0, n, .inl (upd f (at9.toNatClampNeg) v9)))] := hD
      refine lv_iload_n hx hb dX11_swapIn_20 rfl (lv_at hl 0 rfl) ?_
      have hP9 := hP.sub (ws' := [(h0, .inl (cT 0, n, .inl (upd f (at9.toNatClampNeg) v9)))]) [0] rfl
      have hD9 := hD.sub (ws' := [(h0, .inl (cT 0, n, .inl (upd f (at9.toNatClampNeg) v9)))]) [0] (by decide) rfl
      exact W.iret (v := x_3) hx hb hr (fun t ht hW => ⟨⟨x_3, (), rfl, ex_3.trans (if_pos ⟨i_ge c_1, c_2⟩).symm, ⟨(upd f (at9.toNatClampNeg) v9), by rw [ht]; exact hP9, hD9⟩⟩, hS.F ht⟩) hS.2.2 dX11_swapIn_21
    · refine lv_iconst (v := (-1)) hx hb dX11_swapIn_10 (by decide) ?_
      have hP9 := hP.sub (ws' := [(h0, .inl (cT 0, n, .inl f))]) [0] rfl
      have hD9 := hD.sub (ws' := [(h0, .inl (cT 0, n, .inl f))]) [0] (by decide) rfl
      exact W.iret (v := (-1)) hx hb hr (fun t ht hW => ⟨⟨(-1), (), rfl, (if_neg (fun g => i_nle g.2 (i_ge c_2))).symm, ⟨f, by rw [ht]; exact hP9, hD9⟩⟩, hS.F ht⟩) hS.2.2 dX11_swapIn_11
theorem dX11_needUnit_0 : decode cX11_needUnit 0 = .ok (.iload_n 0, 1) := by decide +kernel
theorem dX11_needUnit_1 : decode cX11_needUnit 1 = .ok (.iconst 0, 1) := by decide +kernel
theorem dX11_needUnit_12 : decode cX11_needUnit 12 = .ok (.dup, 1) := by decide +kernel
theorem dX11_needUnit_13 : decode cX11_needUnit 13 = .ok (.ldc_w 417, 3) := by decide +kernel
theorem dX11_needUnit_16 : decode cX11_needUnit 16 = .ok (.invokespecial 350, 3) := by decide +kernel
theorem dX11_needUnit_19 : decode cX11_needUnit 19 = .ok (.athrow, 1) := by decide +kernel
theorem dX11_needUnit_2 : decode cX11_needUnit 2 = .ok (.iconst 2, 1) := by decide +kernel
theorem dX11_needUnit_20 : decode cX11_needUnit 20 = .ok (.return_, 1) := by decide +kernel
theorem dX11_needUnit_3 : decode cX11_needUnit 3 = .ok (.invokestatic 97, 3) := by decide +kernel
theorem dX11_needUnit_6 : decode cX11_needUnit 6 = .ok (.ifCond .ne 14, 3) := by decide +kernel
theorem dX11_needUnit_9 : decode cX11_needUnit 9 = .ok (.new 346, 3) := by decide +kernel
set_option maxRecDepth 20000 in
theorem ggX11_needUnit_X11_within : GoodIn wsX11_needUnit wsX11_within := goodIn_r _ [6] (by decide +kernel) (by decide +kernel)
set_option maxRecDepth 20000 in
theorem gX11_needUnit_X11_within : GoodIn wsX11_needUnit (va_wsS RX11 97 yX11_within wsX11_within) := goodIn_app (goodIn_of _ (by decide +kernel)) ggX11_needUnit_X11_within
set_option maxHeartbeats 4000000 in
set_option maxRecDepth 100000 in
/-- needUnit -/
theorem c_X11_needUnit (l : Launch) (hst : l.stackTraces = false) (D : va_G) (cT : Nat → ClassId) (u9 : Int32) (sz : Nat)  : vx_Met l yX11_needUnit wsX11_needUnit ({ frames := 9, cells := 1, slots := 6, locals := 220 }) (va_Pc [.int u9] (PZ D cT [] sz)) (va_Qv (fun _ : Unit => ¬ wi u9 0 2 = 0) (fun (_ : Unit) (_ : State) => True) (va_A [] sz)) (vx_X (fun _ : Unit => True) (fun (E : String) (_ : Unit) (_ : State) => (E = "java/lang/IndexOutOfBoundsException" ∧ wi u9 0 2 = 0)) (va_A [] sz)) 1 6 (va_A [] sz) := by
  refine vx_ofW (cc := cX11_needUnit) (maxL := 1) (ret := none) (by decide) rfl ?_
  intro p e s m args below meth c s₁ B hml hex hv
  obtain ⟨rfl, ⟨hsz, hP, hK, hD0, hG⟩, hZ⟩ := hv
  have hx := B.exec
  have hb := B.bytes
  have hr := B.returns
  have hts := atoms_spec (ws := wsX11_needUnit) B.pre
  have hown : s.vm.findClass RX11 = some m.cls := findClass_of_methodNamed B.named
  have hlocks := B.notSynchronized
  subst hsz
  have hD := hD0.self (sz := s.heap.size)
  generalize hAe : va_A [] s.heap.size = A at hD hZ ⊢
  have hA : ∀ q : Nat, s.heap.size ≤ q → A q := fun q h => by rw [← hAe]; exact Or.inr h
  have hS : va_S A s.heap s.heap [] := va_S.rf
  have hP : va_P D vwCl [] s.heap := hP
  have hl := lv_entry ([.int u9]) (n := 1) (Nat.le_of_ble_eq_true rfl)
  rw [lg_entry_eq]
  generalize (lg_sl ([.int u9]) ++ List.replicate (1 - (lg_sl ([.int u9])).length) Slot.unset).toArray = ls at hl ⊢
  have hl : lv_has ls 1 [(0, .int u9)] := hl
  refine lv_iload_n hx hb dX11_needUnit_0 rfl (lv_at hl 0 rfl) ?_
  refine lv_iconst (v := 0) hx hb dX11_needUnit_1 (by decide) ?_
  refine lv_iconst (v := 2) hx hb dX11_needUnit_2 (by decide) ?_
  have hF := va_free (wc := []) hD hS hA [] rfl
  refine va_calli (va_runS (As := [.int u9, .int 0, .int 2]) (rest := []) ⟨hx, hb, hml, hown, hts⟩ (c_X11_within l D cT u9 0 2 _ ) (va_cwS 3 hts gX11_needUnit_X11_within rfl rfl rfl (by decide +kernel) ⟨Nat.le_of_ble_eq_true rfl, Nat.le_of_ble_eq_true rfl⟩) (ps_w hP hD hK hG [] rfl rfl rfl) rfl rfl hl.1 rfl (lv_room (Nat.le_of_ble_eq_true rfl)) dX11_needUnit_3 ⟨Nat.le_of_ble_eq_true rfl, Nat.le_of_ble_eq_true rfl⟩) hS (fun q _ h => hF q h) hF (fun r_1 uu9 tt9 H locs ht hvm wr_1 hB hz1 hk1 hS => ?_)
  obtain ⟨hP, hD⟩ := va_join (wr := []) (w1 := []) hP hD [] [] rfl rfl (by decide) (by decide) hk1 hF vp_nil vd_nil
  have hP : va_P D vwCl [] _ := hP
  have hD : va_D A [] := hD
  have g9 := wi_01 u9 0 2
  rw [← wr_1] at g9
  rcases g9 with rfl | rfl
  · refine lv_if_ne (tgt := 20) hx hb dX11_needUnit_6 (by decide) (fun c9 => absurd c9 (by decide)) (fun _ => ?_)
    obtain ⟨sa9, hsa9⟩ := hG.2.2.2.1 (417, "no such UNIT") (by decide +kernel)
    exact vx_throwSW (own := RX11) (cls := "java/lang/IndexOutOfBoundsException") (text := "no such UNIT") (names := ["java/lang/RuntimeException", "java/lang/Exception"]) (ik := 346) (is := 417) (ic := 350) (A := A) hx hb hst hown (by decide +kernel) (by decide +kernel) (hts (.classLink RX11 346 "java/lang/IndexOutOfBoundsException") (List.mem_of_getElem? (i := 1) (by decide +kernel))) (hts (.initialized "java/lang/IndexOutOfBoundsException") (List.mem_of_getElem? (i := 2) (by decide +kernel))) hsa9 (vx_hat (fun w h => hts w (List.mem_cons_of_mem _ (List.mem_append_right _ h))) (by decide +kernel) (gwB_any hG)) (by decide +kernel) hZ.1 hZ.2 hS (hl.1.trans hml.symm) dX11_needUnit_9 dX11_needUnit_12 dX11_needUnit_13 dX11_needUnit_16 dX11_needUnit_19 (fun x hx9 => (hex x hx9).elim) (Nat.le_of_ble_eq_true rfl) (Nat.le_of_ble_eq_true rfl) (Nat.le_of_ble_eq_true rfl) (Nat.le_of_ble_eq_true rfl) hlocks (fun t hA9 h1 h2 => ⟨(), trivial, ⟨rfl, wr_1.symm⟩, Nat.le_trans hS.1 h1, fun q hq hA => (h2 q (Nat.lt_of_lt_of_le hq hS.1)).trans (hS.2.1 q hq hA)⟩) hS.2.2 (Nat.le_of_ble_eq_true rfl) (Nat.le_of_ble_eq_true rfl)
  · refine lv_if_ne (tgt := 20) hx hb dX11_needUnit_6 (by decide) (fun _ => ?_) (fun c9 => absurd c9 (by decide))
    refine vx_ret ?_
    refine W.widen (k := 1) (n := 6) (Nat.le_of_ble_eq_true rfl) (Nat.le_of_ble_eq_true rfl) ?_
    exact W.vret hx hb hr (fun t ht hW => ⟨⟨(), rfl, (by rw [← wr_1]; decide), trivial⟩, hS.F ht⟩) hS.2.2 dX11_needUnit_20
theorem dJ7_fill_53178_0 : decode cJ7_fill_53178 0 = .ok (.iconst 0, 1) := by decide +kernel
theorem dJ7_fill_53178_1 : decode cJ7_fill_53178 1 = .ok (.istore_n 2, 1) := by decide +kernel
theorem dJ7_fill_53178_10 : decode cJ7_fill_53178 10 = .ok (.aload_n 0, 1) := by decide +kernel
theorem dJ7_fill_53178_11 : decode cJ7_fill_53178 11 = .ok (.iload_n 2, 1) := by decide +kernel
theorem dJ7_fill_53178_12 : decode cJ7_fill_53178 12 = .ok (.iload_n 1, 1) := by decide +kernel
theorem dJ7_fill_53178_13 : decode cJ7_fill_53178 13 = .ok (.iastore, 1) := by decide +kernel
theorem dJ7_fill_53178_14 : decode cJ7_fill_53178 14 = .ok (.iinc 2 1, 3) := by decide +kernel
theorem dJ7_fill_53178_17 : decode cJ7_fill_53178 17 = .ok (.goto (-12), 3) := by decide +kernel
theorem dJ7_fill_53178_2 : decode cJ7_fill_53178 2 = .ok (.aload_n 0, 1) := by decide +kernel
theorem dJ7_fill_53178_20 : decode cJ7_fill_53178 20 = .ok (.return_, 1) := by decide +kernel
theorem dJ7_fill_53178_3 : decode cJ7_fill_53178 3 = .ok (.arraylength, 1) := by decide +kernel
theorem dJ7_fill_53178_4 : decode cJ7_fill_53178 4 = .ok (.istore_n 3, 1) := by decide +kernel
theorem dJ7_fill_53178_5 : decode cJ7_fill_53178 5 = .ok (.iload_n 2, 1) := by decide +kernel
theorem dJ7_fill_53178_6 : decode cJ7_fill_53178 6 = .ok (.iload_n 3, 1) := by decide +kernel
theorem dJ7_fill_53178_7 : decode cJ7_fill_53178 7 = .ok (.if_icmp .ge 13, 3) := by decide +kernel
set_option maxHeartbeats 4000000 in
set_option maxRecDepth 100000 in
/-- Arrays.fill of 3 ints -/
theorem c_fill_3 (l : Launch) (D : va_G) (cT : Nat → ClassId) (h0 : Nat) (f : Nat → Int32) (v9 : Int32) (sz : Nat)  : Met l yJ7_fill_53178 wsJ7_fill_53178 ({ frames := 8, cells := 0, slots := 0, locals := 160 }) (va_Pc [.ref h0, .int v9] (PW D cT [(h0, .inl (cT 0, 3, .inl f))] sz)) (va_Qv (fun _ : Unit => True) (fun (_ : Unit) (t : State) => va_P D vwCl [(h0, .inl (cT 0, 3, .inl (upd (upd (upd f 0 v9) 1 v9) 2 v9)))] t.heap ∧ va_D (va_A [(h0, .inl (cT 0, 3, .inl f))] sz) [(h0, .inl (cT 0, 3, .inl (upd (upd (upd f 0 v9) 1 v9) 2 v9)))]) (va_A [(h0, .inl (cT 0, 3, .inl f))] sz)) 0 0 (va_A [(h0, .inl (cT 0, 3, .inl f))] sz) := by
  refine Met.ofW (cc := cJ7_fill_53178) (maxL := 4) (ret := none) (by decide) rfl ?_
  intro p e s m args below meth c s₁ B hml hv
  obtain ⟨rfl, hsz, hP, hK, hD0, hG⟩ := hv
  have hx := B.exec
  have hb := B.bytes
  have hr := B.returns
  have hts := atoms_spec (ws := wsJ7_fill_53178) B.pre
  have hown : s.vm.findClass RJ7 = some m.cls := findClass_of_methodNamed B.named
  have hlocks := B.notSynchronized
  subst hsz
  have hD := hD0.self (sz := s.heap.size)
  generalize hAe : va_A [(h0, .inl (cT 0, 3, .inl f))] s.heap.size = A at hD ⊢
  have hA : ∀ q : Nat, s.heap.size ≤ q → A q := fun q h => by rw [← hAe]; exact Or.inr h
  have hS : va_S A s.heap s.heap [] := va_S.rf
  have hP : va_P D vwCl [(h0, .inl (cT 0, 3, .inl f))] s.heap := hP
  have hl := lv_entry ([.ref h0, .int v9]) (n := 4) (Nat.le_of_ble_eq_true rfl)
  rw [lg_entry_eq]
  generalize (lg_sl ([.ref h0, .int v9]) ++ List.replicate (4 - (lg_sl ([.ref h0, .int v9])).length) Slot.unset).toArray = ls at hl ⊢
  have hl : lv_has ls 4 [(0, .ref h0), (1, .int v9)] := hl
  refine lv_iconst (v := 0) hx hb dJ7_fill_53178_0 (by decide) ?_
  refine lv_istore_n (lv' := [(2, .int 0), (0, .ref h0), (1, .int v9)]) hx hb dJ7_fill_53178_1 rfl hl (by decide) rfl (fun ls hl => ?_)
  refine lv_aload_n hx hb dJ7_fill_53178_2 rfl (lv_at hl 1 rfl) ?_
  refine va_alen (v := 3) hx hb hK hP 0 0 rfl rfl rfl dJ7_fill_53178_3 ?_
  refine lv_istore_n (lv' := [(3, .int 3), (2, .int 0), (0, .ref h0), (1, .int v9)]) hx hb dJ7_fill_53178_4 rfl hl (by decide) rfl (fun ls hl => ?_)
  refine lv_iload_n hx hb dJ7_fill_53178_5 rfl (lv_at hl 1 rfl) ?_
  refine lv_iload_n hx hb dJ7_fill_53178_6 rfl (lv_at hl 0 rfl) ?_
  refine lv_icmp_ge (tgt := 20) hx hb dJ7_fill_53178_7 (by decide) (fun c9 => absurd c9 (by decide)) (fun _ => ?_)
  refine lv_aload_n hx hb dJ7_fill_53178_10 rfl (lv_at hl 2 rfl) ?_
  refine lv_iload_n hx hb dJ7_fill_53178_11 rfl (lv_at hl 1 rfl) ?_
  refine lv_iload_n hx hb dJ7_fill_53178_12 rfl (lv_at hl 3 rfl) ?_
  refine va_iast hx hb hK hP hD hS 0 0 rfl rfl (by unfold vp_in; decide) dJ7_fill_53178_13 (fun H locs hP hD hS => ?_)
  have hP : va_P D vwCl [(h0, .inl (cT 0, 3, .inl (upd f 0 v9)))] _ := hP
  have hD : va_D A [(h0, .inl (cT 0, 3, .inl (upd f 0 v9)))] := hD
  refine lv_iinc (v := 1) (lv' := [(2, .int 1), (3, .int 3), (0, .ref h0), (1, .int v9)]) hx hb dJ7_fill_53178_14 hl (k := 1) rfl (by decide) (by decide) rfl (fun ls hl => ?_)
  refine lv_goto (tgt := 5) hx hb dJ7_fill_53178_17 (by decide) ?_
  refine lv_iload_n hx hb dJ7_fill_53178_5 rfl (lv_at hl 0 rfl) ?_
  refine lv_iload_n hx hb dJ7_fill_53178_6 rfl (lv_at hl 1 rfl) ?_
  refine lv_icmp_ge (tgt := 20) hx hb dJ7_fill_53178_7 (by decide) (fun c9 => absurd c9 (by decide)) (fun _ => ?_)
  refine lv_aload_n hx hb dJ7_fill_53178_10 rfl (lv_at hl 2 rfl) ?_
  refine lv_iload_n hx hb dJ7_fill_53178_11 rfl (lv_at hl 0 rfl) ?_
  refine lv_iload_n hx hb dJ7_fill_53178_12 rfl (lv_at hl 3 rfl) ?_
  refine va_iast hx hb hK hP hD hS 0 0 rfl rfl (by unfold vp_in; decide) dJ7_fill_53178_13 (fun H locs hP hD hS => ?_)
  have hP : va_P D vwCl [(h0, .inl (cT 0, 3, .inl (upd (upd f 0 v9) 1 v9)))] _ := hP
  have hD : va_D A [(h0, .inl (cT 0, 3, .inl (upd (upd f 0 v9) 1 v9)))] := hD
  refine lv_iinc (v := 2) (lv' := [(2, .int 2), (3, .int 3), (0, .ref h0), (1, .int v9)]) hx hb dJ7_fill_53178_14 hl (k := 0) rfl (by decide) (by decide) rfl (fun ls hl => ?_)
  refine lv_goto (tgt := 5) hx hb dJ7_fill_53178_17 (by decide) ?_
  refine lv_iload_n hx hb dJ7_fill_53178_5 rfl (lv_at hl 0 rfl) ?_
  refine lv_iload_n hx hb dJ7_fill_53178_6 rfl (lv_at hl 1 rfl) ?_
  refine lv_icmp_ge (tgt := 20) hx hb dJ7_fill_53178_7 (by decide) (fun c9 => absurd c9 (by decide)) (fun _ => ?_)
  refine lv_aload_n hx hb dJ7_fill_53178_10 rfl (lv_at hl 2 rfl) ?_
  refine lv_iload_n hx hb dJ7_fill_53178_11 rfl (lv_at hl 0 rfl) ?_
  refine lv_iload_n hx hb dJ7_fill_53178_12 rfl (lv_at hl 3 rfl) ?_
  refine va_iast hx hb hK hP hD hS 0 0 rfl rfl (by unfold vp_in; decide) dJ7_fill_53178_13 (fun H locs hP hD hS => ?_)
  have hP : va_P D vwCl [(h0, .inl (cT 0, 3, .inl (upd (upd (upd f 0 v9) 1 v9) 2 v9)))] _ := hP
  have hD : va_D A [(h0, .inl (cT 0, 3, .inl (upd (upd (upd f 0 v9) 1 v9) 2 v9)))] := hD
  refine lv_iinc (v := 3) (lv' := [(2, .int 3), (3, .int 3), (0, .ref h0), (1, .int v9)]) hx hb dJ7_fill_53178_14 hl (k := 0) rfl (by decide) (by decide) rfl (fun ls hl => ?_)
  refine lv_goto (tgt := 5) hx hb dJ7_fill_53178_17 (by decide) ?_
  refine lv_iload_n hx hb dJ7_fill_53178_5 rfl (lv_at hl 0 rfl) ?_
  refine lv_iload_n hx hb dJ7_fill_53178_6 rfl (lv_at hl 1 rfl) ?_
  refine lv_icmp_ge (tgt := 20) hx hb dJ7_fill_53178_7 (by decide) (fun _ => ?_) (fun c9 => absurd c9 (by decide))
  have hP9 := hP.sub (ws' := [(h0, .inl (cT 0, 3, .inl (upd (upd (upd f 0 v9) 1 v9) 2 v9)))]) [0] rfl
  have hD9 := hD.sub (ws' := [(h0, .inl (cT 0, 3, .inl (upd (upd (upd f 0 v9) 1 v9) 2 v9)))]) [0] (by decide) rfl
  exact W.vret hx hb hr (fun t ht hW => ⟨⟨(), rfl, trivial, ⟨by rw [ht]; exact hP9, hD9⟩⟩, hS.F ht⟩) hS.2.2 dJ7_fill_53178_20
set_option maxHeartbeats 4000000 in
set_option maxRecDepth 100000 in
/-- Arrays.fill of 8 ints -/
theorem c_fill_8 (l : Launch) (D : va_G) (cT : Nat → ClassId) (h0 : Nat) (f : Nat → Int32) (v9 : Int32) (sz : Nat)  : Met l yJ7_fill_53178 wsJ7_fill_53178 ({ frames := 8, cells := 0, slots := 0, locals := 160 }) (va_Pc [.ref h0, .int v9] (PW D cT [(h0, .inl (cT 0, 8, .inl f))] sz)) (va_Qv (fun _ : Unit => True) (fun (_ : Unit) (t : State) => va_P D vwCl [(h0, .inl (cT 0, 8, .inl (upd (upd (upd (upd (upd (upd (upd (upd f 0 v9) 1 v9) 2 v9) 3 v9) 4 v9) 5 v9) 6 v9) 7 v9)))] t.heap ∧ va_D (va_A [(h0, .inl (cT 0, 8, .inl f))] sz) [(h0, .inl (cT 0, 8, .inl (upd (upd (upd (upd (upd (upd (upd (upd f 0 v9) 1 v9) 2 v9) 3 v9) 4 v9) 5 v9) 6 v9) 7 v9)))]) (va_A [(h0, .inl (cT 0, 8, .inl f))] sz)) 0 0 (va_A [(h0, .inl (cT 0, 8, .inl f))] sz) := by
  refine Met.ofW (cc := cJ7_fill_53178) (maxL := 4) (ret := none) (by decide) rfl ?_
  intro p e s m args below meth c s₁ B hml hv
  obtain ⟨rfl, hsz, hP, hK, hD0, hG⟩ := hv
  have hx := B.exec
  have hb := B.bytes
  have hr := B.returns
  have hts := atoms_spec (ws := wsJ7_fill_53178) B.pre
  have hown : s.vm.findClass RJ7 = some m.cls := findClass_of_methodNamed B.named
  have hlocks := B.notSynchronized
  subst hsz
  have hD := hD0.self (sz := s.heap.size)
  generalize hAe : va_A [(h0, .inl (cT 0, 8, .inl f))] s.heap.size = A at hD ⊢
  have hA : ∀ q : Nat, s.heap.size ≤ q → A q := fun q h => by rw [← hAe]; exact Or.inr h
  have hS : va_S A s.heap s.heap [] := va_S.rf
  have hP : va_P D vwCl [(h0, .inl (cT 0, 8, .inl f))] s.heap := hP
  have hl := lv_entry ([.ref h0, .int v9]) (n := 4) (Nat.le_of_ble_eq_true rfl)
  rw [lg_entry_eq]
  generalize (lg_sl ([.ref h0, .int v9]) ++ List.replicate (4 - (lg_sl ([.ref h0, .int v9])).length) Slot.unset).toArray = ls at hl ⊢
  have hl : lv_has ls 4 [(0, .ref h0), (1, .int v9)] := hl
  refine lv_iconst (v := 0) hx hb dJ7_fill_53178_0 (by decide) ?_
  refine lv_istore_n (lv' := [(2, .int 0), (0, .ref h0), (1, .int v9)]) hx hb dJ7_fill_53178_1 rfl hl (by decide) rfl (fun ls hl => ?_)
  refine lv_aload_n hx hb dJ7_fill_53178_2 rfl (lv_at hl 1 rfl) ?_
  refine va_alen (v := 8) hx hb hK hP 0 0 rfl rfl rfl dJ7_fill_53178_3 ?_
  refine lv_istore_n (lv' := [(3, .int 8), (2, .int 0), (0, .ref h0), (1, .int v9)]) hx hb dJ7_fill_53178_4 rfl hl (by decide) rfl (fun ls hl => ?_)
  refine lv_iload_n hx hb dJ7_fill_53178_5 rfl (lv_at hl 1 rfl) ?_
  refine lv_iload_n hx hb dJ7_fill_53178_6 rfl (lv_at hl 0 rfl) ?_
  refine lv_icmp_ge (tgt := 20) hx hb dJ7_fill_53178_7 (by decide) (fun c9 => absurd c9 (by decide)) (fun _ => ?_)
  refine lv_aload_n hx hb dJ7_fill_53178_10 rfl (lv_at hl 2 rfl) ?_
  refine lv_iload_n hx hb dJ7_fill_53178_11 rfl (lv_at hl 1 rfl) ?_
  refine lv_iload_n hx hb dJ7_fill_53178_12 rfl (lv_at hl 3 rfl) ?_
  refine va_iast hx hb hK hP hD hS 0 0 rfl rfl (by unfold vp_in; decide) dJ7_fill_53178_13 (fun H locs hP hD hS => ?_)
  have hP : va_P D vwCl [(h0, .inl (cT 0, 8, .inl (upd f 0 v9)))] _ := hP
  have hD : va_D A [(h0, .inl (cT 0, 8, .inl (upd f 0 v9)))] := hD
  refine lv_iinc (v := 1) (lv' := [(2, .int 1), (3, .int 8), (0, .ref h0), (1, .int v9)]) hx hb dJ7_fill_53178_14 hl (k := 1) rfl (by decide) (by decide) rfl (fun ls hl => ?_)
  refine lv_goto (tgt := 5) hx hb dJ7_fill_53178_17 (by decide) ?_
  refine lv_iload_n hx hb dJ7_fill_53178_5 rfl (lv_at hl 0 rfl) ?_
  refine lv_iload_n hx hb dJ7_fill_53178_6 rfl (lv_at hl 1 rfl) ?_
  refine lv_icmp_ge (tgt := 20) hx hb dJ7_fill_53178_7 (by decide) (fun c9 => absurd c9 (by decide)) (fun _ => ?_)
  refine lv_aload_n hx hb dJ7_fill_53178_10 rfl (lv_at hl 2 rfl) ?_
  refine lv_iload_n hx hb dJ7_fill_53178_11 rfl (lv_at hl 0 rfl) ?_
  refine lv_iload_n hx hb dJ7_fill_53178_12 rfl (lv_at hl 3 rfl) ?_
  refine va_iast hx hb hK hP hD hS 0 0 rfl rfl (by unfold vp_in; decide) dJ7_fill_53178_13 (fun H locs hP hD hS => ?_)
  have hP : va_P D vwCl [(h0, .inl (cT 0, 8, .inl (upd (upd f 0 v9) 1 v9)))] _ := hP
  have hD : va_D A [(h0, .inl (cT 0, 8, .inl (upd (upd f 0 v9) 1 v9)))] := hD
  refine lv_iinc (v := 2) (lv' := [(2, .int 2), (3, .int 8), (0, .ref h0), (1, .int v9)]) hx hb dJ7_fill_53178_14 hl (k := 0) rfl (by decide) (by decide) rfl (fun ls hl => ?_)
  refine lv_goto (tgt := 5) hx hb dJ7_fill_53178_17 (by decide) ?_
  refine lv_iload_n hx hb dJ7_fill_53178_5 rfl (lv_at hl 0 rfl) ?_
  refine lv_iload_n hx hb dJ7_fill_53178_6 rfl (lv_at hl 1 rfl) ?_
  refine lv_icmp_ge (tgt := 20) hx hb dJ7_fill_53178_7 (by decide) (fun c9 => absurd c9 (by decide)) (fun _ => ?_)
  refine lv_aload_n hx hb dJ7_fill_53178_10 rfl (lv_at hl 2 rfl) ?_
  refine lv_iload_n hx hb dJ7_fill_53178_11 rfl (lv_at hl 0 rfl) ?_
  refine lv_iload_n hx hb dJ7_fill_53178_12 rfl (lv_at hl 3 rfl) ?_
  refine va_iast hx hb hK hP hD hS 0 0 rfl rfl (by unfold vp_in; decide) dJ7_fill_53178_13 (fun H locs hP hD hS => ?_)
  have hP : va_P D vwCl [(h0, .inl (cT 0, 8, .inl (upd (upd (upd f 0 v9) 1 v9) 2 v9)))] _ := hP
  have hD : va_D A [(h0, .inl (cT 0, 8, .inl (upd (upd (upd f 0 v9) 1 v9) 2 v9)))] := hD
  refine lv_iinc (v := 3) (lv' := [(2, .int 3), (3, .int 8), (0, .ref h0), (1, .int v9)]) hx hb dJ7_fill_53178_14 hl (k := 0) rfl (by decide) (by decide) rfl (fun ls hl => ?_)
  refine lv_goto (tgt := 5) hx hb dJ7_fill_53178_17 (by decide) ?_
  refine lv_iload_n hx hb dJ7_fill_53178_5 rfl (lv_at hl 0 rfl) ?_
  refine lv_iload_n hx hb dJ7_fill_53178_6 rfl (lv_at hl 1 rfl) ?_
  refine lv_icmp_ge (tgt := 20) hx hb dJ7_fill_53178_7 (by decide) (fun c9 => absurd c9 (by decide)) (fun _ => ?_)
  refine lv_aload_n hx hb dJ7_fill_53178_10 rfl (lv_at hl 2 rfl) ?_
  refine lv_iload_n hx hb dJ7_fill_53178_11 rfl (lv_at hl 0 rfl) ?_
  refine lv_iload_n hx hb dJ7_fill_53178_12 rfl (lv_at hl 3 rfl) ?_
  refine va_iast hx hb hK hP hD hS 0 0 rfl rfl (by unfold vp_in; decide) dJ7_fill_53178_13 (fun H locs hP hD hS => ?_)
  have hP : va_P D vwCl [(h0, .inl (cT 0, 8, .inl (upd (upd (upd (upd f 0 v9) 1 v9) 2 v9) 3 v9)))] _ := hP
  have hD : va_D A [(h0, .inl (cT 0, 8, .inl (upd (upd (upd (upd f 0 v9) 1 v9) 2 v9) 3 v9)))] := hD
  refine lv_iinc (v := 4) (lv' := [(2, .int 4), (3, .int 8), (0, .ref h0), (1, .int v9)]) hx hb dJ7_fill_53178_14 hl (k := 0) rfl (by decide) (by decide) rfl (fun ls hl => ?_)
  refine lv_goto (tgt := 5) hx hb dJ7_fill_53178_17 (by decide) ?_
  refine lv_iload_n hx hb dJ7_fill_53178_5 rfl (lv_at hl 0 rfl) ?_
  refine lv_iload_n hx hb dJ7_fill_53178_6 rfl (lv_at hl 1 rfl) ?_
  refine lv_icmp_ge (tgt := 20) hx hb dJ7_fill_53178_7 (by decide) (fun c9 => absurd c9 (by decide)) (fun _ => ?_)
  refine lv_aload_n hx hb dJ7_fill_53178_10 rfl (lv_at hl 2 rfl) ?_
  refine lv_iload_n hx hb dJ7_fill_53178_11 rfl (lv_at hl 0 rfl) ?_
  refine lv_iload_n hx hb dJ7_fill_53178_12 rfl (lv_at hl 3 rfl) ?_
  refine va_iast hx hb hK hP hD hS 0 0 rfl rfl (by unfold vp_in; decide) dJ7_fill_53178_13 (fun H locs hP hD hS => ?_)
  have hP : va_P D vwCl [(h0, .inl (cT 0, 8, .inl (upd (upd (upd (upd (upd f 0 v9) 1 v9) 2 v9) 3 v9) 4 v9)))] _ := hP
  have hD : va_D A [(h0, .inl (cT 0, 8, .inl (upd (upd (upd (upd (upd f 0 v9) 1 v9) 2 v9) 3 v9) 4 v9)))] := hD
  refine lv_iinc (v := 5) (lv' := [(2, .int 5), (3, .int 8), (0, .ref h0), (1, .int v9)]) hx hb dJ7_fill_53178_14 hl (k := 0) rfl (by decide) (by decide) rfl (fun ls hl => ?_)
  refine lv_goto (tgt := 5) hx hb dJ7_fill_53178_17 (by decide) ?_
  refine lv_iload_n hx hb dJ7_fill_53178_5 rfl (lv_at hl 0 rfl) ?_
  refine lv_iload_n hx hb dJ7_fill_53178_6 rfl (lv_at hl 1 rfl) ?_
  refine lv_icmp_ge (tgt := 20) hx hb dJ7_fill_53178_7 (by decide) (fun c9 => absurd c9 (by decide)) (fun _ => ?_)
  refine lv_aload_n hx hb dJ7_fill_53178_10 rfl (lv_at hl 2 rfl) ?_
  refine lv_iload_n hx hb dJ7_fill_53178_11 rfl (lv_at hl 0 rfl) ?_
  refine lv_iload_n hx hb dJ7_fill_53178_12 rfl (lv_at hl 3 rfl) ?_
  refine va_iast hx hb hK hP hD hS 0 0 rfl rfl (by unfold vp_in; decide) dJ7_fill_53178_13 (fun H locs hP hD hS => ?_)
  have hP : va_P D vwCl [(h0, .inl (cT 0, 8, .inl (upd (upd (upd (upd (upd (upd f 0 v9) 1 v9) 2 v9) 3 v9) 4 v9) 5 v9)))] _ := hP
  have hD : va_D A [(h0, .inl (cT 0, 8, .inl (upd (upd (upd (upd (upd (upd f 0 v9) 1 v9) 2 v9) 3 v9) 4 v9) 5 v9)))] := hD
  refine lv_iinc (v := 6) (lv' := [(2, .int 6), (3, .int 8), (0, .ref h0), (1, .int v9)]) hx hb dJ7_fill_53178_14 hl (k := 0) rfl (by decide) (by decide) rfl (fun ls hl => ?_)
  refine lv_goto (tgt := 5) hx hb dJ7_fill_53178_17 (by decide) ?_
  refine lv_iload_n hx hb dJ7_fill_53178_5 rfl (lv_at hl 0 rfl) ?_
  refine lv_iload_n hx hb dJ7_fill_53178_6 rfl (lv_at hl 1 rfl) ?_
  refine lv_icmp_ge (tgt := 20) hx hb dJ7_fill_53178_7 (by decide) (fun c9 => absurd c9 (by decide)) (fun _ => ?_)
  refine lv_aload_n hx hb dJ7_fill_53178_10 rfl (lv_at hl 2 rfl) ?_
  refine lv_iload_n hx hb dJ7_fill_53178_11 rfl (lv_at hl 0 rfl) ?_
  refine lv_iload_n hx hb dJ7_fill_53178_12 rfl (lv_at hl 3 rfl) ?_
  refine va_iast hx hb hK hP hD hS 0 0 rfl rfl (by unfold vp_in; decide) dJ7_fill_53178_13 (fun H locs hP hD hS => ?_)
  have hP : va_P D vwCl [(h0, .inl (cT 0, 8, .inl (upd (upd (upd (upd (upd (upd (upd f 0 v9) 1 v9) 2 v9) 3 v9) 4 v9) 5 v9) 6 v9)))] _ := hP
  have hD : va_D A [(h0, .inl (cT 0, 8, .inl (upd (upd (upd (upd (upd (upd (upd f 0 v9) 1 v9) 2 v9) 3 v9) 4 v9) 5 v9) 6 v9)))] := hD
  refine lv_iinc (v := 7) (lv' := [(2, .int 7), (3, .int 8), (0, .ref h0), (1, .int v9)]) hx hb dJ7_fill_53178_14 hl (k := 0) rfl (by decide) (by decide) rfl (fun ls hl => ?_)
  refine lv_goto (tgt := 5) hx hb dJ7_fill_53178_17 (by decide) ?_
  refine lv_iload_n hx hb dJ7_fill_53178_5 rfl (lv_at hl 0 rfl) ?_
  refine lv_iload_n hx hb dJ7_fill_53178_6 rfl (lv_at hl 1 rfl) ?_
  refine lv_icmp_ge (tgt := 20) hx hb dJ7_fill_53178_7 (by decide) (fun c9 => absurd c9 (by decide)) (fun _ => ?_)
  refine lv_aload_n hx hb dJ7_fill_53178_10 rfl (lv_at hl 2 rfl) ?_
  refine lv_iload_n hx hb dJ7_fill_53178_11 rfl (lv_at hl 0 rfl) ?_
  refine lv_iload_n hx hb dJ7_fill_53178_12 rfl (lv_at hl 3 rfl) ?_
  refine va_iast hx hb hK hP hD hS 0 0 rfl rfl (by unfold vp_in; decide) dJ7_fill_53178_13 (fun H locs hP hD hS => ?_)
  have hP : va_P D vwCl [(h0, .inl (cT 0, 8, .inl (upd (upd (upd (upd (upd (upd (upd (upd f 0 v9) 1 v9) 2 v9) 3 v9) 4 v9) 5 v9) 6 v9) 7 v9)))] _ := hP
  have hD : va_D A [(h0, .inl (cT 0, 8, .inl (upd (upd (upd (upd (upd (upd (upd (upd f 0 v9) 1 v9) 2 v9) 3 v9) 4 v9) 5 v9) 6 v9) 7 v9)))] := hD
  refine lv_iinc (v := 8) (lv' := [(2, .int 8), (3, .int 8), (0, .ref h0), (1, .int v9)]) hx hb dJ7_fill_53178_14 hl (k := 0) rfl (by decide) (by decide) rfl (fun ls hl => ?_)
  refine lv_goto (tgt := 5) hx hb dJ7_fill_53178_17 (by decide) ?_
  refine lv_iload_n hx hb dJ7_fill_53178_5 rfl (lv_at hl 0 rfl) ?_
  refine lv_iload_n hx hb dJ7_fill_53178_6 rfl (lv_at hl 1 rfl) ?_
  refine lv_icmp_ge (tgt := 20) hx hb dJ7_fill_53178_7 (by decide) (fun _ => ?_) (fun c9 => absurd c9 (by decide))
  have hP9 := hP.sub (ws' := [(h0, .inl (cT 0, 8, .inl (upd (upd (upd (upd (upd (upd (upd (upd f 0 v9) 1 v9) 2 v9) 3 v9) 4 v9) 5 v9) 6 v9) 7 v9)))]) [0] rfl
  have hD9 := hD.sub (ws' := [(h0, .inl (cT 0, 8, .inl (upd (upd (upd (upd (upd (upd (upd (upd f 0 v9) 1 v9) 2 v9) 3 v9) 4 v9) 5 v9) 6 v9) 7 v9)))]) [0] (by decide) rfl
  exact W.vret hx hb hr (fun t ht hW => ⟨⟨(), rfl, trivial, ⟨by rw [ht]; exact hP9, hD9⟩⟩, hS.F ht⟩) hS.2.2 dJ7_fill_53178_20
theorem dJ7_fill_d0a16_0 : decode cJ7_fill_d0a16 0 = .ok (.iconst 0, 1) := by decide +kernel
theorem dJ7_fill_d0a16_1 : decode cJ7_fill_d0a16 1 = .ok (.istore_n 3, 1) := by decide +kernel
theorem dJ7_fill_d0a16_12 : decode cJ7_fill_d0a16 12 = .ok (.aload_n 0, 1) := by decide +kernel
theorem dJ7_fill_d0a16_13 : decode cJ7_fill_d0a16 13 = .ok (.iload_n 3, 1) := by decide +kernel
theorem dJ7_fill_d0a16_14 : decode cJ7_fill_d0a16 14 = .ok (.lload_n 1, 1) := by decide +kernel
theorem dJ7_fill_d0a16_15 : decode cJ7_fill_d0a16 15 = .ok (.lastore, 1) := by decide +kernel
theorem dJ7_fill_d0a16_16 : decode cJ7_fill_d0a16 16 = .ok (.iinc 3 1, 3) := by decide +kernel
theorem dJ7_fill_d0a16_19 : decode cJ7_fill_d0a16 19 = .ok (.goto (-13), 3) := by decide +kernel
theorem dJ7_fill_d0a16_2 : decode cJ7_fill_d0a16 2 = .ok (.aload_n 0, 1) := by decide +kernel
theorem dJ7_fill_d0a16_22 : decode cJ7_fill_d0a16 22 = .ok (.return_, 1) := by decide +kernel
theorem dJ7_fill_d0a16_3 : decode cJ7_fill_d0a16 3 = .ok (.arraylength, 1) := by decide +kernel
theorem dJ7_fill_d0a16_4 : decode cJ7_fill_d0a16 4 = .ok (.istore 4, 2) := by decide +kernel
theorem dJ7_fill_d0a16_6 : decode cJ7_fill_d0a16 6 = .ok (.iload_n 3, 1) := by decide +kernel
theorem dJ7_fill_d0a16_7 : decode cJ7_fill_d0a16 7 = .ok (.iload 4, 2) := by decide +kernel
theorem dJ7_fill_d0a16_9 : decode cJ7_fill_d0a16 9 = .ok (.if_icmp .ge 13, 3) := by decide +kernel
set_option maxHeartbeats 4000000 in
set_option maxRecDepth 100000 in
/-- Arrays.fill of 5 longs -/
theorem c_fillL_5 (l : Launch) (D : va_G) (cT : Nat → ClassId) (h0 : Nat) (f : Nat → Int64) (v9 : Int64) (sz : Nat)  : Met l yJ7_fill_d0a16 wsJ7_fill_d0a16 ({ frames := 8, cells := 0, slots := 0, locals := 160 }) (va_Pc [.ref h0, .long v9] (PW D cT [(h0, .inl (cT 2, 5, .inr (.inl f)))] sz)) (va_Qv (fun _ : Unit => True) (fun (_ : Unit) (t : State) => va_P D vwCl [(h0, .inl (cT 2, 5, .inr (.inl (vp_updL (vp_updL (vp_updL (vp_updL (vp_updL f 0 v9) 1 v9) 2 v9) 3 v9) 4 v9))))] t.heap ∧ va_D (va_A [(h0, .inl (cT 2, 5, .inr (.inl f)))] sz) [(h0, .inl (cT 2, 5, .inr (.inl (vp_updL (vp_updL (vp_updL (vp_updL (vp_updL f 0 v9) 1 v9) 2 v9) 3 v9) 4 v9))))]) (va_A [(h0, .inl (cT 2, 5, .inr (.inl f)))] sz)) 0 0 (va_A [(h0, .inl (cT 2, 5, .inr (.inl f)))] sz) := by
  refine Met.ofW (cc := cJ7_fill_d0a16) (maxL := 5) (ret := none) (by decide) rfl ?_
  intro p e s m args below meth c s₁ B hml hv
  obtain ⟨rfl, hsz, hP, hK, hD0, hG⟩ := hv
  have hx := B.exec
  have hb := B.bytes
  have hr := B.returns
  have hts := atoms_spec (ws := wsJ7_fill_d0a16) B.pre
  have hown : s.vm.findClass RJ7 = some m.cls := findClass_of_methodNamed B.named
  have hlocks := B.notSynchronized
  subst hsz
  have hD := hD0.self (sz := s.heap.size)
  generalize hAe : va_A [(h0, .inl (cT 2, 5, .inr (.inl f)))] s.heap.size = A at hD ⊢
  have hA : ∀ q : Nat, s.heap.size ≤ q → A q := fun q h => by rw [← hAe]; exact Or.inr h
  have hS : va_S A s.heap s.heap [] := va_S.rf
  have hP : va_P D vwCl [(h0, .inl (cT 2, 5, .inr (.inl f)))] s.heap := hP
  have hl := lv_entry ([.ref h0, .long v9]) (n := 5) (Nat.le_of_ble_eq_true rfl)
  rw [lg_entry_eq]
  generalize (lg_sl ([.ref h0, .long v9]) ++ List.replicate (5 - (lg_sl ([.ref h0, .long v9])).length) Slot.unset).toArray = ls at hl ⊢
  have hl : lv_has ls 5 [(0, .ref h0), (1, .long v9)] := hl
  refine lv_iconst (v := 0) hx hb dJ7_fill_d0a16_0 (by decide) ?_
  refine lv_istore_n (lv' := [(3, .int 0), (0, .ref h0), (1, .long v9)]) hx hb dJ7_fill_d0a16_1 rfl hl (by decide) rfl (fun ls hl => ?_)
  refine lv_aload_n hx hb dJ7_fill_d0a16_2 rfl (lv_at hl 1 rfl) ?_
  refine va_alen (v := 5) hx hb hK hP 0 2 rfl rfl rfl dJ7_fill_d0a16_3 ?_
  refine lv_istore (lv' := [(4, .int 5), (3, .int 0), (0, .ref h0), (1, .long v9)]) hx hb dJ7_fill_d0a16_4 hl (by decide) rfl (fun ls hl => ?_)
  refine lv_iload_n hx hb dJ7_fill_d0a16_6 rfl (lv_at hl 1 rfl) ?_
  refine lv_iload hx hb dJ7_fill_d0a16_7 (lv_at hl 0 rfl) ?_
  refine lv_icmp_ge (tgt := 22) hx hb dJ7_fill_d0a16_9 (by decide) (fun c9 => absurd c9 (by decide)) (fun _ => ?_)
  refine lv_aload_n hx hb dJ7_fill_d0a16_12 rfl (lv_at hl 2 rfl) ?_
  refine lv_iload_n hx hb dJ7_fill_d0a16_13 rfl (lv_at hl 1 rfl) ?_
  refine lv_lload_n hx hb dJ7_fill_d0a16_14 rfl (lv_at hl 3 rfl) ?_
  refine va_last hx hb hK hP hD hS 0 2 rfl rfl (by unfold vp_in; decide) dJ7_fill_d0a16_15 (fun H locs hP hD hS => ?_)
  have hP : va_P D vwCl [(h0, .inl (cT 2, 5, .inr (.inl (vp_updL f 0 v9))))] _ := hP
  have hD : va_D A [(h0, .inl (cT 2, 5, .inr (.inl (vp_updL f 0 v9))))] := hD
  refine lv_iinc (v := 1) (lv' := [(3, .int 1), (4, .int 5), (0, .ref h0), (1, .long v9)]) hx hb dJ7_fill_d0a16_16 hl (k := 1) rfl (by decide) (by decide) rfl (fun ls hl => ?_)
  refine lv_goto (tgt := 6) hx hb dJ7_fill_d0a16_19 (by decide) ?_
  refine lv_iload_n hx hb dJ7_fill_d0a16_6 rfl (lv_at hl 0 rfl) ?_
  refine lv_iload hx hb dJ7_fill_d0a16_7 (lv_at hl 1 rfl) ?_
  refine lv_icmp_ge (tgt := 22) hx hb dJ7_fill_d0a16_9 (by decide) (fun c9 => absurd c9 (by decide)) (fun _ => ?_)
  refine lv_aload_n hx hb dJ7_fill_d0a16_12 rfl (lv_at hl 2 rfl) ?_
  refine lv_iload_n hx hb dJ7_fill_d0a16_13 rfl (lv_at hl 0 rfl) ?_
  refine lv_lload_n hx hb dJ7_fill_d0a16_14 rfl (lv_at hl 3 rfl) ?_
  refine va_last hx hb hK hP hD hS 0 2 rfl rfl (by unfold vp_in; decide) dJ7_fill_d0a16_15 (fun H locs hP hD hS => ?_)
  have hP : va_P D vwCl [(h0, .inl (cT 2, 5, .inr (.inl (vp_updL (vp_updL f 0 v9) 1 v9))))] _ := hP
  have hD : va_D A [(h0, .inl (cT 2, 5, .inr (.inl (vp_updL (vp_updL f 0 v9) 1 v9))))] := hD
  refine lv_iinc (v := 2) (lv' := [(3, .int 2), (4, .int 5), (0, .ref h0), (1, .long v9)]) hx hb dJ7_fill_d0a16_16 hl (k := 0) rfl (by decide) (by decide) rfl (fun ls hl => ?_)
  refine lv_goto (tgt := 6) hx hb dJ7_fill_d0a16_19 (by decide) ?_
  refine lv_iload_n hx hb dJ7_fill_d0a16_6 rfl (lv_at hl 0 rfl) ?_
  refine lv_iload hx hb dJ7_fill_d0a16_7 (lv_at hl 1 rfl) ?_
  refine lv_icmp_ge (tgt := 22) hx hb dJ7_fill_d0a16_9 (by decide) (fun c9 => absurd c9 (by decide)) (fun _ => ?_)
  refine lv_aload_n hx hb dJ7_fill_d0a16_12 rfl (lv_at hl 2 rfl) ?_
  refine lv_iload_n hx hb dJ7_fill_d0a16_13 rfl (lv_at hl 0 rfl) ?_
  refine lv_lload_n hx hb dJ7_fill_d0a16_14 rfl (lv_at hl 3 rfl) ?_
  refine va_last hx hb hK hP hD hS 0 2 rfl rfl (by unfold vp_in; decide) dJ7_fill_d0a16_15 (fun H locs hP hD hS => ?_)
  have hP : va_P D vwCl [(h0, .inl (cT 2, 5, .inr (.inl (vp_updL (vp_updL (vp_updL f 0 v9) 1 v9) 2 v9))))] _ := hP
  have hD : va_D A [(h0, .inl (cT 2, 5, .inr (.inl (vp_updL (vp_updL (vp_updL f 0 v9) 1 v9) 2 v9))))] := hD
  refine lv_iinc (v := 3) (lv' := [(3, .int 3), (4, .int 5), (0, .ref h0), (1, .long v9)]) hx hb dJ7_fill_d0a16_16 hl (k := 0) rfl (by decide) (by decide) rfl (fun ls hl => ?_)
  refine lv_goto (tgt := 6) hx hb dJ7_fill_d0a16_19 (by decide) ?_
  refine lv_iload_n hx hb dJ7_fill_d0a16_6 rfl (lv_at hl 0 rfl) ?_
  refine lv_iload hx hb dJ7_fill_d0a16_7 (lv_at hl 1 rfl) ?_
  refine lv_icmp_ge (tgt := 22) hx hb dJ7_fill_d0a16_9 (by decide) (fun c9 => absurd c9 (by decide)) (fun _ => ?_)
  refine lv_aload_n hx hb dJ7_fill_d0a16_12 rfl (lv_at hl 2 rfl) ?_
  refine lv_iload_n hx hb dJ7_fill_d0a16_13 rfl (lv_at hl 0 rfl) ?_
  refine lv_lload_n hx hb dJ7_fill_d0a16_14 rfl (lv_at hl 3 rfl) ?_
  refine va_last hx hb hK hP hD hS 0 2 rfl rfl (by unfold vp_in; decide) dJ7_fill_d0a16_15 (fun H locs hP hD hS => ?_)
  have hP : va_P D vwCl [(h0, .inl (cT 2, 5, .inr (.inl (vp_updL (vp_updL (vp_updL (vp_updL f 0 v9) 1 v9) 2 v9) 3 v9))))] _ := hP
  have hD : va_D A [(h0, .inl (cT 2, 5, .inr (.inl (vp_updL (vp_updL (vp_updL (vp_updL f 0 v9) 1 v9) 2 v9) 3 v9))))] := hD
  refine lv_iinc (v := 4) (lv' := [(3, .int 4), (4, .int 5), (0, .ref h0), (1, .long v9)]) hx hb dJ7_fill_d0a16_16 hl (k := 0) rfl (by decide) (by decide) rfl (fun ls hl => ?_)
  refine lv_goto (tgt := 6) hx hb dJ7_fill_d0a16_19 (by decide) ?_
  refine lv_iload_n hx hb dJ7_fill_d0a16_6 rfl (lv_at hl 0 rfl) ?_
  refine lv_iload hx hb dJ7_fill_d0a16_7 (lv_at hl 1 rfl) ?_
  refine lv_icmp_ge (tgt := 22) hx hb dJ7_fill_d0a16_9 (by decide) (fun c9 => absurd c9 (by decide)) (fun _ => ?_)
  refine lv_aload_n hx hb dJ7_fill_d0a16_12 rfl (lv_at hl 2 rfl) ?_
  refine lv_iload_n hx hb dJ7_fill_d0a16_13 rfl (lv_at hl 0 rfl) ?_
  refine lv_lload_n hx hb dJ7_fill_d0a16_14 rfl (lv_at hl 3 rfl) ?_
  refine va_last hx hb hK hP hD hS 0 2 rfl rfl (by unfold vp_in; decide) dJ7_fill_d0a16_15 (fun H locs hP hD hS => ?_)
  have hP : va_P D vwCl [(h0, .inl (cT 2, 5, .inr (.inl (vp_updL (vp_updL (vp_updL (vp_updL (vp_updL f 0 v9) 1 v9) 2 v9) 3 v9) 4 v9))))] _ := hP
  have hD : va_D A [(h0, .inl (cT 2, 5, .inr (.inl (vp_updL (vp_updL (vp_updL (vp_updL (vp_updL f 0 v9) 1 v9) 2 v9) 3 v9) 4 v9))))] := hD
  refine lv_iinc (v := 5) (lv' := [(3, .int 5), (4, .int 5), (0, .ref h0), (1, .long v9)]) hx hb dJ7_fill_d0a16_16 hl (k := 0) rfl (by decide) (by decide) rfl (fun ls hl => ?_)
  refine lv_goto (tgt := 6) hx hb dJ7_fill_d0a16_19 (by decide) ?_
  refine lv_iload_n hx hb dJ7_fill_d0a16_6 rfl (lv_at hl 0 rfl) ?_
  refine lv_iload hx hb dJ7_fill_d0a16_7 (lv_at hl 1 rfl) ?_
  refine lv_icmp_ge (tgt := 22) hx hb dJ7_fill_d0a16_9 (by decide) (fun _ => ?_) (fun c9 => absurd c9 (by decide))
  have hP9 := hP.sub (ws' := [(h0, .inl (cT 2, 5, .inr (.inl (vp_updL (vp_updL (vp_updL (vp_updL (vp_updL f 0 v9) 1 v9) 2 v9) 3 v9) 4 v9))))]) [0] rfl
  have hD9 := hD.sub (ws' := [(h0, .inl (cT 2, 5, .inr (.inl (vp_updL (vp_updL (vp_updL (vp_updL (vp_updL f 0 v9) 1 v9) 2 v9) 3 v9) 4 v9))))]) [0] (by decide) rfl
  exact W.vret hx hb hr (fun t ht hW => ⟨⟨(), rfl, trivial, ⟨by rw [ht]; exact hP9, hD9⟩⟩, hS.F ht⟩) hS.2.2 dJ7_fill_d0a16_22
