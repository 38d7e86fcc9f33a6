set_option maxHeartbeats 4000000 in
set_option maxRecDepth 100000 in
theorem c_fill_6 (l : Launch) (D : va_G) (cT : Nat → ClassId) (h0 : Nat) (f : Nat → Int32) (v9 : Int32) (sz : Nat)  : Met l yJ7_fill_53178 wsJ7_fill_53178 ({ frames := 8, cells := 0, slots := 0, locals := 160 }) (va_Pc [.ref h0, .int v9] (PW D cT [(h0, .inl (cT 0, 6, .inl f))] sz)) (va_Qv (fun _ : Unit => True) (fun (_ : Unit) (t : State) => va_P D vwCl [(h0, .inl (cT 0, 6, .inl (upd (upd (upd (upd (upd (upd f 0 v9) 1 v9) 2 v9) 3 v9) 4 v9) 5 v9)))] t.heap ∧ va_D (va_A [(h0, .inl (cT 0, 6, .inl f))] sz) [(h0, .inl (cT 0, 6, .inl (upd (upd (upd (upd (upd (upd f 0 v9) 1 v9) 2 v9) 3 v9) 4 v9) 5 v9)))]) (va_A [(h0, .inl (cT 0, 6, .inl f))] sz)) 0 0 (va_A [(h0, .inl (cT 0, 6, .inl f))] sz) := by
  refine Met.ofW (cc := cJ7_fill_53178) (maxL := 4) (ret := none) (by decide) rfl ?_
  intro p e s m args below meth c s₁ B hml hv
  obtain ⟨rfl, hsz, hP, hK, hD0, hG⟩ := hv
  have hx := B.exec
  have hb := B.bytes
  have hr := B.returns
  have hts := atoms_spec (ws := wsJ7_fill_53178) B.pre
  have hown : s.vm.findClass RJ7 = some m.cls := findClass_of_methodNamed B.named
  have hlocks := B.notSynchronized
  subst hsz
  have hD := hD0.self (sz := s.heap.size)
  generalize hAe : va_A [(h0, .inl (cT 0, 6, .inl f))] s.heap.size = A at hD ⊢
  have hA : ∀ q : Nat, s.heap.size ≤ q → A q := fun q h => by rw [← hAe]; exact Or.inr h
  have hS : va_S A s.heap s.heap [] := va_S.rf
  have hP : va_P D vwCl [(h0, .inl (cT 0, 6, .inl f))] s.heap := hP
  have hl := lv_entry ([.ref h0, .int v9]) (n := 4) (Nat.le_of_ble_eq_true rfl)
  rw [lg_entry_eq]
  generalize (lg_sl ([.ref h0, .int v9]) ++ List.replicate (4 - (lg_sl ([.ref h0, .int v9])).length) Slot.unset).toArray = ls at hl ⊢
  have hl : lv_has ls 4 [(0, .ref h0), (1, .int v9)] := hl
  refine lv_iconst (v := 0) hx hb dJ7_fill_53178_0 (by decide) ?_
  refine lv_istore_n (lv' := [(2, .int 0), (0, .ref h0), (1, .int v9)]) hx hb dJ7_fill_53178_1 rfl hl (by decide) rfl (fun ls hl => ?_)
  refine lv_aload_n hx hb dJ7_fill_53178_2 rfl (lv_at hl 1 rfl) ?_
  refine va_alen (v := 6) hx hb hK hP 0 0 rfl rfl rfl dJ7_fill_53178_3 ?_
  refine lv_istore_n (lv' := [(3, .int 6), (2, .int 0), (0, .ref h0), (1, .int v9)]) hx hb dJ7_fill_53178_4 rfl hl (by decide) rfl (fun ls hl => ?_)
  refine lv_iload_n hx hb dJ7_fill_53178_5 rfl (lv_at hl 1 rfl) ?_
  refine lv_iload_n hx hb dJ7_fill_53178_6 rfl (lv_at hl 0 rfl) ?_
  refine lv_icmp_ge (tgt := 20) hx hb dJ7_fill_53178_7 (by decide) (fun c9 => absurd c9 (by decide)) (fun _ => ?_)
  refine lv_aload_n hx hb dJ7_fill_53178_10 rfl (lv_at hl 2 rfl) ?_
  refine lv_iload_n hx hb dJ7_fill_53178_11 rfl (lv_at hl 1 rfl) ?_
  refine lv_iload_n hx hb dJ7_fill_53178_12 rfl (lv_at hl 3 rfl) ?_
  refine va_iast hx hb hK hP hD hS 0 0 rfl rfl (by unfold vp_in; decide) dJ7_fill_53178_13 (fun H locs hP hD hS => ?_)
  have hP : va_P D vwCl [(h0, .inl (cT 0, 6, .inl (upd f 0 v9)))] _ := hP
  have hD : va_D A [(h0, .inl (cT 0, 6, .inl (upd f 0 v9)))] := hD
  refine lv_iinc (v := 1) (lv' := [(2, .int 1), (3, .int 6), (0, .ref h0), (1, .int v9)]) hx hb dJ7_fill_53178_14 hl (k := 1) rfl (by decide) (by decide) rfl (fun ls hl => ?_)
  refine lv_goto (tgt := 5) hx hb dJ7_fill_53178_17 (by decide) ?_
  refine lv_iload_n hx hb dJ7_fill_53178_5 rfl (lv_at hl 0 rfl) ?_
  refine lv_iload_n hx hb dJ7_fill_53178_6 rfl (lv_at hl 1 rfl) ?_
  refine lv_icmp_ge (tgt := 20) hx hb dJ7_fill_53178_7 (by decide) (fun c9 => absurd c9 (by decide)) (fun _ => ?_)
  refine lv_aload_n hx hb dJ7_fill_53178_10 rfl (lv_at hl 2 rfl) ?_
  refine lv_iload_n hx hb dJ7_fill_53178_11 rfl (lv_at hl 0 rfl) ?_
  refine lv_iload_n hx hb dJ7_fill_53178_12 rfl (lv_at hl 3 rfl) ?_
  refine va_iast hx hb hK hP hD hS 0 0 rfl rfl (by unfold vp_in; decide) dJ7_fill_53178_13 (fun H locs hP hD hS => ?_)
  have hP : va_P D vwCl [(h0, .inl (cT 0, 6, .inl (upd (upd f 0 v9) 1 v9)))] _ := hP
  have hD : va_D A [(h0, .inl (cT 0, 6, .inl (upd (upd f 0 v9) 1 v9)))] := hD
  refine lv_iinc (v := 2) (lv' := [(2, .int 2), (3, .int 6), (0, .ref h0), (1, .int v9)]) hx hb dJ7_fill_53178_14 hl (k := 0) rfl (by decide) (by decide) rfl (fun ls hl => ?_)
  refine lv_goto (tgt := 5) hx hb dJ7_fill_53178_17 (by decide) ?_
  refine lv_iload_n hx hb dJ7_fill_53178_5 rfl (lv_at hl 0 rfl) ?_
  refine lv_iload_n hx hb dJ7_fill_53178_6 rfl (lv_at hl 1 rfl) ?_
  refine lv_icmp_ge (tgt := 20) hx hb dJ7_fill_53178_7 (by decide) (fun c9 => absurd c9 (by decide)) (fun _ => ?_)
  refine lv_aload_n hx hb dJ7_fill_53178_10 rfl (lv_at hl 2 rfl) ?_
  refine lv_iload_n hx hb dJ7_fill_53178_11 rfl (lv_at hl 0 rfl) ?_
  refine lv_iload_n hx hb dJ7_fill_53178_12 rfl (lv_at hl 3 rfl) ?_
  refine va_iast hx hb hK hP hD hS 0 0 rfl rfl (by unfold vp_in; decide) dJ7_fill_53178_13 (fun H locs hP hD hS => ?_)
  have hP : va_P D vwCl [(h0, .inl (cT 0, 6, .inl (upd (upd (upd f 0 v9) 1 v9) 2 v9)))] _ := hP
  have hD : va_D A [(h0, .inl (cT 0, 6, .inl (upd (upd (upd f 0 v9) 1 v9) 2 v9)))] := hD
  refine lv_iinc (v := 3) (lv' := [(2, .int 3), (3, .int 6), (0, .ref h0), (1, .int v9)]) hx hb dJ7_fill_53178_14 hl (k := 0) rfl (by decide) (by decide) rfl (fun ls hl => ?_)
  refine lv_goto (tgt := 5) hx hb dJ7_fill_53178_17 (by decide) ?_
  refine lv_iload_n hx hb dJ7_fill_53178_5 rfl (lv_at hl 0 rfl) ?_
  refine lv_iload_n hx hb dJ7_fill_53178_6 rfl (lv_at hl 1 rfl) ?_
  refine lv_icmp_ge (tgt := 20) hx hb dJ7_fill_53178_7 (by decide) (fun c9 => absurd c9 (by decide)) (fun _ => ?_)
  refine lv_aload_n hx hb dJ7_fill_53178_10 rfl (lv_at hl 2 rfl) ?_
  refine lv_iload_n hx hb dJ7_fill_53178_11 rfl (lv_at hl 0 rfl) ?_
  refine lv_iload_n hx hb dJ7_fill_53178_12 rfl (lv_at hl 3 rfl) ?_
  refine va_iast hx hb hK hP hD hS 0 0 rfl rfl (by unfold vp_in; decide) dJ7_fill_53178_13 (fun H locs hP hD hS => ?_)
  have hP : va_P D vwCl [(h0, .inl (cT 0, 6, .inl (upd (upd (upd (upd f 0 v9) 1 v9) 2 v9) 3 v9)))] _ := hP
  have hD : va_D A [(h0, .inl (cT 0, 6, .inl (upd (upd (upd (upd f 0 v9) 1 v9) 2 v9) 3 v9)))] := hD
  refine lv_iinc (v := 4) (lv' := [(2, .int 4), (3, .int 6), (0, .ref h0), (1, .int v9)]) hx hb dJ7_fill_53178_14 hl (k := 0) rfl (by decide) (by decide) rfl (fun ls hl => ?_)
  refine lv_goto (tgt := 5) hx hb dJ7_fill_53178_17 (by decide) ?_
  refine lv_iload_n hx hb dJ7_fill_53178_5 rfl (lv_at hl 0 rfl) ?_
  refine lv_iload_n hx hb dJ7_fill_53178_6 rfl (lv_at hl 1 rfl) ?_
  refine lv_icmp_ge (tgt := 20) hx hb dJ7_fill_53178_7 (by decide) (fun c9 => absurd c9 (by decide)) (fun _ => ?_)
  refine lv_aload_n hx hb dJ7_fill_53178_10 rfl (lv_at hl 2 rfl) ?_
  refine lv_iload_n hx hb dJ7_fill_53178_11 rfl (lv_at hl 0 rfl) ?_
  refine lv_iload_n hx hb dJ7_fill_53178_12 rfl (lv_at hl 3 rfl) ?_
  refine va_iast hx hb hK hP hD hS 0 0 rfl rfl (by unfold vp_in; decide) dJ7_fill_53178_13 (fun H locs hP hD hS => ?_)
  have hP : va_P D vwCl [(h0, .inl (cT 0, 6, .inl (upd (upd (upd (upd (upd f 0 v9) 1 v9) 2 v9) 3 v9) 4 v9)))] _ := hP
  have hD : va_D A [(h0, .inl (cT 0, 6, .inl (upd (upd (upd (upd (upd f 0 v9) 1 v9) 2 v9) 3 v9) 4 v9)))] := hD
  refine lv_iinc (v := 5) (lv' := [(2, .int 5), (3, .int 6), (0, .ref h0), (1, .int v9)]) hx hb dJ7_fill_53178_14 hl (k := 0) rfl (by decide) (by decide) rfl (fun ls hl => ?_)
  refine lv_goto (tgt := 5) hx hb dJ7_fill_53178_17 (by decide) ?_
  refine lv_iload_n hx hb dJ7_fill_53178_5 rfl (lv_at hl 0 rfl) ?_
  refine lv_iload_n hx hb dJ7_fill_53178_6 rfl (lv_at hl 1 rfl) ?_
  refine lv_icmp_ge (tgt := 20) hx hb dJ7_fill_53178_7 (by decide) (fun c9 => absurd c9 (by decide)) (fun _ => ?_)
  refine lv_aload_n hx hb dJ7_fill_53178_10 rfl (lv_at hl 2 rfl) ?_
  refine lv_iload_n hx hb dJ7_fill_53178_11 rfl (lv_at hl 0 rfl) ?_
  refine lv_iload_n hx hb dJ7_fill_53178_12 rfl (lv_at hl 3 rfl) ?_
  refine va_iast hx hb hK hP hD hS 0 0 rfl rfl (by unfold vp_in; decide) dJ7_fill_53178_13 (fun H locs hP hD hS => ?_)
  have hP : va_P D vwCl [(h0, .inl (cT 0, 6, .inl (upd (upd (upd (upd (upd (upd f 0 v9) 1 v9) 2 v9) 3 v9) 4 v9) 5 v9)))] _ := hP
  have hD : va_D A [(h0, .inl (cT 0, 6, .inl (upd (upd (upd (upd (upd (upd f 0 v9) 1 v9) 2 v9) 3 v9) 4 v9) 5 v9)))] := hD
  refine lv_iinc (v := 6) (lv' := [(2, .int 6), (3, .int 6), (0, .ref h0), (1, .int v9)]) hx hb dJ7_fill_53178_14 hl (k := 0) rfl (by decide) (by decide) rfl (fun ls hl => ?_)
  refine lv_goto (tgt := 5) hx hb dJ7_fill_53178_17 (by decide) ?_
  refine lv_iload_n hx hb dJ7_fill_53178_5 rfl (lv_at hl 0 rfl) ?_
  refine lv_iload_n hx hb dJ7_fill_53178_6 rfl (lv_at hl 1 rfl) ?_
  refine lv_icmp_ge (tgt := 20) hx hb dJ7_fill_53178_7 (by decide) (fun _ => ?_) (fun c9 => absurd c9 (by decide))
  have hP9 := hP.sub (ws' := [(h0, .inl (cT 0, 6, .inl (upd (upd (upd (upd (upd (upd f 0 v9) 1 v9) 2 v9) 3 v9) 4 v9) 5 v9)))]) [0] rfl
  have hD9 := hD.sub (ws' := [(h0, .inl (cT 0, 6, .inl (upd (upd (upd (upd (upd (upd f 0 v9) 1 v9) 2 v9) 3 v9) 4 v9) 5 v9)))]) [0] (by decide) rfl
  exact W.vret hx hb hr (fun t ht hW => ⟨⟨(), rfl, trivial, ⟨by rw [ht]; exact hP9, hD9⟩⟩, hS.F ht⟩) hS.2.2 dJ7_fill_53178_20
theorem dX1_turnWeek_0 : decode cX1_turnWeek 0 = .ok (.aload_n 0, 1) := by decide +kernel
theorem dX1_turnWeek_1 : decode cX1_turnWeek 1 = .ok (.getfield 59, 3) := by decide +kernel
theorem dX1_turnWeek_10 : decode cX1_turnWeek 10 = .ok (.getfield 72, 3) := by decide +kernel
theorem dX1_turnWeek_13 : decode cX1_turnWeek 13 = .ok (.if_icmp .eq 16, 3) := by decide +kernel
theorem dX1_turnWeek_16 : decode cX1_turnWeek 16 = .ok (.aload_n 0, 1) := by decide +kernel
theorem dX1_turnWeek_17 : decode cX1_turnWeek 17 = .ok (.iload_n 1, 1) := by decide +kernel
theorem dX1_turnWeek_18 : decode cX1_turnWeek 18 = .ok (.putfield 72, 3) := by decide +kernel
theorem dX1_turnWeek_21 : decode cX1_turnWeek 21 = .ok (.aload_n 0, 1) := by decide +kernel
theorem dX1_turnWeek_22 : decode cX1_turnWeek 22 = .ok (.getfield 42, 3) := by decide +kernel
theorem dX1_turnWeek_25 : decode cX1_turnWeek 25 = .ok (.iconst 0, 1) := by decide +kernel
theorem dX1_turnWeek_26 : decode cX1_turnWeek 26 = .ok (.invokestatic 53, 3) := by decide +kernel
theorem dX1_turnWeek_29 : decode cX1_turnWeek 29 = .ok (.return_, 1) := by decide +kernel
theorem dX1_turnWeek_4 : decode cX1_turnWeek 4 = .ok (.bipush 14, 2) := by decide +kernel
theorem dX1_turnWeek_6 : decode cX1_turnWeek 6 = .ok (.idiv, 1) := by decide +kernel
theorem dX1_turnWeek_7 : decode cX1_turnWeek 7 = .ok (.istore_n 1, 1) := by decide +kernel
theorem dX1_turnWeek_8 : decode cX1_turnWeek 8 = .ok (.iload_n 1, 1) := by decide +kernel
theorem dX1_turnWeek_9 : decode cX1_turnWeek 9 = .ok (.aload_n 0, 1) := by decide +kernel
set_option maxRecDepth 20000 in
theorem ggX1_turnWeek_J7_fill_53178 : GoodIn wsX1_turnWeek wsJ7_fill_53178 := goodIn_r _ [7] (by decide +kernel) (by decide +kernel)
set_option maxRecDepth 20000 in
theorem gX1_turnWeek_J7_fill_53178 : GoodIn wsX1_turnWeek (va_wsS RX1 53 yJ7_fill_53178 wsJ7_fill_53178) := goodIn_app (goodIn_of _ (by decide +kernel)) ggX1_turnWeek_J7_fill_53178
set_option maxHeartbeats 4000000 in
set_option maxRecDepth 100000 in
theorem c_X1_turnWeek (l : Launch) (D : va_G) (cT : Nat → ClassId) (h0 : Nat) (f_studio : Nat) (f_half : Int32) (f_taken : Nat) (f_on : Nat) (f_queues : Nat) (f_queued : Nat) (f_engaged : Nat) (f_dressing : Nat) (f_dressed : Nat) (f_standing : Nat) (f_stations : Nat) (f_limits : Nat) (f_worked : Nat) (f_week : Int32) (f_stirred : Int32) (f_idle : Int32) (fwo : Nat → Int32) (sz : Nat)  : Met l yX1_turnWeek wsX1_turnWeek ({ frames := 9, cells := 0, slots := 0, locals := 220 }) (va_Pc [.ref h0] (PW D cT [(h0, .inr (1, [.ref f_studio, .int 1, .int f_half, .ref f_taken, .ref f_on, .ref f_queues, .ref f_queued, .ref f_engaged, .ref f_dressing, .ref f_dressed, .ref f_standing, .ref f_stations, .int 0, .ref f_limits, .ref f_worked, .int f_week, .int f_stirred, .int f_idle])), (f_worked, .inl (cT 0, 6, .inl fwo))] sz)) (va_Qv (fun _ : Unit => True) (fun (_ : Unit) (t : State) => ∃ (w2 : Int32), ∃ (fwo2 : Nat → Int32), va_P D vwCl [(h0, .inr (1, [.ref f_studio, .int 1, .int f_half, .ref f_taken, .ref f_on, .ref f_queues, .ref f_queued, .ref f_engaged, .ref f_dressing, .ref f_dressed, .ref f_standing, .ref f_stations, .int 0, .ref f_limits, .ref f_worked, .int w2, .int f_stirred, .int f_idle])), (f_worked, .inl (cT 0, 6, .inl fwo2))] t.heap ∧ va_D (va_A [(h0, .inr (1, [.ref f_studio, .int 1, .int f_half, .ref f_taken, .ref f_on, .ref f_queues, .ref f_queued, .ref f_engaged, .ref f_dressing, .ref f_dressed, .ref f_standing, .ref f_stations, .int 0, .ref f_limits, .ref f_worked, .int f_week, .int f_stirred, .int f_idle])), (f_worked, .inl (cT 0, 6, .inl fwo))] sz) [(h0, .inr (1, [.ref f_studio, .int 1, .int f_half, .ref f_taken, .ref f_on, .ref f_queues, .ref f_queued, .ref f_engaged, .ref f_dressing, .ref f_dressed, .ref f_standing, .ref f_stations, .int 0, .ref f_limits, .ref f_worked, .int w2, .int f_stirred, .int f_idle])), (f_worked, .inl (cT 0, 6, .inl fwo2))]) (va_A [(h0, .inr (1, [.ref f_studio, .int 1, .int f_half, .ref f_taken, .ref f_on, .ref f_queues, .ref f_queued, .ref f_engaged, .ref f_dressing, .ref f_dressed, .ref f_standing, .ref f_stations, .int 0, .ref f_limits, .ref f_worked, .int f_week, .int f_stirred, .int f_idle])), (f_worked, .inl (cT 0, 6, .inl fwo))] sz)) 0 0 (va_A [(h0, .inr (1, [.ref f_studio, .int 1, .int f_half, .ref f_taken, .ref f_on, .ref f_queues, .ref f_queued, .ref f_engaged, .ref f_dressing, .ref f_dressed, .ref f_standing, .ref f_stations, .int 0, .ref f_limits, .ref f_worked, .int f_week, .int f_stirred, .int f_idle])), (f_worked, .inl (cT 0, 6, .inl fwo))] sz) := by
  refine Met.ofW (cc := cX1_turnWeek) (maxL := 2) (ret := none) (by decide) rfl ?_
  intro p e s m args below meth c s₁ B hml hv
  obtain ⟨rfl, hsz, hP, hK, hD0, hG⟩ := hv
  have hx := B.exec
  have hb := B.bytes
  have hr := B.returns
  have hts := atoms_spec (ws := wsX1_turnWeek) B.pre
  have hown : s.vm.findClass RX1 = some m.cls := findClass_of_methodNamed B.named
  have hlocks := B.notSynchronized
  subst hsz
  have hD := hD0.self (sz := s.heap.size)
  generalize hAe : va_A [(h0, .inr (1, [.ref f_studio, .int 1, .int f_half, .ref f_taken, .ref f_on, .ref f_queues, .ref f_queued, .ref f_engaged, .ref f_dressing, .ref f_dressed, .ref f_standing, .ref f_stations, .int 0, .ref f_limits, .ref f_worked, .int f_week, .int f_stirred, .int f_idle])), (f_worked, .inl (cT 0, 6, .inl fwo))] s.heap.size = A at hD ⊢
  have hA : ∀ q : Nat, s.heap.size ≤ q → A q := fun q h => by rw [← hAe]; exact Or.inr h
  have hS : va_S A s.heap s.heap [] := va_S.rf
  have hP : va_P D vwCl [(h0, .inr (1, [.ref f_studio, .int 1, .int f_half, .ref f_taken, .ref f_on, .ref f_queues, .ref f_queued, .ref f_engaged, .ref f_dressing, .ref f_dressed, .ref f_standing, .ref f_stations, .int 0, .ref f_limits, .ref f_worked, .int f_week, .int f_stirred, .int f_idle])), (f_worked, .inl (cT 0, 6, .inl fwo))] s.heap := hP
  have hl := lv_entry ([.ref h0]) (n := 2) (Nat.le_of_ble_eq_true rfl)
  rw [lg_entry_eq]
  generalize (lg_sl ([.ref h0]) ++ List.replicate (2 - (lg_sl ([.ref h0])).length) Slot.unset).toArray = ls at hl ⊢
  have hl : lv_has ls 2 [(0, .ref h0)] := hl
  refine lv_aload_n hx hb dX1_turnWeek_0 rfl (lv_at hl 0 rfl) ?_
  refine va_get (D := D) (ci := 1) (v := .int f_half) (C := RX1) (T := TX1) (N := 18) hx hb hts (fun _ h => List.mem_cons_of_mem _ (List.mem_append_right _ h)) hown hK hP 0 rfl rfl 2 (by decide) (hts (.fieldLink RX1 59 "PuppetFilm$Floor" "half" "I") (List.mem_of_getElem? (i := 1) (by decide +kernel))) (fun _ h9 => h9) rfl dX1_turnWeek_1 ?_
  refine lv_bipush (v := 14) hx hb dX1_turnWeek_4 (by decide) ?_
  refine lv_idiv hx hb dX1_turnWeek_6 (by decide) ?_
  refine lv_topi (fun x_1 ex_1 => ?_)
  refine lv_istore_n (lv' := [(1, .int x_1), (0, .ref h0)]) hx hb dX1_turnWeek_7 rfl hl (by decide) rfl (fun ls hl => ?_)
  refine lv_iload_n hx hb dX1_turnWeek_8 rfl (lv_at hl 0 rfl) ?_
  refine lv_aload_n hx hb dX1_turnWeek_9 rfl (lv_at hl 1 rfl) ?_
  refine va_get (D := D) (ci := 1) (v := .int f_week) (C := RX1) (T := TX1) (N := 18) hx hb hts (fun _ h => List.mem_cons_of_mem _ (List.mem_append_right _ h)) hown hK hP 0 rfl rfl 15 (by decide) (hts (.fieldLink RX1 72 "PuppetFilm$Floor" "week" "I") (List.mem_of_getElem? (i := 2) (by decide +kernel))) (fun _ h9 => h9) rfl dX1_turnWeek_10 ?_
  refine lv_icmp_eq (tgt := 29) hx hb dX1_turnWeek_13 (by decide) (fun c_2 => ?_) (fun c_2 => ?_)
  · have hP9 := hP.sub (ws' := [(h0, .inr (1, [.ref f_studio, .int 1, .int f_half, .ref f_taken, .ref f_on, .ref f_queues, .ref f_queued, .ref f_engaged, .ref f_dressing, .ref f_dressed, .ref f_standing, .ref f_stations, .int 0, .ref f_limits, .ref f_worked, .int f_week, .int f_stirred, .int f_idle])), (f_worked, .inl (cT 0, 6, .inl fwo))]) [0, 1] rfl
    have hD9 := hD.sub (ws' := [(h0, .inr (1, [.ref f_studio, .int 1, .int f_half, .ref f_taken, .ref f_on, .ref f_queues, .ref f_queued, .ref f_engaged, .ref f_dressing, .ref f_dressed, .ref f_standing, .ref f_stations, .int 0, .ref f_limits, .ref f_worked, .int f_week, .int f_stirred, .int f_idle])), (f_worked, .inl (cT 0, 6, .inl fwo))]) [0, 1] (by decide) rfl
    exact W.vret hx hb hr (fun t ht hW => ⟨⟨(), rfl, trivial, ⟨f_week, fwo, by rw [ht]; exact hP9, hD9⟩⟩, hS.F ht⟩) hS.2.2 dX1_turnWeek_29
  · refine lv_aload_n hx hb dX1_turnWeek_16 rfl (lv_at hl 1 rfl) ?_
    refine lv_iload_n hx hb dX1_turnWeek_17 rfl (lv_at hl 0 rfl) ?_
    refine va_put (D := D) (ci := 1) (v := .int x_1) (ty := .int) (C := RX1) (T := TX1) (N := 18) hx hb hts (fun _ h => List.mem_cons_of_mem _ (List.mem_append_right _ h)) tyX1 tyX1_ok nmX1 hown hK hP hD hS 0 rfl rfl 15 (by decide) (hts (.fieldLink RX1 72 "PuppetFilm$Floor" "week" "I") (List.mem_of_getElem? (i := 2) (by decide +kernel))) (fun _ h9 => h9) rfl (by decide +kernel) rfl rfl (Nat.le_of_ble_eq_true rfl) dX1_turnWeek_18 (fun H locs hP hD hS => ?_)
    have hP : va_P D vwCl [(h0, .inr (1, [.ref f_studio, .int 1, .int f_half, .ref f_taken, .ref f_on, .ref f_queues, .ref f_queued, .ref f_engaged, .ref f_dressing, .ref f_dressed, .ref f_standing, .ref f_stations, .int 0, .ref f_limits, .ref f_worked, .int x_1, .int f_stirred, .int f_idle])), (f_worked, .inl (cT 0, 6, .inl fwo))] _ := hP
    have hD : va_D A [(h0, .inr (1, [.ref f_studio, .int 1, .int f_half, .ref f_taken, .ref f_on, .ref f_queues, .ref f_queued, .ref f_engaged, .ref f_dressing, .ref f_dressed, .ref f_standing, .ref f_stations, .int 0, .ref f_limits, .ref f_worked, .int x_1, .int f_stirred, .int f_idle])), (f_worked, .inl (cT 0, 6, .inl fwo))] := hD
    refine lv_aload_n hx hb dX1_turnWeek_21 rfl (lv_at hl 1 rfl) ?_
    refine va_get (D := D) (ci := 1) (v := .ref f_worked) (C := RX1) (T := TX1) (N := 18) hx hb hts (fun _ h => List.mem_cons_of_mem _ (List.mem_append_right _ h)) hown hK hP 0 rfl rfl 14 (by decide) (hts (.fieldLink RX1 42 "PuppetFilm$Floor" "worked" "[I") (List.mem_of_getElem? (i := 3) (by decide +kernel))) (fun _ h9 => h9) rfl dX1_turnWeek_22 ?_
    refine lv_iconst (v := 0) hx hb dX1_turnWeek_25 (by decide) ?_
    have hF := va_free (wc := [(f_worked, .inl (cT 0, 6, .inl fwo))]) hD hS hA [1] rfl
    refine va_callv (va_runS (As := [.ref f_worked, .int 0]) (rest := []) ⟨hx, hb, hml, hown, hts⟩ (c_fill_6 l D cT f_worked fwo 0 _ ) (va_cwS 2 hts gX1_turnWeek_J7_fill_53178 rfl rfl rfl (by decide +kernel) ⟨Nat.le_of_ble_eq_true rfl, Nat.le_of_ble_eq_true rfl⟩) (ps_w hP hD hK hG [1] rfl rfl rfl) rfl rfl hl.1 rfl (lv_room (Nat.le_of_ble_eq_true rfl)) dX1_turnWeek_26 ⟨Nat.le_of_ble_eq_true rfl, Nat.le_of_ble_eq_true rfl⟩) hS (fun q _ h => hF q h) hF (fun uu9 tt9 H locs ht hvm wr_3 hB hz1 hk1 hS => ?_)
    obtain ⟨hP1, hD1⟩ := hB
    rw [ht] at hP1
    obtain ⟨hP, hD⟩ := va_join (wr := [(h0, .inr (1, [.ref f_studio, .int 1, .int f_half, .ref f_taken, .ref f_on, .ref f_queues, .ref f_queued, .ref f_engaged, .ref f_dressing, .ref f_dressed, .ref f_standing, .ref f_stations, .int 0, .ref f_limits, .ref f_worked, .int x_1, .int f_stirred, .int f_idle]))]) (w1 := [(f_worked, .inl (cT 0, 6, .inl (upd (upd (upd (upd (upd (upd fwo 0 0) 1 0) 2 0) 3 0) 4 0) 5 0)))]) hP hD [1] [0] rfl rfl (by decide) (by decide) hk1 hF hP1 hD1
    have hP : va_P D vwCl [(h0, .inr (1, [.ref f_studio, .int 1, .int f_half, .ref f_taken, .ref f_on, .ref f_queues, .ref f_queued, .ref f_engaged, .ref f_dressing, .ref f_dressed, .ref f_standing, .ref f_stations, .int 0, .ref f_limits, .ref f_worked, .int x_1, .int f_stirred, .int f_idle])), (f_worked, .inl (cT 0, 6, .inl (upd (upd (upd (upd (upd (upd fwo 0 0) 1 0) 2 0) 3 0) 4 0) 5 0)))] _ := hP
    have hD : va_D A [(h0, .inr (1, [.ref f_studio, .int 1, .int f_half, .ref f_taken, .ref f_on, .ref f_queues, .ref f_queued, .ref f_engaged, .ref f_dressing, .ref f_dressed, .ref f_standing, .ref f_stations, .int 0, .ref f_limits, .ref f_worked, .int x_1, .int f_stirred, .int f_idle])), (f_worked, .inl (cT 0, 6, .inl (upd (upd (upd (upd (upd (upd fwo 0 0) 1 0) 2 0) 3 0) 4 0) 5 0)))] := hD
    have hP9 := hP.sub (ws' := [(h0, .inr (1, [.ref f_studio, .int 1, .int f_half, .ref f_taken, .ref f_on, .ref f_queues, .ref f_queued, .ref f_engaged, .ref f_dressing, .ref f_dressed, .ref f_standing, .ref f_stations, .int 0, .ref f_limits, .ref f_worked, .int x_1, .int f_stirred, .int f_idle])), (f_worked, .inl (cT 0, 6, .inl (upd (upd (upd (upd (upd (upd fwo 0 0) 1 0) 2 0) 3 0) 4 0) 5 0)))]) [0, 1] rfl
    have hD9 := hD.sub (ws' := [(h0, .inr (1, [.ref f_studio, .int 1, .int f_half, .ref f_taken, .ref f_on, .ref f_queues, .ref f_queued, .ref f_engaged, .ref f_dressing, .ref f_dressed, .ref f_standing, .ref f_stations, .int 0, .ref f_limits, .ref f_worked, .int x_1, .int f_stirred, .int f_idle])), (f_worked, .inl (cT 0, 6, .inl (upd (upd (upd (upd (upd (upd fwo 0 0) 1 0) 2 0) 3 0) 4 0) 5 0)))]) [0, 1] (by decide) rfl
    exact W.vret hx hb hr (fun t ht hW => ⟨⟨(), rfl, trivial, ⟨x_1, (upd (upd (upd (upd (upd (upd fwo 0 0) 1 0) 2 0) 3 0) 4 0) 5 0), by rw [ht]; exact hP9, hD9⟩⟩, hS.F ht⟩) hS.2.2 dX1_turnWeek_29
theorem dX1_dropAllShot_0 : decode cX1_dropAllShot 0 = .ok (.iconst 0, 1) := by decide +kernel
theorem dX1_dropAllShot_1 : decode cX1_dropAllShot 1 = .ok (.istore_n 2, 1) := by decide +kernel
theorem dX1_dropAllShot_10 : decode cX1_dropAllShot 10 = .ok (.iaload, 1) := by decide +kernel
theorem dX1_dropAllShot_11 : decode cX1_dropAllShot 11 = .ok (.if_icmp .ge 51, 3) := by decide +kernel
theorem dX1_dropAllShot_2 : decode cX1_dropAllShot 2 = .ok (.iconst 0, 1) := by decide +kernel
theorem dX1_dropAllShot_3 : decode cX1_dropAllShot 3 = .ok (.istore_n 3, 1) := by decide +kernel
theorem dX1_dropAllShot_4 : decode cX1_dropAllShot 4 = .ok (.iload_n 3, 1) := by decide +kernel
theorem dX1_dropAllShot_5 : decode cX1_dropAllShot 5 = .ok (.aload_n 0, 1) := by decide +kernel
theorem dX1_dropAllShot_6 : decode cX1_dropAllShot 6 = .ok (.getfield 21, 3) := by decide +kernel
theorem dX1_dropAllShot_62 : decode cX1_dropAllShot 62 = .ok (.aload_n 0, 1) := by decide +kernel
theorem dX1_dropAllShot_63 : decode cX1_dropAllShot 63 = .ok (.dup, 1) := by decide +kernel
theorem dX1_dropAllShot_64 : decode cX1_dropAllShot 64 = .ok (.getfield 127, 3) := by decide +kernel
theorem dX1_dropAllShot_67 : decode cX1_dropAllShot 67 = .ok (.iload_n 2, 1) := by decide +kernel
theorem dX1_dropAllShot_68 : decode cX1_dropAllShot 68 = .ok (.aload_n 0, 1) := by decide +kernel
theorem dX1_dropAllShot_69 : decode cX1_dropAllShot 69 = .ok (.getfield 21, 3) := by decide +kernel
theorem dX1_dropAllShot_72 : decode cX1_dropAllShot 72 = .ok (.iload_n 1, 1) := by decide +kernel
theorem dX1_dropAllShot_73 : decode cX1_dropAllShot 73 = .ok (.iaload, 1) := by decide +kernel
theorem dX1_dropAllShot_74 : decode cX1_dropAllShot 74 = .ok (.if_icmp .eq 7, 3) := by decide +kernel
theorem dX1_dropAllShot_81 : decode cX1_dropAllShot 81 = .ok (.iconst 0, 1) := by decide +kernel
theorem dX1_dropAllShot_82 : decode cX1_dropAllShot 82 = .ok (.ior, 1) := by decide +kernel
theorem dX1_dropAllShot_83 : decode cX1_dropAllShot 83 = .ok (.putfield 127, 3) := by decide +kernel
theorem dX1_dropAllShot_86 : decode cX1_dropAllShot 86 = .ok (.aload_n 0, 1) := by decide +kernel
theorem dX1_dropAllShot_87 : decode cX1_dropAllShot 87 = .ok (.getfield 21, 3) := by decide +kernel
theorem dX1_dropAllShot_9 : decode cX1_dropAllShot 9 = .ok (.iload_n 1, 1) := by decide +kernel
theorem dX1_dropAllShot_90 : decode cX1_dropAllShot 90 = .ok (.iload_n 1, 1) := by decide +kernel
theorem dX1_dropAllShot_91 : decode cX1_dropAllShot 91 = .ok (.iload_n 2, 1) := by decide +kernel
theorem dX1_dropAllShot_92 : decode cX1_dropAllShot 92 = .ok (.iastore, 1) := by decide +kernel
theorem dX1_dropAllShot_93 : decode cX1_dropAllShot 93 = .ok (.return_, 1) := by decide +kernel
set_option maxHeartbeats 4000000 in
set_option maxRecDepth 100000 in
theorem c_X1_dropAllShot (l : Launch) (D : va_G) (cT : Nat → ClassId) (h0 : Nat) (p0 : Int32) (f_studio : Nat) (f_half : Int32) (f_taken : Nat) (f_on : Nat) (f_queues : Nat) (f_queued : Nat) (f_engaged : Nat) (f_dressing : Nat) (f_dressed : Nat) (f_standing : Nat) (f_stations : Nat) (f_limits : Nat) (f_worked : Nat) (f_week : Int32) (f_idle : Int32) (sz : Nat) (hu : vp_in p0 3) : Met l yX1_dropAllShot wsX1_dropAllShot ({ frames := 8, cells := 0, slots := 0, locals := 160 }) (va_Pc [.ref h0, .int p0] (PW D cT [(h0, .inr (1, [.ref f_studio, .int 1, .int f_half, .ref f_taken, .ref f_on, .ref f_queues, .ref f_queued, .ref f_engaged, .ref f_dressing, .ref f_dressed, .ref f_standing, .ref f_stations, .int 0, .ref f_limits, .ref f_worked, .int f_week, .int 0, .int f_idle])), (f_queued, .inl (cT 0, 3, .inl (fun _ => 0)))] sz)) (va_Qv (fun _ : Unit => True) (fun (_ : Unit) (t : State) => va_P D vwCl [(h0, .inr (1, [.ref f_studio, .int 1, .int f_half, .ref f_taken, .ref f_on, .ref f_queues, .ref f_queued, .ref f_engaged, .ref f_dressing, .ref f_dressed, .ref f_standing, .ref f_stations, .int 0, .ref f_limits, .ref f_worked, .int f_week, .int 0, .int f_idle])), (f_queued, .inl (cT 0, 3, .inl (fun _ => 0)))] t.heap ∧ va_D (va_A [(h0, .inr (1, [.ref f_studio, .int 1, .int f_half, .ref f_taken, .ref f_on, .ref f_queues, .ref f_queued, .ref f_engaged, .ref f_dressing, .ref f_dressed, .ref f_standing, .ref f_stations, .int 0, .ref f_limits, .ref f_worked, .int f_week, .int 0, .int f_idle])), (f_queued, .inl (cT 0, 3, .inl (fun _ => 0)))] sz) [(h0, .inr (1, [.ref f_studio, .int 1, .int f_half, .ref f_taken, .ref f_on, .ref f_queues, .ref f_queued, .ref f_engaged, .ref f_dressing, .ref f_dressed, .ref f_standing, .ref f_stations, .int 0, .ref f_limits, .ref f_worked, .int f_week, .int 0, .int f_idle])), (f_queued, .inl (cT 0, 3, .inl (fun _ => 0)))]) (va_A [(h0, .inr (1, [.ref f_studio, .int 1, .int f_half, .ref f_taken, .ref f_on, .ref f_queues, .ref f_queued, .ref f_engaged, .ref f_dressing, .ref f_dressed, .ref f_standing, .ref f_stations, .int 0, .ref f_limits, .ref f_worked, .int f_week, .int 0, .int f_idle])), (f_queued, .inl (cT 0, 3, .inl (fun _ => 0)))] sz)) 0 0 (va_A [(h0, .inr (1, [.ref f_studio, .int 1, .int f_half, .ref f_taken, .ref f_on, .ref f_queues, .ref f_queued, .ref f_engaged, .ref f_dressing, .ref f_dressed, .ref f_standing, .ref f_stations, .int 0, .ref f_limits, .ref f_worked, .int f_week, .int 0, .int f_idle])), (f_queued, .inl (cT 0, 3, .inl (fun _ => 0)))] sz) := by
  refine Met.ofW (cc := cX1_dropAllShot) (maxL := 5) (ret := none) (by decide) rfl ?_
  intro p e s m args below meth c s₁ B hml hv
  obtain ⟨rfl, hsz, hP, hK, hD0, hG⟩ := hv
  have hx := B.exec
  have hb := B.bytes
  have hr := B.returns
  have hts := atoms_spec (ws := wsX1_dropAllShot) B.pre
  have hown : s.vm.findClass RX1 = some m.cls := findClass_of_methodNamed B.named
  have hlocks := B.notSynchronized
  subst hsz
  have hD := hD0.self (sz := s.heap.size)
  generalize hAe : va_A [(h0, .inr (1, [.ref f_studio, .int 1, .int f_half, .ref f_taken, .ref f_on, .ref f_queues, .ref f_queued, .ref f_engaged, .ref f_dressing, .ref f_dressed, .ref f_standing, .ref f_stations, .int 0, .ref f_limits, .ref f_worked, .int f_week, .int 0, .int f_idle])), (f_queued, .inl (cT 0, 3, .inl (fun _ => 0)))] s.heap.size = A at hD ⊢
  have hA : ∀ q : Nat, s.heap.size ≤ q → A q := fun q h => by rw [← hAe]; exact Or.inr h
  have hS : va_S A s.heap s.heap [] := va_S.rf
  have hP : va_P D vwCl [(h0, .inr (1, [.ref f_studio, .int 1, .int f_half, .ref f_taken, .ref f_on, .ref f_queues, .ref f_queued, .ref f_engaged, .ref f_dressing, .ref f_dressed, .ref f_standing, .ref f_stations, .int 0, .ref f_limits, .ref f_worked, .int f_week, .int 0, .int f_idle])), (f_queued, .inl (cT 0, 3, .inl (fun _ => 0)))] s.heap := hP
  have hl := lv_entry ([.ref h0, .int p0]) (n := 5) (Nat.le_of_ble_eq_true rfl)
  rw [lg_entry_eq]
  generalize (lg_sl ([.ref h0, .int p0]) ++ List.replicate (5 - (lg_sl ([.ref h0, .int p0])).length) Slot.unset).toArray = ls at hl ⊢
  have hl : lv_has ls 5 [(0, .ref h0), (1, .int p0)] := hl
  refine lv_iconst (v := 0) hx hb dX1_dropAllShot_0 (by decide) ?_
  refine lv_istore_n (lv' := [(2, .int 0), (0, .ref h0), (1, .int p0)]) hx hb dX1_dropAllShot_1 rfl hl (by decide) rfl (fun ls hl => ?_)
  refine lv_iconst (v := 0) hx hb dX1_dropAllShot_2 (by decide) ?_
  refine lv_istore_n (lv' := [(3, .int 0), (2, .int 0), (0, .ref h0), (1, .int p0)]) hx hb dX1_dropAllShot_3 rfl hl (by decide) rfl (fun ls hl => ?_)
  refine lv_iload_n hx hb dX1_dropAllShot_4 rfl (lv_at hl 0 rfl) ?_
  refine lv_aload_n hx hb dX1_dropAllShot_5 rfl (lv_at hl 2 rfl) ?_
  refine va_get (D := D) (ci := 1) (v := .ref f_queued) (C := RX1) (T := TX1) (N := 18) hx hb hts (fun _ h => List.mem_cons_of_mem _ (List.mem_append_left _ (List.mem_append_left _ (List.mem_append_right _ h)))) hown hK hP 0 rfl rfl 6 (by decide) (hts (.fieldLink RX1 21 "PuppetFilm$Floor" "queued" "[I") (List.mem_of_getElem? (i := 1) (by decide +kernel))) (fun _ h9 => h9) rfl dX1_dropAllShot_6 ?_
  refine lv_iload_n hx hb dX1_dropAllShot_9 rfl (lv_at hl 3 rfl) ?_
  refine va_iald hx hb hK hP 1 0 rfl rfl hu dX1_dropAllShot_10 ?_
  refine lv_topi (fun x_1 ex_1 => ?_)
  obtain rfl : x_1 = 0 := ex_1.trans (rfl)
  refine lv_icmp_ge (tgt := 62) hx hb dX1_dropAllShot_11 (by decide) (fun _ => ?_) (fun c9 => absurd c9 (by decide))
  refine lv_aload_n hx hb dX1_dropAllShot_62 rfl (lv_at hl 2 rfl) ?_
  refine lv_dup hx hb dX1_dropAllShot_63 rfl ?_
  refine va_get (D := D) (ci := 1) (v := .int 0) (C := RX1) (T := TX1) (N := 18) hx hb hts (fun _ h => List.mem_cons_of_mem _ (List.mem_append_left _ (List.mem_append_left _ (List.mem_append_right _ h)))) hown hK hP 0 rfl rfl 16 (by decide) (hts (.fieldLink RX1 127 "PuppetFilm$Floor" "stirred" "Z") (List.mem_of_getElem? (i := 3) (by decide +kernel))) (fun _ h9 => h9) rfl dX1_dropAllShot_64 ?_
  refine lv_iload_n hx hb dX1_dropAllShot_67 rfl (lv_at hl 1 rfl) ?_
  refine lv_aload_n hx hb dX1_dropAllShot_68 rfl (lv_at hl 2 rfl) ?_
  refine va_get (D := D) (ci := 1) (v := .ref f_queued) (C := RX1) (T := TX1) (N := 18) hx hb hts (fun _ h => List.mem_cons_of_mem _ (List.mem_append_left _ (List.mem_append_left _ (List.mem_append_right _ h)))) hown hK hP 0 rfl rfl 6 (by decide) (hts (.fieldLink RX1 21 "PuppetFilm$Floor" "queued" "[I") (List.mem_of_getElem? (i := 1) (by decide +kernel))) (fun _ h9 => h9) rfl dX1_dropAllShot_69 ?_
  refine lv_iload_n hx hb dX1_dropAllShot_72 rfl (lv_at hl 3 rfl) ?_
  refine va_iald hx hb hK hP 1 0 rfl rfl hu dX1_dropAllShot_73 ?_
  refine lv_topi (fun x_2 ex_2 => ?_)
  obtain rfl : x_2 = 0 := ex_2.trans (rfl)
  refine lv_icmp_eq (tgt := 81) hx hb dX1_dropAllShot_74 (by decide) (fun _ => ?_) (fun c9 => absurd c9 (by decide))
  refine lv_iconst (v := 0) hx hb dX1_dropAllShot_81 (by decide) ?_
  refine lv_ior hx hb dX1_dropAllShot_82 ?_
  refine lv_topi (fun z_3 ez_3 => ?_)
  obtain rfl : z_3 = 0 := ez_3.trans (by decide)
  refine va_put (D := D) (ci := 1) (v := .int 0) (ty := .boolean) (C := RX1) (T := TX1) (N := 18) hx hb hts (fun _ h => List.mem_cons_of_mem _ (List.mem_append_left _ (List.mem_append_left _ (List.mem_append_right _ h)))) tyX1 tyX1_ok nmX1 hown hK hP hD hS 0 rfl rfl 16 (by decide) (hts (.fieldLink RX1 127 "PuppetFilm$Floor" "stirred" "Z") (List.mem_of_getElem? (i := 3) (by decide +kernel))) (fun _ h9 => h9) rfl (by decide +kernel) rfl rfl (Nat.le_of_ble_eq_true rfl) dX1_dropAllShot_83 (fun H locs hP hD hS => ?_)
  have hP : va_P D vwCl [(h0, .inr (1, [.ref f_studio, .int 1, .int f_half, .ref f_taken, .ref f_on, .ref f_queues, .ref f_queued, .ref f_engaged, .ref f_dressing, .ref f_dressed, .ref f_standing, .ref f_stations, .int 0, .ref f_limits, .ref f_worked, .int f_week, .int 0, .int f_idle])), (f_queued, .inl (cT 0, 3, .inl (fun _ => 0)))] _ := hP
  have hD : va_D A [(h0, .inr (1, [.ref f_studio, .int 1, .int f_half, .ref f_taken, .ref f_on, .ref f_queues, .ref f_queued, .ref f_engaged, .ref f_dressing, .ref f_dressed, .ref f_standing, .ref f_stations, .int 0, .ref f_limits, .ref f_worked, .int f_week, .int 0, .int f_idle])), (f_queued, .inl (cT 0, 3, .inl (fun _ => 0)))] := hD
  refine lv_aload_n hx hb dX1_dropAllShot_86 rfl (lv_at hl 2 rfl) ?_
  refine va_get (D := D) (ci := 1) (v := .ref f_queued) (C := RX1) (T := TX1) (N := 18) hx hb hts (fun _ h => List.mem_cons_of_mem _ (List.mem_append_left _ (List.mem_append_left _ (List.mem_append_right _ h)))) hown hK hP 0 rfl rfl 6 (by decide) (hts (.fieldLink RX1 21 "PuppetFilm$Floor" "queued" "[I") (List.mem_of_getElem? (i := 1) (by decide +kernel))) (fun _ h9 => h9) rfl dX1_dropAllShot_87 ?_
  refine lv_iload_n hx hb dX1_dropAllShot_90 rfl (lv_at hl 3 rfl) ?_
  refine lv_iload_n hx hb dX1_dropAllShot_91 rfl (lv_at hl 1 rfl) ?_
  refine va_iast hx hb hK hP hD hS 1 0 rfl rfl hu dX1_dropAllShot_92 (fun H locs hP hD hS => ?_)
  rw [upd_z] at hP hD
  have hP : va_P D vwCl [(h0, .inr (1, [.ref f_studio, .int 1, .int f_half, .ref f_taken, .ref f_on, .ref f_queues, .ref f_queued, .ref f_engaged, .ref f_dressing, .ref f_dressed, .ref f_standing, .ref f_stations, .int 0, .ref f_limits, .ref f_worked, .int f_week, .int 0, .int f_idle])), (f_queued, .inl (cT 0, 3, .inl (fun _ => 0)))] _ := hP
  have hD : va_D A [(h0, .inr (1, [.ref f_studio, .int 1, .int f_half, .ref f_taken, .ref f_on, .ref f_queues, .ref f_queued, .ref f_engaged, .ref f_dressing, .ref f_dressed, .ref f_standing, .ref f_stations, .int 0, .ref f_limits, .ref f_worked, .int f_week, .int 0, .int f_idle])), (f_queued, .inl (cT 0, 3, .inl (fun _ => 0)))] := hD
  have hP9 := hP.sub (ws' := [(h0, .inr (1, [.ref f_studio, .int 1, .int f_half, .ref f_taken, .ref f_on, .ref f_queues, .ref f_queued, .ref f_engaged, .ref f_dressing, .ref f_dressed, .ref f_standing, .ref f_stations, .int 0, .ref f_limits, .ref f_worked, .int f_week, .int 0, .int f_idle])), (f_queued, .inl (cT 0, 3, .inl (fun _ => 0)))]) [0, 1] rfl
  have hD9 := hD.sub (ws' := [(h0, .inr (1, [.ref f_studio, .int 1, .int f_half, .ref f_taken, .ref f_on, .ref f_queues, .ref f_queued, .ref f_engaged, .ref f_dressing, .ref f_dressed, .ref f_standing, .ref f_stations, .int 0, .ref f_limits, .ref f_worked, .int f_week, .int 0, .int f_idle])), (f_queued, .inl (cT 0, 3, .inl (fun _ => 0)))]) [0, 1] (by decide) rfl
  exact W.vret hx hb hr (fun t ht hW => ⟨⟨(), rfl, trivial, ⟨by rw [ht]; exact hP9, hD9⟩⟩, hS.F ht⟩) hS.2.2 dX1_dropAllShot_93
theorem dX1_beginFirst_0 : decode cX1_beginFirst 0 = .ok (.iconst 0, 1) := by decide +kernel
theorem dX1_beginFirst_1 : decode cX1_beginFirst 1 = .ok (.istore_n 2, 1) := by decide +kernel
theorem dX1_beginFirst_2 : decode cX1_beginFirst 2 = .ok (.iload_n 2, 1) := by decide +kernel
theorem dX1_beginFirst_3 : decode cX1_beginFirst 3 = .ok (.aload_n 0, 1) := by decide +kernel
theorem dX1_beginFirst_4 : decode cX1_beginFirst 4 = .ok (.getfield 21, 3) := by decide +kernel
theorem dX1_beginFirst_53 : decode cX1_beginFirst 53 = .ok (.return_, 1) := by decide +kernel
theorem dX1_beginFirst_7 : decode cX1_beginFirst 7 = .ok (.iload_n 1, 1) := by decide +kernel
theorem dX1_beginFirst_8 : decode cX1_beginFirst 8 = .ok (.iaload, 1) := by decide +kernel
theorem dX1_beginFirst_9 : decode cX1_beginFirst 9 = .ok (.if_icmp .ge 44, 3) := by decide +kernel
set_option maxHeartbeats 4000000 in
set_option maxRecDepth 100000 in
theorem c_X1_beginFirst (l : Launch) (D : va_G) (cT : Nat → ClassId) (h0 : Nat) (p0 : Int32) (f_studio : Nat) (f_half : Int32) (f_taken : Nat) (f_on : Nat) (f_queues : Nat) (f_queued : Nat) (f_engaged : Nat) (f_dressing : Nat) (f_dressed : Nat) (f_standing : Nat) (f_stations : Nat) (f_limits : Nat) (f_worked : Nat) (f_week : Int32) (f_idle : Int32) (sz : Nat) (hu : vp_in p0 3) : Met l yX1_beginFirst wsX1_beginFirst ({ frames := 8, cells := 0, slots := 0, locals := 160 }) (va_Pc [.ref h0, .int p0] (PW D cT [(h0, .inr (1, [.ref f_studio, .int 1, .int f_half, .ref f_taken, .ref f_on, .ref f_queues, .ref f_queued, .ref f_engaged, .ref f_dressing, .ref f_dressed, .ref f_standing, .ref f_stations, .int 0, .ref f_limits, .ref f_worked, .int f_week, .int 0, .int f_idle])), (f_queued, .inl (cT 0, 3, .inl (fun _ => 0)))] sz)) (va_Qv (fun _ : Unit => True) (fun (_ : Unit) (t : State) => va_P D vwCl [(h0, .inr (1, [.ref f_studio, .int 1, .int f_half, .ref f_taken, .ref f_on, .ref f_queues, .ref f_queued, .ref f_engaged, .ref f_dressing, .ref f_dressed, .ref f_standing, .ref f_stations, .int 0, .ref f_limits, .ref f_worked, .int f_week, .int 0, .int f_idle])), (f_queued, .inl (cT 0, 3, .inl (fun _ => 0)))] t.heap ∧ va_D (va_A [(h0, .inr (1, [.ref f_studio, .int 1, .int f_half, .ref f_taken, .ref f_on, .ref f_queues, .ref f_queued, .ref f_engaged, .ref f_dressing, .ref f_dressed, .ref f_standing, .ref f_stations, .int 0, .ref f_limits, .ref f_worked, .int f_week, .int 0, .int f_idle])), (f_queued, .inl (cT 0, 3, .inl (fun _ => 0)))] sz) [(h0, .inr (1, [.ref f_studio, .int 1, .int f_half, .ref f_taken, .ref f_on, .ref f_queues, .ref f_queued, .ref f_engaged, .ref f_dressing, .ref f_dressed, .ref f_standing, .ref f_stations, .int 0, .ref f_limits, .ref f_worked, .int f_week, .int 0, .int f_idle])), (f_queued, .inl (cT 0, 3, .inl (fun _ => 0)))]) (va_A [(h0, .inr (1, [.ref f_studio, .int 1, .int f_half, .ref f_taken, .ref f_on, .ref f_queues, .ref f_queued, .ref f_engaged, .ref f_dressing, .ref f_dressed, .ref f_standing, .ref f_stations, .int 0, .ref f_limits, .ref f_worked, .int f_week, .int 0, .int f_idle])), (f_queued, .inl (cT 0, 3, .inl (fun _ => 0)))] sz)) 0 0 (va_A [(h0, .inr (1, [.ref f_studio, .int 1, .int f_half, .ref f_taken, .ref f_on, .ref f_queues, .ref f_queued, .ref f_engaged, .ref f_dressing, .ref f_dressed, .ref f_standing, .ref f_stations, .int 0, .ref f_limits, .ref f_worked, .int f_week, .int 0, .int f_idle])), (f_queued, .inl (cT 0, 3, .inl (fun _ => 0)))] sz) := by
  refine Met.ofW (cc := cX1_beginFirst) (maxL := 4) (ret := none) (by decide) rfl ?_
  intro p e s m args below meth c s₁ B hml hv
  obtain ⟨rfl, hsz, hP, hK, hD0, hG⟩ := hv
  have hx := B.exec
  have hb := B.bytes
  have hr := B.returns
  have hts := atoms_spec (ws := wsX1_beginFirst) B.pre
  have hown : s.vm.findClass RX1 = some m.cls := findClass_of_methodNamed B.named
  have hlocks := B.notSynchronized
  subst hsz
  have hD := hD0.self (sz := s.heap.size)
  generalize hAe : va_A [(h0, .inr (1, [.ref f_studio, .int 1, .int f_half, .ref f_taken, .ref f_on, .ref f_queues, .ref f_queued, .ref f_engaged, .ref f_dressing, .ref f_dressed, .ref f_standing, .ref f_stations, .int 0, .ref f_limits, .ref f_worked, .int f_week, .int 0, .int f_idle])), (f_queued, .inl (cT 0, 3, .inl (fun _ => 0)))] s.heap.size = A at hD ⊢
  have hA : ∀ q : Nat, s.heap.size ≤ q → A q := fun q h => by rw [← hAe]; exact Or.inr h
  have hS : va_S A s.heap s.heap [] := va_S.rf
  have hP : va_P D vwCl [(h0, .inr (1, [.ref f_studio, .int 1, .int f_half, .ref f_taken, .ref f_on, .ref f_queues, .ref f_queued, .ref f_engaged, .ref f_dressing, .ref f_dressed, .ref f_standing, .ref f_stations, .int 0, .ref f_limits, .ref f_worked, .int f_week, .int 0, .int f_idle])), (f_queued, .inl (cT 0, 3, .inl (fun _ => 0)))] s.heap := hP
  have hl := lv_entry ([.ref h0, .int p0]) (n := 4) (Nat.le_of_ble_eq_true rfl)
  rw [lg_entry_eq]
  generalize (lg_sl ([.ref h0, .int p0]) ++ List.replicate (4 - (lg_sl ([.ref h0, .int p0])).length) Slot.unset).toArray = ls at hl ⊢
  have hl : lv_has ls 4 [(0, .ref h0), (1, .int p0)] := hl
  refine lv_iconst (v := 0) hx hb dX1_beginFirst_0 (by decide) ?_
  refine lv_istore_n (lv' := [(2, .int 0), (0, .ref h0), (1, .int p0)]) hx hb dX1_beginFirst_1 rfl hl (by decide) rfl (fun ls hl => ?_)
  refine lv_iload_n hx hb dX1_beginFirst_2 rfl (lv_at hl 0 rfl) ?_
  refine lv_aload_n hx hb dX1_beginFirst_3 rfl (lv_at hl 1 rfl) ?_
  refine va_get (D := D) (ci := 1) (v := .ref f_queued) (C := RX1) (T := TX1) (N := 18) hx hb hts (fun _ h => List.mem_cons_of_mem _ (List.mem_append_left _ (List.mem_append_left _ (List.mem_append_left _ (List.mem_append_right _ h))))) hown hK hP 0 rfl rfl 6 (by decide) (hts (.fieldLink RX1 21 "PuppetFilm$Floor" "queued" "[I") (List.mem_of_getElem? (i := 1) (by decide +kernel))) (fun _ h9 => h9) rfl dX1_beginFirst_4 ?_
  refine lv_iload_n hx hb dX1_beginFirst_7 rfl (lv_at hl 2 rfl) ?_
  refine va_iald hx hb hK hP 1 0 rfl rfl hu dX1_beginFirst_8 ?_
  refine lv_topi (fun x_1 ex_1 => ?_)
  obtain rfl : x_1 = 0 := ex_1.trans (rfl)
  refine lv_icmp_ge (tgt := 53) hx hb dX1_beginFirst_9 (by decide) (fun _ => ?_) (fun c9 => absurd c9 (by decide))
  have hP9 := hP.sub (ws' := [(h0, .inr (1, [.ref f_studio, .int 1, .int f_half, .ref f_taken, .ref f_on, .ref f_queues, .ref f_queued, .ref f_engaged, .ref f_dressing, .ref f_dressed, .ref f_standing, .ref f_stations, .int 0, .ref f_limits, .ref f_worked, .int f_week, .int 0, .int f_idle])), (f_queued, .inl (cT 0, 3, .inl (fun _ => 0)))]) [0, 1] rfl
  have hD9 := hD.sub (ws' := [(h0, .inr (1, [.ref f_studio, .int 1, .int f_half, .ref f_taken, .ref f_on, .ref f_queues, .ref f_queued, .ref f_engaged, .ref f_dressing, .ref f_dressed, .ref f_standing, .ref f_stations, .int 0, .ref f_limits, .ref f_worked, .int f_week, .int 0, .int f_idle])), (f_queued, .inl (cT 0, 3, .inl (fun _ => 0)))]) [0, 1] (by decide) rfl
  exact W.vret hx hb hr (fun t ht hW => ⟨⟨(), rfl, trivial, ⟨by rw [ht]; exact hP9, hD9⟩⟩, hS.F ht⟩) hS.2.2 dX1_beginFirst_53
theorem dX1_attend_0 : decode cX1_attend 0 = .ok (.aload_n 0, 1) := by decide +kernel
theorem dX1_attend_1 : decode cX1_attend 1 = .ok (.getfield 15, 3) := by decide +kernel
theorem dX1_attend_10 : decode cX1_attend 10 = .ok (.aload_n 0, 1) := by decide +kernel
theorem dX1_attend_11 : decode cX1_attend 11 = .ok (.iload_n 1, 1) := by decide +kernel
theorem dX1_attend_12 : decode cX1_attend 12 = .ok (.invokevirtual 134, 3) := by decide +kernel
theorem dX1_attend_15 : decode cX1_attend 15 = .ok (.aload_n 0, 1) := by decide +kernel
theorem dX1_attend_16 : decode cX1_attend 16 = .ok (.iload_n 1, 1) := by decide +kernel
theorem dX1_attend_17 : decode cX1_attend 17 = .ok (.invokevirtual 137, 3) := by decide +kernel
theorem dX1_attend_20 : decode cX1_attend 20 = .ok (.aload_n 0, 1) := by decide +kernel
theorem dX1_attend_21 : decode cX1_attend 21 = .ok (.getfield 45, 3) := by decide +kernel
theorem dX1_attend_24 : decode cX1_attend 24 = .ok (.aload_n 0, 1) := by decide +kernel
theorem dX1_attend_25 : decode cX1_attend 25 = .ok (.getfield 15, 3) := by decide +kernel
theorem dX1_attend_28 : decode cX1_attend 28 = .ok (.iload_n 1, 1) := by decide +kernel
theorem dX1_attend_29 : decode cX1_attend 29 = .ok (.iaload, 1) := by decide +kernel
theorem dX1_attend_30 : decode cX1_attend 30 = .ok (.invokevirtual 93, 3) := by decide +kernel
theorem dX1_attend_33 : decode cX1_attend 33 = .ok (.astore_n 2, 1) := by decide +kernel
theorem dX1_attend_34 : decode cX1_attend 34 = .ok (.aload_n 2, 1) := by decide +kernel
theorem dX1_attend_35 : decode cX1_attend 35 = .ok (.ifnonnull 4, 3) := by decide +kernel
theorem dX1_attend_38 : decode cX1_attend 38 = .ok (.return_, 1) := by decide +kernel
theorem dX1_attend_4 : decode cX1_attend 4 = .ok (.iload_n 1, 1) := by decide +kernel
theorem dX1_attend_5 : decode cX1_attend 5 = .ok (.iaload, 1) := by decide +kernel
theorem dX1_attend_6 : decode cX1_attend 6 = .ok (.iconst (-1), 1) := by decide +kernel
theorem dX1_attend_7 : decode cX1_attend 7 = .ok (.if_icmp .ne 13, 3) := by decide +kernel
set_option maxRecDepth 20000 in
theorem ggX1_attend_X1_beginFirst : GoodIn wsX1_attend wsX1_beginFirst := goodIn_r _ [48, 10, 1, 12, 13, 14, 15, 8, 16, 17, 18, 19, 20, 21, 22, 49, 50, 51, 52, 2, 4, 28, 29, 30, 31, 32, 33, 53, 54, 55, 56, 57, 58, 59, 60, 61, 62, 63, 64, 65, 66, 67, 68, 69, 70, 71, 72, 73, 74, 41, 42, 43, 44, 39, 40, 147, 148, 149, 150, 151, 152, 153, 154, 155, 156, 157, 158, 159, 160, 161, 162, 163, 164, 165, 166, 167, 168, 169, 170, 171, 172, 173, 174, 175, 176, 177, 178, 179, 180, 181, 182, 183, 184, 185, 186, 187, 188, 189, 190, 191, 192, 193, 194, 195, 196, 197] (by decide +kernel) (by decide +kernel)
set_option maxRecDepth 20000 in
theorem gX1_attend_X1_beginFirst : GoodIn wsX1_attend (wsV RX1 137 RX1 yX1_beginFirst wsX1_beginFirst) := goodIn_app (goodIn_of _ (by decide +kernel)) ggX1_attend_X1_beginFirst
set_option maxRecDepth 20000 in
theorem ggX1_attend_X1_dropAllShot : GoodIn wsX1_attend wsX1_dropAllShot := goodIn_r _ [9, 10, 11, 12, 13, 14, 15, 8, 16, 17, 18, 19, 20, 21, 22, 23, 24, 25, 26, 2, 27, 28, 29, 30, 31, 32, 33, 34, 35, 36, 37, 38, 39, 40, 41, 42, 43, 44, 147, 148, 149, 150, 151, 152, 153, 154, 155, 156, 157, 158, 159, 160, 161, 162, 163, 164, 165, 166, 167, 168, 169, 170, 171, 172, 173, 174, 175, 176, 177, 178, 179, 180, 181, 182, 183, 184, 185, 186] (by decide +kernel) (by decide +kernel)
set_option maxRecDepth 20000 in
theorem gX1_attend_X1_dropAllShot : GoodIn wsX1_attend (wsV RX1 134 RX1 yX1_dropAllShot wsX1_dropAllShot) := goodIn_app (goodIn_of _ (by decide +kernel)) ggX1_attend_X1_dropAllShot
set_option maxRecDepth 20000 in
theorem ggX1_attend_X8_shotAt : GoodIn wsX1_attend wsX8_shotAt := goodIn_r _ [32, 33, 180, 181, 182, 183, 184, 185, 186] (by decide +kernel) (by decide +kernel)
set_option maxRecDepth 20000 in
theorem gX1_attend_X8_shotAt : GoodIn wsX1_attend (wsV RX1 93 RX8 yX8_shotAt wsX8_shotAt) := goodIn_app (goodIn_of _ (by decide +kernel)) ggX1_attend_X8_shotAt
set_option maxHeartbeats 4000000 in
set_option maxRecDepth 100000 in
theorem c_X1_attend (l : Launch) (D : va_G) (cT : Nat → ClassId) (h0 : Nat) (p0 : Int32) (f_studio : Nat) (f_half : Int32) (f_taken : Nat) (f_on : Nat) (f_queues : Nat) (f_queued : Nat) (f_engaged : Nat) (f_dressing : Nat) (f_dressed : Nat) (f_standing : Nat) (f_stations : Nat) (f_limits : Nat) (f_worked : Nat) (f_week : Int32) (f_idle : Int32) (fon : Nat → Int32) (s_puppets : Nat) (s_shots : Nat) (s_sounds : Nat) (s_rates : Nat) (s_dresses : Nat) (sz : Nat) (hu : vp_in p0 3) (hon : ∀ k, k < 3 → fon k = -1) : Met l yX1_attend wsX1_attend ({ frames := 9, cells := 0, slots := 0, locals := 220 }) (va_Pc [.ref h0, .int p0] (PW D cT [(h0, .inr (1, [.ref f_studio, .int 1, .int f_half, .ref f_taken, .ref f_on, .ref f_queues, .ref f_queued, .ref f_engaged, .ref f_dressing, .ref f_dressed, .ref f_standing, .ref f_stations, .int 0, .ref f_limits, .ref f_worked, .int f_week, .int 0, .int f_idle])), (f_on, .inl (cT 0, 3, .inl fon)), (f_queued, .inl (cT 0, 3, .inl (fun _ => 0))), (f_studio, .inr (8, [.ref s_puppets, .int 0, .ref s_shots, .int 0, .ref s_sounds, .ref s_rates, .ref s_dresses])), (s_shots, .inl (cT 5, 12, .inr (.inr (.inr (.inr (fun _ => none))))))] sz)) (va_Qv (fun _ : Unit => True) (fun (_ : Unit) (t : State) => va_P D vwCl [(h0, .inr (1, [.ref f_studio, .int 1, .int f_half, .ref f_taken, .ref f_on, .ref f_queues, .ref f_queued, .ref f_engaged, .ref f_dressing, .ref f_dressed, .ref f_standing, .ref f_stations, .int 0, .ref f_limits, .ref f_worked, .int f_week, .int 0, .int f_idle])), (f_on, .inl (cT 0, 3, .inl fon)), (f_queued, .inl (cT 0, 3, .inl (fun _ => 0))), (f_studio, .inr (8, [.ref s_puppets, .int 0, .ref s_shots, .int 0, .ref s_sounds, .ref s_rates, .ref s_dresses])), (s_shots, .inl (cT 5, 12, .inr (.inr (.inr (.inr (fun _ => none))))))] t.heap ∧ va_D (va_A [(h0, .inr (1, [.ref f_studio, .int 1, .int f_half, .ref f_taken, .ref f_on, .ref f_queues, .ref f_queued, .ref f_engaged, .ref f_dressing, .ref f_dressed, .ref f_standing, .ref f_stations, .int 0, .ref f_limits, .ref f_worked, .int f_week, .int 0, .int f_idle])), (f_on, .inl (cT 0, 3, .inl fon)), (f_queued, .inl (cT 0, 3, .inl (fun _ => 0))), (f_studio, .inr (8, [.ref s_puppets, .int 0, .ref s_shots, .int 0, .ref s_sounds, .ref s_rates, .ref s_dresses])), (s_shots, .inl (cT 5, 12, .inr (.inr (.inr (.inr (fun _ => none))))))] sz) [(h0, .inr (1, [.ref f_studio, .int 1, .int f_half, .ref f_taken, .ref f_on, .ref f_queues, .ref f_queued, .ref f_engaged, .ref f_dressing, .ref f_dressed, .ref f_standing, .ref f_stations, .int 0, .ref f_limits, .ref f_worked, .int f_week, .int 0, .int f_idle])), (f_on, .inl (cT 0, 3, .inl fon)), (f_queued, .inl (cT 0, 3, .inl (fun _ => 0))), (f_studio, .inr (8, [.ref s_puppets, .int 0, .ref s_shots, .int 0, .ref s_sounds, .ref s_rates, .ref s_dresses])), (s_shots, .inl (cT 5, 12, .inr (.inr (.inr (.inr (fun _ => none))))))]) (va_A [(h0, .inr (1, [.ref f_studio, .int 1, .int f_half, .ref f_taken, .ref f_on, .ref f_queues, .ref f_queued, .ref f_engaged, .ref f_dressing, .ref f_dressed, .ref f_standing, .ref f_stations, .int 0, .ref f_limits, .ref f_worked, .int f_week, .int 0, .int f_idle])), (f_on, .inl (cT 0, 3, .inl fon)), (f_queued, .inl (cT 0, 3, .inl (fun _ => 0))), (f_studio, .inr (8, [.ref s_puppets, .int 0, .ref s_shots, .int 0, .ref s_sounds, .ref s_rates, .ref s_dresses])), (s_shots, .inl (cT 5, 12, .inr (.inr (.inr (.inr (fun _ => none))))))] sz)) 0 0 (va_A [(h0, .inr (1, [.ref f_studio, .int 1, .int f_half, .ref f_taken, .ref f_on, .ref f_queues, .ref f_queued, .ref f_engaged, .ref f_dressing, .ref f_dressed, .ref f_standing, .ref f_stations, .int 0, .ref f_limits, .ref f_worked, .int f_week, .int 0, .int f_idle])), (f_on, .inl (cT 0, 3, .inl fon)), (f_queued, .inl (cT 0, 3, .inl (fun _ => 0))), (f_studio, .inr (8, [.ref s_puppets, .int 0, .ref s_shots, .int 0, .ref s_sounds, .ref s_rates, .ref s_dresses])), (s_shots, .inl (cT 5, 12, .inr (.inr (.inr (.inr (fun _ => none))))))] sz) := by
  refine Met.ofW (cc := cX1_attend) (maxL := 3) (ret := none) (by decide) rfl ?_
  intro p e s m args below meth c s₁ B hml hv
  obtain ⟨rfl, hsz, hP, hK, hD0, hG⟩ := hv
  have hx := B.exec
  have hb := B.bytes
  have hr := B.returns
  have hts := atoms_spec (ws := wsX1_attend) B.pre
  have hown : s.vm.findClass RX1 = some m.cls := findClass_of_methodNamed B.named
  have hlocks := B.notSynchronized
  subst hsz
  have hD := hD0.self (sz := s.heap.size)
  generalize hAe : va_A [(h0, .inr (1, [.ref f_studio, .int 1, .int f_half, .ref f_taken, .ref f_on, .ref f_queues, .ref f_queued, .ref f_engaged, .ref f_dressing, .ref f_dressed, .ref f_standing, .ref f_stations, .int 0, .ref f_limits, .ref f_worked, .int f_week, .int 0, .int f_idle])), (f_on, .inl (cT 0, 3, .inl fon)), (f_queued, .inl (cT 0, 3, .inl (fun _ => 0))), (f_studio, .inr (8, [.ref s_puppets, .int 0, .ref s_shots, .int 0, .ref s_sounds, .ref s_rates, .ref s_dresses])), (s_shots, .inl (cT 5, 12, .inr (.inr (.inr (.inr (fun _ => none))))))] s.heap.size = A at hD ⊢
  have hA : ∀ q : Nat, s.heap.size ≤ q → A q := fun q h => by rw [← hAe]; exact Or.inr h
  have hS : va_S A s.heap s.heap [] := va_S.rf
  have hP : va_P D vwCl [(h0, .inr (1, [.ref f_studio, .int 1, .int f_half, .ref f_taken, .ref f_on, .ref f_queues, .ref f_queued, .ref f_engaged, .ref f_dressing, .ref f_dressed, .ref f_standing, .ref f_stations, .int 0, .ref f_limits, .ref f_worked, .int f_week, .int 0, .int f_idle])), (f_on, .inl (cT 0, 3, .inl fon)), (f_queued, .inl (cT 0, 3, .inl (fun _ => 0))), (f_studio, .inr (8, [.ref s_puppets, .int 0, .ref s_shots, .int 0, .ref s_sounds, .ref s_rates, .ref s_dresses])), (s_shots, .inl (cT 5, 12, .inr (.inr (.inr (.inr (fun _ => none))))))] s.heap := hP
  have hl := lv_entry ([.ref h0, .int p0]) (n := 3) (Nat.le_of_ble_eq_true rfl)
  rw [lg_entry_eq]
  generalize (lg_sl ([.ref h0, .int p0]) ++ List.replicate (3 - (lg_sl ([.ref h0, .int p0])).length) Slot.unset).toArray = ls at hl ⊢
  have hl : lv_has ls 3 [(0, .ref h0), (1, .int p0)] := hl
  refine lv_aload_n hx hb dX1_attend_0 rfl (lv_at hl 0 rfl) ?_
  refine va_get (D := D) (ci := 1) (v := .ref f_on) (C := RX1) (T := TX1) (N := 18) hx hb hts (fun _ h => List.mem_cons_of_mem _ (List.mem_append_left _ (List.mem_append_left _ (List.mem_append_left _ (List.mem_append_right _ h))))) hown hK hP 0 rfl rfl 4 (by decide) (hts (.fieldLink RX1 15 "PuppetFilm$Floor" "on" "[I") (List.mem_of_getElem? (i := 1) (by decide +kernel))) (fun _ h9 => h9) rfl dX1_attend_1 ?_
  refine lv_iload_n hx hb dX1_attend_4 rfl (lv_at hl 1 rfl) ?_
  refine va_iald hx hb hK hP 1 0 rfl rfl hu dX1_attend_5 ?_
  refine lv_topi (fun x_1 ex_1 => ?_)
  obtain rfl : x_1 = (-1) := ex_1.trans (hon _ (vin_n hu))
  refine lv_iconst (v := (-1)) hx hb dX1_attend_6 (by decide) ?_
  refine lv_icmp_ne (tgt := 20) hx hb dX1_attend_7 (by decide) (fun c9 => absurd c9 (by decide)) (fun _ => ?_)
  refine lv_aload_n hx hb dX1_attend_10 rfl (lv_at hl 0 rfl) ?_
  refine lv_iload_n hx hb dX1_attend_11 rfl (lv_at hl 1 rfl) ?_
  have hF := va_free (wc := [(h0, .inr (1, [.ref f_studio, .int 1, .int f_half, .ref f_taken, .ref f_on, .ref f_queues, .ref f_queued, .ref f_engaged, .ref f_dressing, .ref f_dressed, .ref f_standing, .ref f_stations, .int 0, .ref f_limits, .ref f_worked, .int f_week, .int 0, .int f_idle])), (f_queued, .inl (cT 0, 3, .inl (fun _ => 0)))]) hD hS hA [0, 2] rfl
  refine va_callv (va_runV (As := [.int p0]) (rest := []) ⟨hx, hb, hml, hown, hts⟩ (c_X1_dropAllShot l D cT h0 p0 f_studio f_half f_taken f_on f_queues f_queued f_engaged f_dressing f_dressed f_standing f_stations f_limits f_worked f_week f_idle _ (by first | exact hu | (unfold vp_in; decide))) (cwV 1 hts gX1_attend_X1_dropAllShot rfl rfl rfl (by decide +kernel) ⟨Nat.le_of_ble_eq_true rfl, Nat.le_of_ble_eq_true rfl⟩) (pv_w hP hD hK hG [0, 2] rfl rfl rfl 0 rfl rfl) rfl rfl hl.1 rfl (lv_room (Nat.le_of_ble_eq_true rfl)) dX1_attend_12 ⟨Nat.le_of_ble_eq_true rfl, Nat.le_of_ble_eq_true rfl⟩) hS (fun q _ h => hF q h) hF (fun uu9 tt9 H locs ht hvm wr_2 hB hz1 hk1 hS => ?_)
  obtain ⟨hP1, hD1⟩ := hB
  rw [ht] at hP1
  obtain ⟨hP, hD⟩ := va_join (wr := [(f_on, .inl (cT 0, 3, .inl fon)), (f_studio, .inr (8, [.ref s_puppets, .int 0, .ref s_shots, .int 0, .ref s_sounds, .ref s_rates, .ref s_dresses])), (s_shots, .inl (cT 5, 12, .inr (.inr (.inr (.inr (fun _ => none))))))]) (w1 := [(h0, .inr (1, [.ref f_studio, .int 1, .int f_half, .ref f_taken, .ref f_on, .ref f_queues, .ref f_queued, .ref f_engaged, .ref f_dressing, .ref f_dressed, .ref f_standing, .ref f_stations, .int 0, .ref f_limits, .ref f_worked, .int f_week, .int 0, .int f_idle])), (f_queued, .inl (cT 0, 3, .inl (fun _ => 0)))]) hP hD [0, 2] [1, 3, 4] rfl rfl (by decide) (by decide) hk1 hF hP1 hD1
  have hP : va_P D vwCl [(f_on, .inl (cT 0, 3, .inl fon)), (f_studio, .inr (8, [.ref s_puppets, .int 0, .ref s_shots, .int 0, .ref s_sounds, .ref s_rates, .ref s_dresses])), (s_shots, .inl (cT 5, 12, .inr (.inr (.inr (.inr (fun _ => none)))))), (h0, .inr (1, [.ref f_studio, .int 1, .int f_half, .ref f_taken, .ref f_on, .ref f_queues, .ref f_queued, .ref f_engaged, .ref f_dressing, .ref f_dressed, .ref f_standing, .ref f_stations, .int 0, .ref f_limits, .ref f_worked, .int f_week, .int 0, .int f_idle])), (f_queued, .inl (cT 0, 3, .inl (fun _ => 0)))] _ := hP
  have hD : va_D A [(f_on, .inl (cT 0, 3, .inl fon)), (f_studio, .inr (8, [.ref s_puppets, .int 0, .ref s_shots, .int 0, .ref s_sounds, .ref s_rates, .ref s_dresses])), (s_shots, .inl (cT 5, 12, .inr (.inr (.inr (.inr (fun _ => none)))))), (h0, .inr (1, [.ref f_studio, .int 1, .int f_half, .ref f_taken, .ref f_on, .ref f_queues, .ref f_queued, .ref f_engaged, .ref f_dressing, .ref f_dressed, .ref f_standing, .ref f_stations, .int 0, .ref f_limits, .ref f_worked, .int f_week, .int 0, .int f_idle])), (f_queued, .inl (cT 0, 3, .inl (fun _ => 0)))] := hD
  refine lv_aload_n hx hb dX1_attend_15 rfl (lv_at hl 0 rfl) ?_
  refine lv_iload_n hx hb dX1_attend_16 rfl (lv_at hl 1 rfl) ?_
  have hF := va_free (wc := [(h0, .inr (1, [.ref f_studio, .int 1, .int f_half, .ref f_taken, .ref f_on, .ref f_queues, .ref f_queued, .ref f_engaged, .ref f_dressing, .ref f_dressed, .ref f_standing, .ref f_stations, .int 0, .ref f_limits, .ref f_worked, .int f_week, .int 0, .int f_idle])), (f_queued, .inl (cT 0, 3, .inl (fun _ => 0)))]) hD hS hA [3, 4] rfl
  refine va_callv (va_runV (As := [.int p0]) (rest := []) ⟨hx, hb, hml, hown, hts⟩ (c_X1_beginFirst l D cT h0 p0 f_studio f_half f_taken f_on f_queues f_queued f_engaged f_dressing f_dressed f_standing f_stations f_limits f_worked f_week f_idle _ (by first | exact hu | (unfold vp_in; decide))) (cwV 1 hts gX1_attend_X1_beginFirst rfl rfl rfl (by decide +kernel) ⟨Nat.le_of_ble_eq_true rfl, Nat.le_of_ble_eq_true rfl⟩) (pv_w hP hD hK hG [3, 4] rfl rfl rfl 3 rfl rfl) rfl rfl hl.1 rfl (lv_room (Nat.le_of_ble_eq_true rfl)) dX1_attend_17 ⟨Nat.le_of_ble_eq_true rfl, Nat.le_of_ble_eq_true rfl⟩) hS (fun q _ h => hF q h) hF (fun uu9 tt9 H locs ht hvm wr_3 hB hz1 hk1 hS => ?_)
  obtain ⟨hP1, hD1⟩ := hB
  rw [ht] at hP1
  obtain ⟨hP, hD⟩ := va_join (wr := [(f_on, .inl (cT 0, 3, .inl fon)), (f_studio, .inr (8, [.ref s_puppets, .int 0, .ref s_shots, .int 0, .ref s_sounds, .ref s_rates, .ref s_dresses])), (s_shots, .inl (cT 5, 12, .inr (.inr (.inr (.inr (fun _ => none))))))]) (w1 := [(h0, .inr (1, [.ref f_studio, .int 1, .int f_half, .ref f_taken, .ref f_on, .ref f_queues, .ref f_queued, .ref f_engaged, .ref f_dressing, .ref f_dressed, .ref f_standing, .ref f_stations, .int 0, .ref f_limits, .ref f_worked, .int f_week, .int 0, .int f_idle])), (f_queued, .inl (cT 0, 3, .inl (fun _ => 0)))]) hP hD [3, 4] [0, 1, 2] rfl rfl (by decide) (by decide) hk1 hF hP1 hD1
  have hP : va_P D vwCl [(f_on, .inl (cT 0, 3, .inl fon)), (f_studio, .inr (8, [.ref s_puppets, .int 0, .ref s_shots, .int 0, .ref s_sounds, .ref s_rates, .ref s_dresses])), (s_shots, .inl (cT 5, 12, .inr (.inr (.inr (.inr (fun _ => none)))))), (h0, .inr (1, [.ref f_studio, .int 1, .int f_half, .ref f_taken, .ref f_on, .ref f_queues, .ref f_queued, .ref f_engaged, .ref f_dressing, .ref f_dressed, .ref f_standing, .ref f_stations, .int 0, .ref f_limits, .ref f_worked, .int f_week, .int 0, .int f_idle])), (f_queued, .inl (cT 0, 3, .inl (fun _ => 0)))] _ := hP
  have hD : va_D A [(f_on, .inl (cT 0, 3, .inl fon)), (f_studio, .inr (8, [.ref s_puppets, .int 0, .ref s_shots, .int 0, .ref s_sounds, .ref s_rates, .ref s_dresses])), (s_shots, .inl (cT 5, 12, .inr (.inr (.inr (.inr (fun _ => none)))))), (h0, .inr (1, [.ref f_studio, .int 1, .int f_half, .ref f_taken, .ref f_on, .ref f_queues, .ref f_queued, .ref f_engaged, .ref f_dressing, .ref f_dressed, .ref f_standing, .ref f_stations, .int 0, .ref f_limits, .ref f_worked, .int f_week, .int 0, .int f_idle])), (f_queued, .inl (cT 0, 3, .inl (fun _ => 0)))] := hD
  refine lv_aload_n hx hb dX1_attend_20 rfl (lv_at hl 0 rfl) ?_
  refine va_get (D := D) (ci := 1) (v := .ref f_studio) (C := RX1) (T := TX1) (N := 18) hx hb hts (fun _ h => List.mem_cons_of_mem _ (List.mem_append_left _ (List.mem_append_left _ (List.mem_append_left _ (List.mem_append_right _ h))))) hown hK hP 3 rfl rfl 0 (by decide) (hts (.fieldLink RX1 45 "PuppetFilm$Floor" "studio" "LPuppetFilm$Studio;") (List.mem_of_getElem? (i := 2) (by decide +kernel))) (fun _ h9 => h9) rfl dX1_attend_21 ?_
  refine lv_aload_n hx hb dX1_attend_24 rfl (lv_at hl 0 rfl) ?_
  refine va_get (D := D) (ci := 1) (v := .ref f_on) (C := RX1) (T := TX1) (N := 18) hx hb hts (fun _ h => List.mem_cons_of_mem _ (List.mem_append_left _ (List.mem_append_left _ (List.mem_append_left _ (List.mem_append_right _ h))))) hown hK hP 3 rfl rfl 4 (by decide) (hts (.fieldLink RX1 15 "PuppetFilm$Floor" "on" "[I") (List.mem_of_getElem? (i := 1) (by decide +kernel))) (fun _ h9 => h9) rfl dX1_attend_25 ?_
  refine lv_iload_n hx hb dX1_attend_28 rfl (lv_at hl 1 rfl) ?_
  refine va_iald hx hb hK hP 0 0 rfl rfl hu dX1_attend_29 ?_
  refine lv_topi (fun x_4 ex_4 => ?_)
  obtain rfl : x_4 = (-1) := ex_4.trans (hon _ (vin_n hu))
  have hF := va_free (wc := [(f_studio, .inr (8, [.ref s_puppets, .int 0, .ref s_shots, .int 0, .ref s_sounds, .ref s_rates, .ref s_dresses])), (s_shots, .inl (cT 5, 12, .inr (.inr (.inr (.inr (fun _ => none))))))]) hD hS hA [1, 2] rfl
  refine va_callq (va_runV (As := [.int (-1)]) (rest := []) ⟨hx, hb, hml, hown, hts⟩ (c_X8_shotAt l D cT f_studio (-1) s_puppets s_shots s_sounds s_rates s_dresses _ ) (cwV 1 hts gX1_attend_X8_shotAt rfl rfl rfl (by decide +kernel) ⟨Nat.le_of_ble_eq_true rfl, Nat.le_of_ble_eq_true rfl⟩) (pv_w hP hD hK hG [1, 2] rfl rfl rfl 1 rfl rfl) rfl rfl hl.1 rfl (lv_room (Nat.le_of_ble_eq_true rfl)) dX1_attend_30 ⟨Nat.le_of_ble_eq_true rfl, Nat.le_of_ble_eq_true rfl⟩) hS (fun q _ h => hF q h) hF (fun r_5 uu9 tt9 H locs ht hvm wr_5 hB hz1 hk1 hS => ?_)
  obtain ⟨hP1, hD1⟩ := hB
  rw [ht] at hP1
  obtain ⟨hP, hD⟩ := va_join (wr := [(f_on, .inl (cT 0, 3, .inl fon)), (h0, .inr (1, [.ref f_studio, .int 1, .int f_half, .ref f_taken, .ref f_on, .ref f_queues, .ref f_queued, .ref f_engaged, .ref f_dressing, .ref f_dressed, .ref f_standing, .ref f_stations, .int 0, .ref f_limits, .ref f_worked, .int f_week, .int 0, .int f_idle])), (f_queued, .inl (cT 0, 3, .inl (fun _ => 0)))]) (w1 := [(f_studio, .inr (8, [.ref s_puppets, .int 0, .ref s_shots, .int 0, .ref s_sounds, .ref s_rates, .ref s_dresses])), (s_shots, .inl (cT 5, 12, .inr (.inr (.inr (.inr (fun _ => none))))))]) hP hD [1, 2] [0, 3, 4] rfl rfl (by decide) (by decide) hk1 hF hP1 hD1
  have hP : va_P D vwCl [(f_on, .inl (cT 0, 3, .inl fon)), (h0, .inr (1, [.ref f_studio, .int 1, .int f_half, .ref f_taken, .ref f_on, .ref f_queues, .ref f_queued, .ref f_engaged, .ref f_dressing, .ref f_dressed, .ref f_standing, .ref f_stations, .int 0, .ref f_limits, .ref f_worked, .int f_week, .int 0, .int f_idle])), (f_queued, .inl (cT 0, 3, .inl (fun _ => 0))), (f_studio, .inr (8, [.ref s_puppets, .int 0, .ref s_shots, .int 0, .ref s_sounds, .ref s_rates, .ref s_dresses])), (s_shots, .inl (cT 5, 12, .inr (.inr (.inr (.inr (fun _ => none))))))] _ := hP
  have hD : va_D A [(f_on, .inl (cT 0, 3, .inl fon)), (h0, .inr (1, [.ref f_studio, .int 1, .int f_half, .ref f_taken, .ref f_on, .ref f_queues, .ref f_queued, .ref f_engaged, .ref f_dressing, .ref f_dressed, .ref f_standing, .ref f_stations, .int 0, .ref f_limits, .ref f_worked, .int f_week, .int 0, .int f_idle])), (f_queued, .inl (cT 0, 3, .inl (fun _ => 0))), (f_studio, .inr (8, [.ref s_puppets, .int 0, .ref s_shots, .int 0, .ref s_sounds, .ref s_rates, .ref s_dresses])), (s_shots, .inl (cT 5, 12, .inr (.inr (.inr (.inr (fun _ => none))))))] := hD
  obtain rfl : r_5 = none := wr_5
  refine W.eq (g2 := F0 m 33 ls [.null]) rfl ?_
  refine lv_astore_nN (lv' := [(2, .null), (0, .ref h0), (1, .int p0)]) hx hb dX1_attend_33 rfl hl (by decide) rfl (fun ls hl => ?_)
  refine lv_aload_nN hx hb dX1_attend_34 rfl (lv_at hl 0 rfl) ?_
  refine lv_ifnonnullN hx hb dX1_attend_35 ?_
  have hP9 := hP.sub (ws' := [(h0, .inr (1, [.ref f_studio, .int 1, .int f_half, .ref f_taken, .ref f_on, .ref f_queues, .ref f_queued, .ref f_engaged, .ref f_dressing, .ref f_dressed, .ref f_standing, .ref f_stations, .int 0, .ref f_limits, .ref f_worked, .int f_week, .int 0, .int f_idle])), (f_on, .inl (cT 0, 3, .inl fon)), (f_queued, .inl (cT 0, 3, .inl (fun _ => 0))), (f_studio, .inr (8, [.ref s_puppets, .int 0, .ref s_shots, .int 0, .ref s_sounds, .ref s_rates, .ref s_dresses])), (s_shots, .inl (cT 5, 12, .inr (.inr (.inr (.inr (fun _ => none))))))]) [1, 0, 2, 3, 4] rfl
  have hD9 := hD.sub (ws' := [(h0, .inr (1, [.ref f_studio, .int 1, .int f_half, .ref f_taken, .ref f_on, .ref f_queues, .ref f_queued, .ref f_engaged, .ref f_dressing, .ref f_dressed, .ref f_standing, .ref f_stations, .int 0, .ref f_limits, .ref f_worked, .int f_week, .int 0, .int f_idle])), (f_on, .inl (cT 0, 3, .inl fon)), (f_queued, .inl (cT 0, 3, .inl (fun _ => 0))), (f_studio, .inr (8, [.ref s_puppets, .int 0, .ref s_shots, .int 0, .ref s_sounds, .ref s_rates, .ref s_dresses])), (s_shots, .inl (cT 5, 12, .inr (.inr (.inr (.inr (fun _ => none))))))]) [1, 0, 2, 3, 4] (by decide) rfl
  exact W.vret hx hb hr (fun t ht hW => ⟨⟨(), rfl, trivial, ⟨by rw [ht]; exact hP9, hD9⟩⟩, hS.F ht⟩) hS.2.2 dX1_attend_38
theorem dX1_pass_0 : decode cX1_pass 0 = .ok (.aload_n 0, 1) := by decide +kernel
theorem dX1_pass_1 : decode cX1_pass 1 = .ok (.iconst 0, 1) := by decide +kernel
theorem dX1_pass_10 : decode cX1_pass 10 = .ok (.istore_n 1, 1) := by decide +kernel
theorem dX1_pass_11 : decode cX1_pass 11 = .ok (.iload_n 1, 1) := by decide +kernel
theorem dX1_pass_12 : decode cX1_pass 12 = .ok (.iconst 3, 1) := by decide +kernel
theorem dX1_pass_13 : decode cX1_pass 13 = .ok (.if_icmp .ge 14, 3) := by decide +kernel
theorem dX1_pass_16 : decode cX1_pass 16 = .ok (.aload_n 0, 1) := by decide +kernel
theorem dX1_pass_17 : decode cX1_pass 17 = .ok (.iload_n 1, 1) := by decide +kernel
theorem dX1_pass_18 : decode cX1_pass 18 = .ok (.invokevirtual 130, 3) := by decide +kernel
theorem dX1_pass_2 : decode cX1_pass 2 = .ok (.putfield 127, 3) := by decide +kernel
theorem dX1_pass_21 : decode cX1_pass 21 = .ok (.iinc 1 1, 3) := by decide +kernel
theorem dX1_pass_24 : decode cX1_pass 24 = .ok (.goto (-13), 3) := by decide +kernel
theorem dX1_pass_27 : decode cX1_pass 27 = .ok (.aload_n 0, 1) := by decide +kernel
theorem dX1_pass_28 : decode cX1_pass 28 = .ok (.dup, 1) := by decide +kernel
theorem dX1_pass_29 : decode cX1_pass 29 = .ok (.getfield 59, 3) := by decide +kernel
theorem dX1_pass_32 : decode cX1_pass 32 = .ok (.iconst 1, 1) := by decide +kernel
theorem dX1_pass_33 : decode cX1_pass 33 = .ok (.iadd, 1) := by decide +kernel
theorem dX1_pass_34 : decode cX1_pass 34 = .ok (.putfield 59, 3) := by decide +kernel
theorem dX1_pass_37 : decode cX1_pass 37 = .ok (.aload_n 0, 1) := by decide +kernel
theorem dX1_pass_38 : decode cX1_pass 38 = .ok (.aload_n 0, 1) := by decide +kernel
theorem dX1_pass_39 : decode cX1_pass 39 = .ok (.getfield 127, 3) := by decide +kernel
theorem dX1_pass_42 : decode cX1_pass 42 = .ok (.ifCond .eq 7, 3) := by decide +kernel
theorem dX1_pass_49 : decode cX1_pass 49 = .ok (.aload_n 0, 1) := by decide +kernel
theorem dX1_pass_5 : decode cX1_pass 5 = .ok (.aload_n 0, 1) := by decide +kernel
theorem dX1_pass_50 : decode cX1_pass 50 = .ok (.getfield 75, 3) := by decide +kernel
theorem dX1_pass_53 : decode cX1_pass 53 = .ok (.iconst 1, 1) := by decide +kernel
theorem dX1_pass_54 : decode cX1_pass 54 = .ok (.iadd, 1) := by decide +kernel
theorem dX1_pass_55 : decode cX1_pass 55 = .ok (.putfield 75, 3) := by decide +kernel
theorem dX1_pass_58 : decode cX1_pass 58 = .ok (.return_, 1) := by decide +kernel
theorem dX1_pass_6 : decode cX1_pass 6 = .ok (.invokevirtual 104, 3) := by decide +kernel
theorem dX1_pass_9 : decode cX1_pass 9 = .ok (.iconst 0, 1) := by decide +kernel
set_option maxRecDepth 20000 in
theorem ggX1_pass_X1_attend : GoodIn wsX1_pass wsX1_attend := goodIn_r _ [18, 19, 20, 21, 22, 23, 24, 25, 7, 26, 27, 28, 1, 29, 30, 31, 32, 33, 34, 35, 36, 37, 38, 39, 40, 41, 42, 43, 44, 45, 46, 47, 48, 49, 50, 51, 52, 53, 54, 55, 56, 57, 58, 59, 60, 61, 62, 63, 64, 65, 66, 67, 68, 69, 70, 71, 72, 73, 74, 75, 76, 77, 78, 79, 80, 81, 82, 83, 84, 85, 86, 87, 88, 89, 90, 91, 92, 93, 94, 95, 96, 97, 98, 99, 100, 101, 102, 103, 104, 105, 106, 107, 108, 109, 110, 111, 112, 113, 114, 115, 116, 117, 10, 118, 119, 120, 121, 122, 123, 124, 125, 126, 127, 128, 129, 130, 131, 132, 133, 134, 135, 136, 137, 138, 139, 140, 141, 142, 143, 144, 145, 146, 147, 148, 149, 150, 151, 152, 153, 154, 155, 156, 157, 158, 159, 160, 2, 161, 162, 163, 164, 165, 166, 167, 168, 169, 170, 171, 172, 173, 174, 175, 176, 177, 178, 179, 180, 181, 182, 183, 184, 185, 186, 187, 188, 189, 190, 191, 192, 193, 194, 195, 196, 197, 198, 199, 200, 201, 202, 203, 204, 205, 206, 207, 208, 209, 210, 211] (by decide +kernel) (by decide +kernel)
set_option maxRecDepth 20000 in
theorem gX1_pass_X1_attend : GoodIn wsX1_pass (wsV RX1 130 RX1 yX1_attend wsX1_attend) := goodIn_app (goodIn_of _ (by decide +kernel)) ggX1_pass_X1_attend
set_option maxRecDepth 20000 in
theorem ggX1_pass_X1_turnWeek : GoodIn wsX1_pass wsX1_turnWeek := goodIn_r _ [8, 2, 9, 10, 11, 12, 13, 14, 161, 162, 163, 164, 165, 166, 167, 168, 169, 170, 171, 172, 173, 174, 175, 176, 177, 178] (by decide +kernel) (by decide +kernel)
set_option maxRecDepth 20000 in
theorem gX1_pass_X1_turnWeek : GoodIn wsX1_pass (wsV RX1 104 RX1 yX1_turnWeek wsX1_turnWeek) := goodIn_app (goodIn_of _ (by decide +kernel)) ggX1_pass_X1_turnWeek
set_option maxHeartbeats 4000000 in
set_option maxRecDepth 100000 in
theorem c_X1_pass (l : Launch) (D : va_G) (cT : Nat → ClassId) (h0 : Nat) (f_studio : Nat) (f_half : Int32) (f_taken : Nat) (f_on : Nat) (f_queues : Nat) (f_queued : Nat) (f_engaged : Nat) (f_dressing : Nat) (f_dressed : Nat) (f_standing : Nat) (f_stations : Nat) (f_limits : Nat) (f_worked : Nat) (f_week : Int32) (f_stirred : Int32) (f_idle : Int32) (fon : Nat → Int32) (fwo : Nat → Int32) (s_puppets : Nat) (s_shots : Nat) (s_sounds : Nat) (s_rates : Nat) (s_dresses : Nat) (sz : Nat) (hon : ∀ k, k < 3 → fon k = -1) : Met l yX1_pass wsX1_pass ({ frames := 10, cells := 0, slots := 0, locals := 280 }) (va_Pc [.ref h0] (PW D cT [(h0, .inr (1, [.ref f_studio, .int 1, .int f_half, .ref f_taken, .ref f_on, .ref f_queues, .ref f_queued, .ref f_engaged, .ref f_dressing, .ref f_dressed, .ref f_standing, .ref f_stations, .int 0, .ref f_limits, .ref f_worked, .int f_week, .int f_stirred, .int f_idle])), (f_on, .inl (cT 0, 3, .inl fon)), (f_queued, .inl (cT 0, 3, .inl (fun _ => 0))), (f_worked, .inl (cT 0, 6, .inl fwo)), (f_studio, .inr (8, [.ref s_puppets, .int 0, .ref s_shots, .int 0, .ref s_sounds, .ref s_rates, .ref s_dresses])), (s_shots, .inl (cT 5, 12, .inr (.inr (.inr (.inr (fun _ => none))))))] sz)) (va_Qv (fun _ : Unit => True) (fun (_ : Unit) (t : State) => ∃ (h2 : Int32), ∃ (w2 : Int32), ∃ (i2 : Int32), ∃ (fwo2 : Nat → Int32), (h2 = f_half + 1) ∧ va_P D vwCl [(h0, .inr (1, [.ref f_studio, .int 1, .int h2, .ref f_taken, .ref f_on, .ref f_queues, .ref f_queued, .ref f_engaged, .ref f_dressing, .ref f_dressed, .ref f_standing, .ref f_stations, .int 0, .ref f_limits, .ref f_worked, .int w2, .int 0, .int i2])), (f_on, .inl (cT 0, 3, .inl fon)), (f_queued, .inl (cT 0, 3, .inl (fun _ => 0))), (f_worked, .inl (cT 0, 6, .inl fwo2)), (f_studio, .inr (8, [.ref s_puppets, .int 0, .ref s_shots, .int 0, .ref s_sounds, .ref s_rates, .ref s_dresses])), (s_shots, .inl (cT 5, 12, .inr (.inr (.inr (.inr (fun _ => none))))))] t.heap ∧ va_D (va_A [(h0, .inr (1, [.ref f_studio, .int 1, .int f_half, .ref f_taken, .ref f_on, .ref f_queues, .ref f_queued, .ref f_engaged, .ref f_dressing, .ref f_dressed, .ref f_standing, .ref f_stations, .int 0, .ref f_limits, .ref f_worked, .int f_week, .int f_stirred, .int f_idle])), (f_on, .inl (cT 0, 3, .inl fon)), (f_queued, .inl (cT 0, 3, .inl (fun _ => 0))), (f_worked, .inl (cT 0, 6, .inl fwo)), (f_studio, .inr (8, [.ref s_puppets, .int 0, .ref s_shots, .int 0, .ref s_sounds, .ref s_rates, .ref s_dresses])), (s_shots, .inl (cT 5, 12, .inr (.inr (.inr (.inr (fun _ => none))))))] sz) [(h0, .inr (1, [.ref f_studio, .int 1, .int h2, .ref f_taken, .ref f_on, .ref f_queues, .ref f_queued, .ref f_engaged, .ref f_dressing, .ref f_dressed, .ref f_standing, .ref f_stations, .int 0, .ref f_limits, .ref f_worked, .int w2, .int 0, .int i2])), (f_on, .inl (cT 0, 3, .inl fon)), (f_queued, .inl (cT 0, 3, .inl (fun _ => 0))), (f_worked, .inl (cT 0, 6, .inl fwo2)), (f_studio, .inr (8, [.ref s_puppets, .int 0, .ref s_shots, .int 0, .ref s_sounds, .ref s_rates, .ref s_dresses])), (s_shots, .inl (cT 5, 12, .inr (.inr (.inr (.inr (fun _ => none))))))]) (va_A [(h0, .inr (1, [.ref f_studio, .int 1, .int f_half, .ref f_taken, .ref f_on, .ref f_queues, .ref f_queued, .ref f_engaged, .ref f_dressing, .ref f_dressed, .ref f_standing, .ref f_stations, .int 0, .ref f_limits, .ref f_worked, .int f_week, .int f_stirred, .int f_idle])), (f_on, .inl (cT 0, 3, .inl fon)), (f_queued, .inl (cT 0, 3, .inl (fun _ => 0))), (f_worked, .inl (cT 0, 6, .inl fwo)), (f_studio, .inr (8, [.ref s_puppets, .int 0, .ref s_shots, .int 0, .ref s_sounds, .ref s_rates, .ref s_dresses])), (s_shots, .inl (cT 5, 12, .inr (.inr (.inr (.inr (fun _ => none))))))] sz)) 0 0 (va_A [(h0, .inr (1, [.ref f_studio, .int 1, .int f_half, .ref f_taken, .ref f_on, .ref f_queues, .ref f_queued, .ref f_engaged, .ref f_dressing, .ref f_dressed, .ref f_standing, .ref f_stations, .int 0, .ref f_limits, .ref f_worked, .int f_week, .int f_stirred, .int f_idle])), (f_on, .inl (cT 0, 3, .inl fon)), (f_queued, .inl (cT 0, 3, .inl (fun _ => 0))), (f_worked, .inl (cT 0, 6, .inl fwo)), (f_studio, .inr (8, [.ref s_puppets, .int 0, .ref s_shots, .int 0, .ref s_sounds, .ref s_rates, .ref s_dresses])), (s_shots, .inl (cT 5, 12, .inr (.inr (.inr (.inr (fun _ => none))))))] sz) := by
  refine Met.ofW (cc := cX1_pass) (maxL := 2) (ret := none) (by decide) rfl ?_
  intro p e s m args below meth c s₁ B hml hv
  obtain ⟨rfl, hsz, hP, hK, hD0, hG⟩ := hv
  have hx := B.exec
  have hb := B.bytes
  have hr := B.returns
  have hts := atoms_spec (ws := wsX1_pass) B.pre
  have hown : s.vm.findClass RX1 = some m.cls := findClass_of_methodNamed B.named
  have hlocks := B.notSynchronized
  subst hsz
  have hD := hD0.self (sz := s.heap.size)
  generalize hAe : va_A [(h0, .inr (1, [.ref f_studio, .int 1, .int f_half, .ref f_taken, .ref f_on, .ref f_queues, .ref f_queued, .ref f_engaged, .ref f_dressing, .ref f_dressed, .ref f_standing, .ref f_stations, .int 0, .ref f_limits, .ref f_worked, .int f_week, .int f_stirred, .int f_idle])), (f_on, .inl (cT 0, 3, .inl fon)), (f_queued, .inl (cT 0, 3, .inl (fun _ => 0))), (f_worked, .inl (cT 0, 6, .inl fwo)), (f_studio, .inr (8, [.ref s_puppets, .int 0, .ref s_shots, .int 0, .ref s_sounds, .ref s_rates, .ref s_dresses])), (s_shots, .inl (cT 5, 12, .inr (.inr (.inr (.inr (fun _ => none))))))] s.heap.size = A at hD ⊢
  have hA : ∀ q : Nat, s.heap.size ≤ q → A q := fun q h => by rw [← hAe]; exact Or.inr h
  have hS : va_S A s.heap s.heap [] := va_S.rf
  have hP : va_P D vwCl [(h0, .inr (1, [.ref f_studio, .int 1, .int f_half, .ref f_taken, .ref f_on, .ref f_queues, .ref f_queued, .ref f_engaged, .ref f_dressing, .ref f_dressed, .ref f_standing, .ref f_stations, .int 0, .ref f_limits, .ref f_worked, .int f_week, .int f_stirred, .int f_idle])), (f_on, .inl (cT 0, 3, .inl fon)), (f_queued, .inl (cT 0, 3, .inl (fun _ => 0))), (f_worked, .inl (cT 0, 6, .inl fwo)), (f_studio, .inr (8, [.ref s_puppets, .int 0, .ref s_shots, .int 0, .ref s_sounds, .ref s_rates, .ref s_dresses])), (s_shots, .inl (cT 5, 12, .inr (.inr (.inr (.inr (fun _ => none))))))] s.heap := hP
  have hl := lv_entry ([.ref h0]) (n := 2) (Nat.le_of_ble_eq_true rfl)
  rw [lg_entry_eq]
  generalize (lg_sl ([.ref h0]) ++ List.replicate (2 - (lg_sl ([.ref h0])).length) Slot.unset).toArray = ls at hl ⊢
  have hl : lv_has ls 2 [(0, .ref h0)] := hl
  refine lv_aload_n hx hb dX1_pass_0 rfl (lv_at hl 0 rfl) ?_
  refine lv_iconst (v := 0) hx hb dX1_pass_1 (by decide) ?_
  refine va_put (D := D) (ci := 1) (v := .int 0) (ty := .boolean) (C := RX1) (T := TX1) (N := 18) hx hb hts (fun _ h => List.mem_cons_of_mem _ (List.mem_append_left _ (List.mem_append_left _ (List.mem_append_left _ (List.mem_append_right _ h))))) tyX1 tyX1_ok nmX1 hown hK hP hD hS 0 rfl rfl 16 (by decide) (hts (.fieldLink RX1 127 "PuppetFilm$Floor" "stirred" "Z") (List.mem_of_getElem? (i := 1) (by decide +kernel))) (fun _ h9 => h9) rfl (by decide +kernel) rfl rfl (Nat.le_of_ble_eq_true rfl) dX1_pass_2 (fun H locs hP hD hS => ?_)
  have hP : va_P D vwCl [(h0, .inr (1, [.ref f_studio, .int 1, .int f_half, .ref f_taken, .ref f_on, .ref f_queues, .ref f_queued, .ref f_engaged, .ref f_dressing, .ref f_dressed, .ref f_standing, .ref f_stations, .int 0, .ref f_limits, .ref f_worked, .int f_week, .int 0, .int f_idle])), (f_on, .inl (cT 0, 3, .inl fon)), (f_queued, .inl (cT 0, 3, .inl (fun _ => 0))), (f_worked, .inl (cT 0, 6, .inl fwo)), (f_studio, .inr (8, [.ref s_puppets, .int 0, .ref s_shots, .int 0, .ref s_sounds, .ref s_rates, .ref s_dresses])), (s_shots, .inl (cT 5, 12, .inr (.inr (.inr (.inr (fun _ => none))))))] _ := hP
  have hD : va_D A [(h0, .inr (1, [.ref f_studio, .int 1, .int f_half, .ref f_taken, .ref f_on, .ref f_queues, .ref f_queued, .ref f_engaged, .ref f_dressing, .ref f_dressed, .ref f_standing, .ref f_stations, .int 0, .ref f_limits, .ref f_worked, .int f_week, .int 0, .int f_idle])), (f_on, .inl (cT 0, 3, .inl fon)), (f_queued, .inl (cT 0, 3, .inl (fun _ => 0))), (f_worked, .inl (cT 0, 6, .inl fwo)), (f_studio, .inr (8, [.ref s_puppets, .int 0, .ref s_shots, .int 0, .ref s_sounds, .ref s_rates, .ref s_dresses])), (s_shots, .inl (cT 5, 12, .inr (.inr (.inr (.inr (fun _ => none))))))] := hD
  refine lv_aload_n hx hb dX1_pass_5 rfl (lv_at hl 0 rfl) ?_
  have hF := va_free (wc := [(h0, .inr (1, [.ref f_studio, .int 1, .int f_half, .ref f_taken, .ref f_on, .ref f_queues, .ref f_queued, .ref f_engaged, .ref f_dressing, .ref f_dressed, .ref f_standing, .ref f_stations, .int 0, .ref f_limits, .ref f_worked, .int f_week, .int 0, .int f_idle])), (f_worked, .inl (cT 0, 6, .inl fwo))]) hD hS hA [0, 3] rfl
  refine va_callv (va_runV (As := []) (rest := []) ⟨hx, hb, hml, hown, hts⟩ (c_X1_turnWeek l D cT h0 f_studio f_half f_taken f_on f_queues f_queued f_engaged f_dressing f_dressed f_standing f_stations f_limits f_worked f_week 0 f_idle fwo _ ) (cwV 0 hts gX1_pass_X1_turnWeek rfl rfl rfl (by decide +kernel) ⟨Nat.le_of_ble_eq_true rfl, Nat.le_of_ble_eq_true rfl⟩) (pv_w hP hD hK hG [0, 3] rfl rfl rfl 0 rfl rfl) rfl rfl hl.1 rfl (lv_room (Nat.le_of_ble_eq_true rfl)) dX1_pass_6 ⟨Nat.le_of_ble_eq_true rfl, Nat.le_of_ble_eq_true rfl⟩) hS (fun q _ h => hF q h) hF (fun uu9 tt9 H locs ht hvm wr_1 hB hz1 hk1 hS => ?_)
  obtain ⟨w2_2, fwo2_3, hP1, hD1⟩ := hB
  rw [ht] at hP1
  obtain ⟨hP, hD⟩ := va_join (wr := [(f_on, .inl (cT 0, 3, .inl fon)), (f_queued, .inl (cT 0, 3, .inl (fun _ => 0))), (f_studio, .inr (8, [.ref s_puppets, .int 0, .ref s_shots, .int 0, .ref s_sounds, .ref s_rates, .ref s_dresses])), (s_shots, .inl (cT 5, 12, .inr (.inr (.inr (.inr (fun _ => none))))))]) (w1 := [(h0, .inr (1, [.ref f_studio, .int 1, .int f_half, .ref f_taken, .ref f_on, .ref f_queues, .ref f_queued, .ref f_engaged, .ref f_dressing, .ref f_dressed, .ref f_standing, .ref f_stations, .int 0, .ref f_limits, .ref f_worked, .int w2_2, .int 0, .int f_idle])), (f_worked, .inl (cT 0, 6, .inl fwo2_3))]) hP hD [0, 3] [1, 2, 4, 5] rfl rfl (by decide) (by decide) hk1 hF hP1 hD1
  have hP : va_P D vwCl [(f_on, .inl (cT 0, 3, .inl fon)), (f_queued, .inl (cT 0, 3, .inl (fun _ => 0))), (f_studio, .inr (8, [.ref s_puppets, .int 0, .ref s_shots, .int 0, .ref s_sounds, .ref s_rates, .ref s_dresses])), (s_shots, .inl (cT 5, 12, .inr (.inr (.inr (.inr (fun _ => none)))))), (h0, .inr (1, [.ref f_studio, .int 1, .int f_half, .ref f_taken, .ref f_on, .ref f_queues, .ref f_queued, .ref f_engaged, .ref f_dressing, .ref f_dressed, .ref f_standing, .ref f_stations, .int 0, .ref f_limits, .ref f_worked, .int w2_2, .int 0, .int f_idle])), (f_worked, .inl (cT 0, 6, .inl fwo2_3))] _ := hP
  have hD : va_D A [(f_on, .inl (cT 0, 3, .inl fon)), (f_queued, .inl (cT 0, 3, .inl (fun _ => 0))), (f_studio, .inr (8, [.ref s_puppets, .int 0, .ref s_shots, .int 0, .ref s_sounds, .ref s_rates, .ref s_dresses])), (s_shots, .inl (cT 5, 12, .inr (.inr (.inr (.inr (fun _ => none)))))), (h0, .inr (1, [.ref f_studio, .int 1, .int f_half, .ref f_taken, .ref f_on, .ref f_queues, .ref f_queued, .ref f_engaged, .ref f_dressing, .ref f_dressed, .ref f_standing, .ref f_stations, .int 0, .ref f_limits, .ref f_worked, .int w2_2, .int 0, .int f_idle])), (f_worked, .inl (cT 0, 6, .inl fwo2_3))] := hD
  refine lv_iconst (v := 0) hx hb dX1_pass_9 (by decide) ?_
  refine lv_istore_n (lv' := [(1, .int 0), (0, .ref h0)]) hx hb dX1_pass_10 rfl hl (by decide) rfl (fun ls hl => ?_)
  refine lv_iload_n hx hb dX1_pass_11 rfl (lv_at hl 0 rfl) ?_
  refine lv_iconst (v := 3) hx hb dX1_pass_12 (by decide) ?_
  refine lv_icmp_ge (tgt := 27) hx hb dX1_pass_13 (by decide) (fun c9 => absurd c9 (by decide)) (fun _ => ?_)
  refine lv_aload_n hx hb dX1_pass_16 rfl (lv_at hl 1 rfl) ?_
  refine lv_iload_n hx hb dX1_pass_17 rfl (lv_at hl 0 rfl) ?_
  have hF := va_free (wc := [(h0, .inr (1, [.ref f_studio, .int 1, .int f_half, .ref f_taken, .ref f_on, .ref f_queues, .ref f_queued, .ref f_engaged, .ref f_dressing, .ref f_dressed, .ref f_standing, .ref f_stations, .int 0, .ref f_limits, .ref f_worked, .int w2_2, .int 0, .int f_idle])), (f_on, .inl (cT 0, 3, .inl fon)), (f_queued, .inl (cT 0, 3, .inl (fun _ => 0))), (f_studio, .inr (8, [.ref s_puppets, .int 0, .ref s_shots, .int 0, .ref s_sounds, .ref s_rates, .ref s_dresses])), (s_shots, .inl (cT 5, 12, .inr (.inr (.inr (.inr (fun _ => none))))))]) hD hS hA [4, 0, 1, 2, 3] rfl
  refine va_callv (va_runV (As := [.int 0]) (rest := []) ⟨hx, hb, hml, hown, hts⟩ (c_X1_attend l D cT h0 0 f_studio f_half f_taken f_on f_queues f_queued f_engaged f_dressing f_dressed f_standing f_stations f_limits f_worked w2_2 f_idle fon s_puppets s_shots s_sounds s_rates s_dresses _ (by first | exact hu | (unfold vp_in; decide)) (by assumption)) (cwV 1 hts gX1_pass_X1_attend rfl rfl rfl (by decide +kernel) ⟨Nat.le_of_ble_eq_true rfl, Nat.le_of_ble_eq_true rfl⟩) (pv_w hP hD hK hG [4, 0, 1, 2, 3] rfl rfl rfl 4 rfl rfl) rfl rfl hl.1 rfl (lv_room (Nat.le_of_ble_eq_true rfl)) dX1_pass_18 ⟨Nat.le_of_ble_eq_true rfl, Nat.le_of_ble_eq_true rfl⟩) hS (fun q _ h => hF q h) hF (fun uu9 tt9 H locs ht hvm wr_4 hB hz1 hk1 hS => ?_)
  obtain ⟨hP1, hD1⟩ := hB
  rw [ht] at hP1
  obtain ⟨hP, hD⟩ := va_join (wr := [(f_worked, .inl (cT 0, 6, .inl fwo2_3))]) (w1 := [(h0, .inr (1, [.ref f_studio, .int 1, .int f_half, .ref f_taken, .ref f_on, .ref f_queues, .ref f_queued, .ref f_engaged, .ref f_dressing, .ref f_dressed, .ref f_standing, .ref f_stations, .int 0, .ref f_limits, .ref f_worked, .int w2_2, .int 0, .int f_idle])), (f_on, .inl (cT 0, 3, .inl fon)), (f_queued, .inl (cT 0, 3, .inl (fun _ => 0))), (f_studio, .inr (8, [.ref s_puppets, .int 0, .ref s_shots, .int 0, .ref s_sounds, .ref s_rates, .ref s_dresses])), (s_shots, .inl (cT 5, 12, .inr (.inr (.inr (.inr (fun _ => none))))))]) hP hD [4, 0, 1, 2, 3] [5] rfl rfl (by decide) (by decide) hk1 hF hP1 hD1
  have hP : va_P D vwCl [(f_worked, .inl (cT 0, 6, .inl fwo2_3)), (h0, .inr (1, [.ref f_studio, .int 1, .int f_half, .ref f_taken, .ref f_on, .ref f_queues, .ref f_queued, .ref f_engaged, .ref f_dressing, .ref f_dressed, .ref f_standing, .ref f_stations, .int 0, .ref f_limits, .ref f_worked, .int w2_2, .int 0, .int f_idle])), (f_on, .inl (cT 0, 3, .inl fon)), (f_queued, .inl (cT 0, 3, .inl (fun _ => 0))), (f_studio, .inr (8, [.ref s_puppets, .int 0, .ref s_shots, .int 0, .ref s_sounds, .ref s_rates, .ref s_dresses])), (s_shots, .inl (cT 5, 12, .inr (.inr (.inr (.inr (fun _ => none))))))] _ := hP
  have hD : va_D A [(f_worked, .inl (cT 0, 6, .inl fwo2_3)), (h0, .inr (1, [.ref f_studio, .int 1, .int f_half, .ref f_taken, .ref f_on, .ref f_queues, .ref f_queued, .ref f_engaged, .ref f_dressing, .ref f_dressed, .ref f_standing, .ref f_stations, .int 0, .ref f_limits, .ref f_worked, .int w2_2, .int 0, .int f_idle])), (f_on, .inl (cT 0, 3, .inl fon)), (f_queued, .inl (cT 0, 3, .inl (fun _ => 0))), (f_studio, .inr (8, [.ref s_puppets, .int 0, .ref s_shots, .int 0, .ref s_sounds, .ref s_rates, .ref s_dresses])), (s_shots, .inl (cT 5, 12, .inr (.inr (.inr (.inr (fun _ => none))))))] := hD
  refine lv_iinc (v := 1) (lv' := [(1, .int 1), (0, .ref h0)]) hx hb dX1_pass_21 hl (k := 0) rfl (by decide) (by decide) rfl (fun ls hl => ?_)
  refine lv_goto (tgt := 11) hx hb dX1_pass_24 (by decide) ?_
  refine lv_iload_n hx hb dX1_pass_11 rfl (lv_at hl 0 rfl) ?_
  refine lv_iconst (v := 3) hx hb dX1_pass_12 (by decide) ?_
  refine lv_icmp_ge (tgt := 27) hx hb dX1_pass_13 (by decide) (fun c9 => absurd c9 (by decide)) (fun _ => ?_)
  refine lv_aload_n hx hb dX1_pass_16 rfl (lv_at hl 1 rfl) ?_
  refine lv_iload_n hx hb dX1_pass_17 rfl (lv_at hl 0 rfl) ?_
  have hF := va_free (wc := [(h0, .inr (1, [.ref f_studio, .int 1, .int f_half, .ref f_taken, .ref f_on, .ref f_queues, .ref f_queued, .ref f_engaged, .ref f_dressing, .ref f_dressed, .ref f_standing, .ref f_stations, .int 0, .ref f_limits, .ref f_worked, .int w2_2, .int 0, .int f_idle])), (f_on, .inl (cT 0, 3, .inl fon)), (f_queued, .inl (cT 0, 3, .inl (fun _ => 0))), (f_studio, .inr (8, [.ref s_puppets, .int 0, .ref s_shots, .int 0, .ref s_sounds, .ref s_rates, .ref s_dresses])), (s_shots, .inl (cT 5, 12, .inr (.inr (.inr (.inr (fun _ => none))))))]) hD hS hA [1, 2, 3, 4, 5] rfl
  refine va_callv (va_runV (As := [.int 1]) (rest := []) ⟨hx, hb, hml, hown, hts⟩ (c_X1_attend l D cT h0 1 f_studio f_half f_taken f_on f_queues f_queued f_engaged f_dressing f_dressed f_standing f_stations f_limits f_worked w2_2 f_idle fon s_puppets s_shots s_sounds s_rates s_dresses _ (by first | exact hu | (unfold vp_in; decide)) (by assumption)) (cwV 1 hts gX1_pass_X1_attend rfl rfl rfl (by decide +kernel) ⟨Nat.le_of_ble_eq_true rfl, Nat.le_of_ble_eq_true rfl⟩) (pv_w hP hD hK hG [1, 2, 3, 4, 5] rfl rfl rfl 1 rfl rfl) rfl rfl hl.1 rfl (lv_room (Nat.le_of_ble_eq_true rfl)) dX1_pass_18 ⟨Nat.le_of_ble_eq_true rfl, Nat.le_of_ble_eq_true rfl⟩) hS (fun q _ h => hF q h) hF (fun uu9 tt9 H locs ht hvm wr_5 hB hz1 hk1 hS => ?_)
  obtain ⟨hP1, hD1⟩ := hB
  rw [ht] at hP1
  obtain ⟨hP, hD⟩ := va_join (wr := [(f_worked, .inl (cT 0, 6, .inl fwo2_3))]) (w1 := [(h0, .inr (1, [.ref f_studio, .int 1, .int f_half, .ref f_taken, .ref f_on, .ref f_queues, .ref f_queued, .ref f_engaged, .ref f_dressing, .ref f_dressed, .ref f_standing, .ref f_stations, .int 0, .ref f_limits, .ref f_worked, .int w2_2, .int 0, .int f_idle])), (f_on, .inl (cT 0, 3, .inl fon)), (f_queued, .inl (cT 0, 3, .inl (fun _ => 0))), (f_studio, .inr (8, [.ref s_puppets, .int 0, .ref s_shots, .int 0, .ref s_sounds, .ref s_rates, .ref s_dresses])), (s_shots, .inl (cT 5, 12, .inr (.inr (.inr (.inr (fun _ => none))))))]) hP hD [1, 2, 3, 4, 5] [0] rfl rfl (by decide) (by decide) hk1 hF hP1 hD1
  have hP : va_P D vwCl [(f_worked, .inl (cT 0, 6, .inl fwo2_3)), (h0, .inr (1, [.ref f_studio, .int 1, .int f_half, .ref f_taken, .ref f_on, .ref f_queues, .ref f_queued, .ref f_engaged, .ref f_dressing, .ref f_dressed, .ref f_standing, .ref f_stations, .int 0, .ref f_limits, .ref f_worked, .int w2_2, .int 0, .int f_idle])), (f_on, .inl (cT 0, 3, .inl fon)), (f_queued, .inl (cT 0, 3, .inl (fun _ => 0))), (f_studio, .inr (8, [.ref s_puppets, .int 0, .ref s_shots, .int 0, .ref s_sounds, .ref s_rates, .ref s_dresses])), (s_shots, .inl (cT 5, 12, .inr (.inr (.inr (.inr (fun _ => none))))))] _ := hP
  have hD : va_D A [(f_worked, .inl (cT 0, 6, .inl fwo2_3)), (h0, .inr (1, [.ref f_studio, .int 1, .int f_half, .ref f_taken, .ref f_on, .ref f_queues, .ref f_queued, .ref f_engaged, .ref f_dressing, .ref f_dressed, .ref f_standing, .ref f_stations, .int 0, .ref f_limits, .ref f_worked, .int w2_2, .int 0, .int f_idle])), (f_on, .inl (cT 0, 3, .inl fon)), (f_queued, .inl (cT 0, 3, .inl (fun _ => 0))), (f_studio, .inr (8, [.ref s_puppets, .int 0, .ref s_shots, .int 0, .ref s_sounds, .ref s_rates, .ref s_dresses])), (s_shots, .inl (cT 5, 12, .inr (.inr (.inr (.inr (fun _ => none))))))] := hD
  refine lv_iinc (v := 2) (lv' := [(1, .int 2), (0, .ref h0)]) hx hb dX1_pass_21 hl (k := 0) rfl (by decide) (by decide) rfl (fun ls hl => ?_)
  refine lv_goto (tgt := 11) hx hb dX1_pass_24 (by decide) ?_
  refine lv_iload_n hx hb dX1_pass_11 rfl (lv_at hl 0 rfl) ?_
  refine lv_iconst (v := 3) hx hb dX1_pass_12 (by decide) ?_
  refine lv_icmp_ge (tgt := 27) hx hb dX1_pass_13 (by decide) (fun c9 => absurd c9 (by decide)) (fun _ => ?_)
  refine lv_aload_n hx hb dX1_pass_16 rfl (lv_at hl 1 rfl) ?_
  refine lv_iload_n hx hb dX1_pass_17 rfl (lv_at hl 0 rfl) ?_
  have hF := va_free (wc := [(h0, .inr (1, [.ref f_studio, .int 1, .int f_half, .ref f_taken, .ref f_on, .ref f_queues, .ref f_queued, .ref f_engaged, .ref f_dressing, .ref f_dressed, .ref f_standing, .ref f_stations, .int 0, .ref f_limits, .ref f_worked, .int w2_2, .int 0, .int f_idle])), (f_on, .inl (cT 0, 3, .inl fon)), (f_queued, .inl (cT 0, 3, .inl (fun _ => 0))), (f_studio, .inr (8, [.ref s_puppets, .int 0, .ref s_shots, .int 0, .ref s_sounds, .ref s_rates, .ref s_dresses])), (s_shots, .inl (cT 5, 12, .inr (.inr (.inr (.inr (fun _ => none))))))]) hD hS hA [1, 2, 3, 4, 5] rfl
  refine va_callv (va_runV (As := [.int 2]) (rest := []) ⟨hx, hb, hml, hown, hts⟩ (c_X1_attend l D cT h0 2 f_studio f_half f_taken f_on f_queues f_queued f_engaged f_dressing f_dressed f_standing f_stations f_limits f_worked w2_2 f_idle fon s_puppets s_shots s_sounds s_rates s_dresses _ (by first | exact hu | (unfold vp_in; decide)) (by assumption)) (cwV 1 hts gX1_pass_X1_attend rfl rfl rfl (by decide +kernel) ⟨Nat.le_of_ble_eq_true rfl, Nat.le_of_ble_eq_true rfl⟩) (pv_w hP hD hK hG [1, 2, 3, 4, 5] rfl rfl rfl 1 rfl rfl) rfl rfl hl.1 rfl (lv_room (Nat.le_of_ble_eq_true rfl)) dX1_pass_18 ⟨Nat.le_of_ble_eq_true rfl, Nat.le_of_ble_eq_true rfl⟩) hS (fun q _ h => hF q h) hF (fun uu9 tt9 H locs ht hvm wr_6 hB hz1 hk1 hS => ?_)
  obtain ⟨hP1, hD1⟩ := hB
  rw [ht] at hP1
  obtain ⟨hP, hD⟩ := va_join (wr := [(f_worked, .inl (cT 0, 6, .inl fwo2_3))]) (w1 := [(h0, .inr (1, [.ref f_studio, .int 1, .int f_half, .ref f_taken, .ref f_on, .ref f_queues, .ref f_queued, .ref f_engaged, .ref f_dressing, .ref f_dressed, .ref f_standing, .ref f_stations, .int 0, .ref f_limits, .ref f_worked, .int w2_2, .int 0, .int f_idle])), (f_on, .inl (cT 0, 3, .inl fon)), (f_queued, .inl (cT 0, 3, .inl (fun _ => 0))), (f_studio, .inr (8, [.ref s_puppets, .int 0, .ref s_shots, .int 0, .ref s_sounds, .ref s_rates, .ref s_dresses])), (s_shots, .inl (cT 5, 12, .inr (.inr (.inr (.inr (fun _ => none))))))]) hP hD [1, 2, 3, 4, 5] [0] rfl rfl (by decide) (by decide) hk1 hF hP1 hD1
  have hP : va_P D vwCl [(f_worked, .inl (cT 0, 6, .inl fwo2_3)), (h0, .inr (1, [.ref f_studio, .int 1, .int f_half, .ref f_taken, .ref f_on, .ref f_queues, .ref f_queued, .ref f_engaged, .ref f_dressing, .ref f_dressed, .ref f_standing, .ref f_stations, .int 0, .ref f_limits, .ref f_worked, .int w2_2, .int 0, .int f_idle])), (f_on, .inl (cT 0, 3, .inl fon)), (f_queued, .inl (cT 0, 3, .inl (fun _ => 0))), (f_studio, .inr (8, [.ref s_puppets, .int 0, .ref s_shots, .int 0, .ref s_sounds, .ref s_rates, .ref s_dresses])), (s_shots, .inl (cT 5, 12, .inr (.inr (.inr (.inr (fun _ => none))))))] _ := hP
  have hD : va_D A [(f_worked, .inl (cT 0, 6, .inl fwo2_3)), (h0, .inr (1, [.ref f_studio, .int 1, .int f_half, .ref f_taken, .ref f_on, .ref f_queues, .ref f_queued, .ref f_engaged, .ref f_dressing, .ref f_dressed, .ref f_standing, .ref f_stations, .int 0, .ref f_limits, .ref f_worked, .int w2_2, .int 0, .int f_idle])), (f_on, .inl (cT 0, 3, .inl fon)), (f_queued, .inl (cT 0, 3, .inl (fun _ => 0))), (f_studio, .inr (8, [.ref s_puppets, .int 0, .ref s_shots, .int 0, .ref s_sounds, .ref s_rates, .ref s_dresses])), (s_shots, .inl (cT 5, 12, .inr (.inr (.inr (.inr (fun _ => none))))))] := hD
  refine lv_iinc (v := 3) (lv' := [(1, .int 3), (0, .ref h0)]) hx hb dX1_pass_21 hl (k := 0) rfl (by decide) (by decide) rfl (fun ls hl => ?_)
  refine lv_goto (tgt := 11) hx hb dX1_pass_24 (by decide) ?_
  refine lv_iload_n hx hb dX1_pass_11 rfl (lv_at hl 0 rfl) ?_
  refine lv_iconst (v := 3) hx hb dX1_pass_12 (by decide) ?_
  refine lv_icmp_ge (tgt := 27) hx hb dX1_pass_13 (by decide) (fun _ => ?_) (fun c9 => absurd c9 (by decide))
  refine lv_aload_n hx hb dX1_pass_27 rfl (lv_at hl 1 rfl) ?_
  refine lv_dup hx hb dX1_pass_28 rfl ?_
  refine va_get (D := D) (ci := 1) (v := .int f_half) (C := RX1) (T := TX1) (N := 18) hx hb hts (fun _ h => List.mem_cons_of_mem _ (List.mem_append_left _ (List.mem_append_left _ (List.mem_append_left _ (List.mem_append_right _ h))))) hown hK hP 1 rfl rfl 2 (by decide) (hts (.fieldLink RX1 59 "PuppetFilm$Floor" "half" "I") (List.mem_of_getElem? (i := 2) (by decide +kernel))) (fun _ h9 => h9) rfl dX1_pass_29 ?_
  refine lv_iconst (v := 1) hx hb dX1_pass_32 (by decide) ?_
  refine lv_iadd hx hb dX1_pass_33 ?_
  refine lv_topi (fun x_7 ex_7 => ?_)
  refine va_put (D := D) (ci := 1) (v := .int x_7) (ty := .int) (C := RX1) (T := TX1) (N := 18) hx hb hts (fun _ h => List.mem_cons_of_mem _ (List.mem_append_left _ (List.mem_append_left _ (List.mem_append_left _ (List.mem_append_right _ h))))) tyX1 tyX1_ok nmX1 hown hK hP hD hS 1 rfl rfl 2 (by decide) (hts (.fieldLink RX1 59 "PuppetFilm$Floor" "half" "I") (List.mem_of_getElem? (i := 2) (by decide +kernel))) (fun _ h9 => h9) rfl (by decide +kernel) rfl rfl (Nat.le_of_ble_eq_true rfl) dX1_pass_34 (fun H locs hP hD hS => ?_)
  have hP : va_P D vwCl [(f_worked, .inl (cT 0, 6, .inl fwo2_3)), (h0, .inr (1, [.ref f_studio, .int 1, .int x_7, .ref f_taken, .ref f_on, .ref f_queues, .ref f_queued, .ref f_engaged, .ref f_dressing, .ref f_dressed, .ref f_standing, .ref f_stations, .int 0, .ref f_limits, .ref f_worked, .int w2_2, .int 0, .int f_idle])), (f_on, .inl (cT 0, 3, .inl fon)), (f_queued, .inl (cT 0, 3, .inl (fun _ => 0))), (f_studio, .inr (8, [.ref s_puppets, .int 0, .ref s_shots, .int 0, .ref s_sounds, .ref s_rates, .ref s_dresses])), (s_shots, .inl (cT 5, 12, .inr (.inr (.inr (.inr (fun _ => none))))))] _ := hP
  have hD : va_D A [(f_worked, .inl (cT 0, 6, .inl fwo2_3)), (h0, .inr (1, [.ref f_studio, .int 1, .int x_7, .ref f_taken, .ref f_on, .ref f_queues, .ref f_queued, .ref f_engaged, .ref f_dressing, .ref f_dressed, .ref f_standing, .ref f_stations, .int 0, .ref f_limits, .ref f_worked, .int w2_2, .int 0, .int f_idle])), (f_on, .inl (cT 0, 3, .inl fon)), (f_queued, .inl (cT 0, 3, .inl (fun _ => 0))), (f_studio, .inr (8, [.ref s_puppets, .int 0, .ref s_shots, .int 0, .ref s_sounds, .ref s_rates, .ref s_dresses])), (s_shots, .inl (cT 5, 12, .inr (.inr (.inr (.inr (fun _ => none))))))] := hD
  refine lv_aload_n hx hb dX1_pass_37 rfl (lv_at hl 1 rfl) ?_
  refine lv_aload_n hx hb dX1_pass_38 rfl (lv_at hl 1 rfl) ?_
  refine va_get (D := D) (ci := 1) (v := .int 0) (C := RX1) (T := TX1) (N := 18) hx hb hts (fun _ h => List.mem_cons_of_mem _ (List.mem_append_left _ (List.mem_append_left _ (List.mem_append_left _ (List.mem_append_right _ h))))) hown hK hP 1 rfl rfl 16 (by decide) (hts (.fieldLink RX1 127 "PuppetFilm$Floor" "stirred" "Z") (List.mem_of_getElem? (i := 1) (by decide +kernel))) (fun _ h9 => h9) rfl dX1_pass_39 ?_
  refine lv_if_eq (tgt := 49) hx hb dX1_pass_42 (by decide) (fun _ => ?_) (fun c9 => absurd c9 (by decide))
  refine lv_aload_n hx hb dX1_pass_49 rfl (lv_at hl 1 rfl) ?_
  refine va_get (D := D) (ci := 1) (v := .int f_idle) (C := RX1) (T := TX1) (N := 18) hx hb hts (fun _ h => List.mem_cons_of_mem _ (List.mem_append_left _ (List.mem_append_left _ (List.mem_append_left _ (List.mem_append_right _ h))))) hown hK hP 1 rfl rfl 17 (by decide) (hts (.fieldLink RX1 75 "PuppetFilm$Floor" "idle" "I") (List.mem_of_getElem? (i := 3) (by decide +kernel))) (fun _ h9 => h9) rfl dX1_pass_50 ?_
  refine lv_iconst (v := 1) hx hb dX1_pass_53 (by decide) ?_
  refine lv_iadd hx hb dX1_pass_54 ?_
  refine lv_topi (fun x_8 ex_8 => ?_)
  refine va_put (D := D) (ci := 1) (v := .int x_8) (ty := .int) (C := RX1) (T := TX1) (N := 18) hx hb hts (fun _ h => List.mem_cons_of_mem _ (List.mem_append_left _ (List.mem_append_left _ (List.mem_append_left _ (List.mem_append_right _ h))))) tyX1 tyX1_ok nmX1 hown hK hP hD hS 1 rfl rfl 17 (by decide) (hts (.fieldLink RX1 75 "PuppetFilm$Floor" "idle" "I") (List.mem_of_getElem? (i := 3) (by decide +kernel))) (fun _ h9 => h9) rfl (by decide +kernel) rfl rfl (Nat.le_of_ble_eq_true rfl) dX1_pass_55 (fun H locs hP hD hS => ?_)
  have hP : va_P D vwCl [(f_worked, .inl (cT 0, 6, .inl fwo2_3)), (h0, .inr (1, [.ref f_studio, .int 1, .int x_7, .ref f_taken, .ref f_on, .ref f_queues, .ref f_queued, .ref f_engaged, .ref f_dressing, .ref f_dressed, .ref f_standing, .ref f_stations, .int 0, .ref f_limits, .ref f_worked, .int w2_2, .int 0, .int x_8])), (f_on, .inl (cT 0, 3, .inl fon)), (f_queued, .inl (cT 0, 3, .inl (fun _ => 0))), (f_studio, .inr (8, [.ref s_puppets, .int 0, .ref s_shots, .int 0, .ref s_sounds, .ref s_rates, .ref s_dresses])), (s_shots, .inl (cT 5, 12, .inr (.inr (.inr (.inr (fun _ => none))))))] _ := hP
  have hD : va_D A [(f_worked, .inl (cT 0, 6, .inl fwo2_3)), (h0, .inr (1, [.ref f_studio, .int 1, .int x_7, .ref f_taken, .ref f_on, .ref f_queues, .ref f_queued, .ref f_engaged, .ref f_dressing, .ref f_dressed, .ref f_standing, .ref f_stations, .int 0, .ref f_limits, .ref f_worked, .int w2_2, .int 0, .int x_8])), (f_on, .inl (cT 0, 3, .inl fon)), (f_queued, .inl (cT 0, 3, .inl (fun _ => 0))), (f_studio, .inr (8, [.ref s_puppets, .int 0, .ref s_shots, .int 0, .ref s_sounds, .ref s_rates, .ref s_dresses])), (s_shots, .inl (cT 5, 12, .inr (.inr (.inr (.inr (fun _ => none))))))] := hD
  have hP9 := hP.sub (ws' := [(h0, .inr (1, [.ref f_studio, .int 1, .int x_7, .ref f_taken, .ref f_on, .ref f_queues, .ref f_queued, .ref f_engaged, .ref f_dressing, .ref f_dressed, .ref f_standing, .ref f_stations, .int 0, .ref f_limits, .ref f_worked, .int w2_2, .int 0, .int x_8])), (f_on, .inl (cT 0, 3, .inl fon)), (f_queued, .inl (cT 0, 3, .inl (fun _ => 0))), (f_worked, .inl (cT 0, 6, .inl fwo2_3)), (f_studio, .inr (8, [.ref s_puppets, .int 0, .ref s_shots, .int 0, .ref s_sounds, .ref s_rates, .ref s_dresses])), (s_shots, .inl (cT 5, 12, .inr (.inr (.inr (.inr (fun _ => none))))))]) [1, 2, 3, 0, 4, 5] rfl
  have hD9 := hD.sub (ws' := [(h0, .inr (1, [.ref f_studio, .int 1, .int x_7, .ref f_taken, .ref f_on, .ref f_queues, .ref f_queued, .ref f_engaged, .ref f_dressing, .ref f_dressed, .ref f_standing, .ref f_stations, .int 0, .ref f_limits, .ref f_worked, .int w2_2, .int 0, .int x_8])), (f_on, .inl (cT 0, 3, .inl fon)), (f_queued, .inl (cT 0, 3, .inl (fun _ => 0))), (f_worked, .inl (cT 0, 6, .inl fwo2_3)), (f_studio, .inr (8, [.ref s_puppets, .int 0, .ref s_shots, .int 0, .ref s_sounds, .ref s_rates, .ref s_dresses])), (s_shots, .inl (cT 5, 12, .inr (.inr (.inr (.inr (fun _ => none))))))]) [1, 2, 3, 0, 4, 5] (by decide) rfl
  exact W.vret hx hb hr (fun t ht hW => ⟨⟨(), rfl, trivial, ⟨x_7, w2_2, x_8, fwo2_3, ex_7, by rw [ht]; exact hP9, hD9⟩⟩, hS.F ht⟩) hS.2.2 dX1_pass_58
theorem dX11_floor_0 : decode cX11_floor 0 = .ok (.iload_n 1, 1) := by decide +kernel
theorem dX11_floor_1 : decode cX11_floor 1 = .ok (.iconst 0, 1) := by decide +kernel
theorem dX11_floor_10 : decode cX11_floor 10 = .ok (.iconst 0, 1) := by decide +kernel
theorem dX11_floor_11 : decode cX11_floor 11 = .ok (.istore_n 2, 1) := by decide +kernel
theorem dX11_floor_12 : decode cX11_floor 12 = .ok (.iload_n 2, 1) := by decide +kernel
theorem dX11_floor_13 : decode cX11_floor 13 = .ok (.iload_n 1, 1) := by decide +kernel
theorem dX11_floor_14 : decode cX11_floor 14 = .ok (.if_icmp .ge 16, 3) := by decide +kernel
theorem dX11_floor_17 : decode cX11_floor 17 = .ok (.aload_n 0, 1) := by decide +kernel
theorem dX11_floor_18 : decode cX11_floor 18 = .ok (.getfield 60, 3) := by decide +kernel
theorem dX11_floor_2 : decode cX11_floor 2 = .ok (.bipush 100, 2) := by decide +kernel
theorem dX11_floor_21 : decode cX11_floor 21 = .ok (.invokevirtual 379, 3) := by decide +kernel
theorem dX11_floor_24 : decode cX11_floor 24 = .ok (.iinc 2 1, 3) := by decide +kernel
theorem dX11_floor_27 : decode cX11_floor 27 = .ok (.goto (-15), 3) := by decide +kernel
theorem dX11_floor_30 : decode cX11_floor 30 = .ok (.aload_n 0, 1) := by decide +kernel
theorem dX11_floor_31 : decode cX11_floor 31 = .ok (.getfield 60, 3) := by decide +kernel
theorem dX11_floor_34 : decode cX11_floor 34 = .ok (.getfield 321, 3) := by decide +kernel
theorem dX11_floor_37 : decode cX11_floor 37 = .ok (.ireturn, 1) := by decide +kernel
theorem dX11_floor_4 : decode cX11_floor 4 = .ok (.invokestatic 97, 3) := by decide +kernel
theorem dX11_floor_7 : decode cX11_floor 7 = .ok (.invokestatic 93, 3) := by decide +kernel
set_option maxRecDepth 20000 in
theorem ggX11_floor_X11_need : GoodIn wsX11_floor wsX11_need := goodIn_ca (goodIn_r _ [9, 10, 11] (by decide +kernel) (by decide +kernel)) (goodIn_sub (fun _ h => List.mem_cons_of_mem _ (List.mem_append_right _ h)) (by decide +kernel))
set_option maxRecDepth 20000 in
theorem gX11_floor_X11_need : GoodIn wsX11_floor (va_wsS RX11 93 yX11_need wsX11_need) := goodIn_app (goodIn_of _ (by decide +kernel)) ggX11_floor_X11_need
set_option maxRecDepth 20000 in
theorem ggX11_floor_X11_within : GoodIn wsX11_floor wsX11_within := goodIn_r _ [6] (by decide +kernel) (by decide +kernel)
set_option maxRecDepth 20000 in
theorem gX11_floor_X11_within : GoodIn wsX11_floor (va_wsS RX11 97 yX11_within wsX11_within) := goodIn_app (goodIn_of _ (by decide +kernel)) ggX11_floor_X11_within
set_option maxRecDepth 20000 in
theorem ggX11_floor_X1_pass : GoodIn wsX11_floor wsX1_pass := goodIn_r _ [16, 17, 18, 19, 20, 21, 22, 15, 23, 24, 25, 26, 27, 28, 29, 30, 31, 32, 33, 34, 35, 36, 37, 38, 39, 40, 41, 42, 43, 44, 45, 46, 47, 48, 4, 5, 6, 49, 50, 51, 52, 53, 54, 55, 56, 57, 58, 59, 60, 61, 62, 63, 64, 65, 66, 67, 68, 69, 70, 71, 72, 73, 74, 75, 76, 77, 78, 79, 80, 81, 82, 83, 84, 85, 86, 87, 88, 89, 90, 91, 92, 93, 94, 95, 96, 97, 98, 99, 100, 101, 102, 103, 104, 105, 106, 107, 108, 109, 110, 111, 112, 113, 114, 115, 116, 117, 118, 119, 120, 121, 122, 123, 124, 125, 126, 127, 128, 129, 130, 131, 132, 133, 134, 135, 136, 137, 138, 139, 140, 141, 142, 143, 144, 145, 146, 147, 148, 149, 150, 151, 152, 153, 154, 155, 156, 157, 158, 159, 160, 161, 162, 163, 164, 165, 166, 167, 168, 169, 170, 171, 172, 184, 185, 186, 187, 188, 189, 190, 191, 192, 193, 194, 195, 196, 197, 198, 199, 200, 201, 202, 203, 204, 205, 206, 207, 208, 209, 210, 211, 212, 213, 214, 215, 216, 217, 218, 219, 220, 221, 222, 223, 224, 225, 226, 227, 228, 229, 230, 231, 232, 233, 234] (by decide +kernel) (by decide +kernel)
set_option maxRecDepth 20000 in
theorem gX11_floor_X1_pass : GoodIn wsX11_floor (wsV RX11 379 RX1 yX1_pass wsX1_pass) := goodIn_app (goodIn_of _ (by decide +kernel)) ggX11_floor_X1_pass
set_option maxHeartbeats 4000000 in
set_option maxRecDepth 100000 in
theorem c_X11_floor (l : Launch) (hst : l.stackTraces = false) (D : va_G) (cT : Nat → ClassId) (h0 : Nat) (p0 : Int32) (x_studio : Nat) (x_script : Nat) (x_teller : Nat) (x_planner : Nat) (x_plan : Nat) (x_drifts : Nat) (x_floor : Nat) (x_trial : Nat) (x_tape : Nat) (f_taken : Nat) (f_on : Nat) (f_queues : Nat) (f_queued : Nat) (f_engaged : Nat) (f_dressing : Nat) (f_dressed : Nat) (f_standing : Nat) (f_stations : Nat) (f_limits : Nat) (f_worked : Nat) (fon : Nat → Int32) (fwo : Nat → Int32) (s_puppets : Nat) (s_shots : Nat) (s_sounds : Nat) (s_rates : Nat) (s_dresses : Nat) (sz : Nat) (hon : ∀ k, k < 3 → fon k = -1) : vx_Met l yX11_floor wsX11_floor ({ frames := 11, cells := 1, slots := 6, locals := 340 }) (va_Pc [.ref h0, .int p0] (PZ D cT [(h0, .inr (11, [.ref x_studio, .ref x_script, .ref x_teller, .ref x_planner, .ref x_plan, .ref x_drifts, .ref x_floor, .ref x_trial, .ref x_tape, .int 0, .int (-1)])), (x_floor, .inr (1, [.ref x_studio, .int 1, .int 0, .ref f_taken, .ref f_on, .ref f_queues, .ref f_queued, .ref f_engaged, .ref f_dressing, .ref f_dressed, .ref f_standing, .ref f_stations, .int 0, .ref f_limits, .ref f_worked, .int 0, .int 0, .int 0])), (f_on, .inl (cT 0, 3, .inl fon)), (f_queued, .inl (cT 0, 3, .inl (fun _ => 0))), (f_worked, .inl (cT 0, 6, .inl fwo)), (x_studio, .inr (8, [.ref s_puppets, .int 0, .ref s_shots, .int 0, .ref s_sounds, .ref s_rates, .ref s_dresses])), (s_shots, .inl (cT 5, 12, .inr (.inr (.inr (.inr (fun _ => none))))))] sz)) (va_Qi (fun (r : Int32) (_ : Unit) => th_floor p0 = 0 ∧ r = p0) (fun (_ : Unit) (_ : State) => True) (va_A [(h0, .inr (11, [.ref x_studio, .ref x_script, .ref x_teller, .ref x_planner, .ref x_plan, .ref x_drifts, .ref x_floor, .ref x_trial, .ref x_tape, .int 0, .int (-1)])), (x_floor, .inr (1, [.ref x_studio, .int 1, .int 0, .ref f_taken, .ref f_on, .ref f_queues, .ref f_queued, .ref f_engaged, .ref f_dressing, .ref f_dressed, .ref f_standing, .ref f_stations, .int 0, .ref f_limits, .ref f_worked, .int 0, .int 0, .int 0])), (f_on, .inl (cT 0, 3, .inl fon)), (f_queued, .inl (cT 0, 3, .inl (fun _ => 0))), (f_worked, .inl (cT 0, 6, .inl fwo)), (x_studio, .inr (8, [.ref s_puppets, .int 0, .ref s_shots, .int 0, .ref s_sounds, .ref s_rates, .ref s_dresses])), (s_shots, .inl (cT 5, 12, .inr (.inr (.inr (.inr (fun _ => none))))))] sz)) (vx_X (fun _ : Unit => True) (fun (E : String) (_ : Unit) (_ : State) => (E = "java/lang/IllegalArgumentException" ∧ th_floor p0 = 1)) (va_A [(h0, .inr (11, [.ref x_studio, .ref x_script, .ref x_teller, .ref x_planner, .ref x_plan, .ref x_drifts, .ref x_floor, .ref x_trial, .ref x_tape, .int 0, .int (-1)])), (x_floor, .inr (1, [.ref x_studio, .int 1, .int 0, .ref f_taken, .ref f_on, .ref f_queues, .ref f_queued, .ref f_engaged, .ref f_dressing, .ref f_dressed, .ref f_standing, .ref f_stations, .int 0, .ref f_limits, .ref f_worked, .int 0, .int 0, .int 0])), (f_on, .inl (cT 0, 3, .inl fon)), (f_queued, .inl (cT 0, 3, .inl (fun _ => 0))), (f_worked, .inl (cT 0, 6, .inl fwo)), (x_studio, .inr (8, [.ref s_puppets, .int 0, .ref s_shots, .int 0, .ref s_sounds, .ref s_rates, .ref s_dresses])), (s_shots, .inl (cT 5, 12, .inr (.inr (.inr (.inr (fun _ => none))))))] sz)) 1 6 (va_A [(h0, .inr (11, [.ref x_studio, .ref x_script, .ref x_teller, .ref x_planner, .ref x_plan, .ref x_drifts, .ref x_floor, .ref x_trial, .ref x_tape, .int 0, .int (-1)])), (x_floor, .inr (1, [.ref x_studio, .int 1, .int 0, .ref f_taken, .ref f_on, .ref f_queues, .ref f_queued, .ref f_engaged, .ref f_dressing, .ref f_dressed, .ref f_standing, .ref f_stations, .int 0, .ref f_limits, .ref f_worked, .int 0, .int 0, .int 0])), (f_on, .inl (cT 0, 3, .inl fon)), (f_queued, .inl (cT 0, 3, .inl (fun _ => 0))), (f_worked, .inl (cT 0, 6, .inl fwo)), (x_studio, .inr (8, [.ref s_puppets, .int 0, .ref s_shots, .int 0, .ref s_sounds, .ref s_rates, .ref s_dresses])), (s_shots, .inl (cT 5, 12, .inr (.inr (.inr (.inr (fun _ => none))))))] sz) := by
  refine vx_ofW (cc := cX11_floor) (maxL := 3) (ret := (some .int)) (by decide) rfl ?_
  intro p e s m args below meth c s₁ B hml hex hv
  obtain ⟨rfl, ⟨hsz, hP, hK, hD0, hG⟩, hZ⟩ := hv
  have hx := B.exec
  have hb := B.bytes
  have hr := B.returns
  have hts := atoms_spec (ws := wsX11_floor) B.pre
  have hown : s.vm.findClass RX11 = some m.cls := findClass_of_methodNamed B.named
  have hlocks := B.notSynchronized
  subst hsz
  have hD := hD0.self (sz := s.heap.size)
  generalize hAe : va_A [(h0, .inr (11, [.ref x_studio, .ref x_script, .ref x_teller, .ref x_planner, .ref x_plan, .ref x_drifts, .ref x_floor, .ref x_trial, .ref x_tape, .int 0, .int (-1)])), (x_floor, .inr (1, [.ref x_studio, .int 1, .int 0, .ref f_taken, .ref f_on, .ref f_queues, .ref f_queued, .ref f_engaged, .ref f_dressing, .ref f_dressed, .ref f_standing, .ref f_stations, .int 0, .ref f_limits, .ref f_worked, .int 0, .int 0, .int 0])), (f_on, .inl (cT 0, 3, .inl fon)), (f_queued, .inl (cT 0, 3, .inl (fun _ => 0))), (f_worked, .inl (cT 0, 6, .inl fwo)), (x_studio, .inr (8, [.ref s_puppets, .int 0, .ref s_shots, .int 0, .ref s_sounds, .ref s_rates, .ref s_dresses])), (s_shots, .inl (cT 5, 12, .inr (.inr (.inr (.inr (fun _ => none))))))] s.heap.size = A at hD hZ ⊢
  have hA : ∀ q : Nat, s.heap.size ≤ q → A q := fun q h => by rw [← hAe]; exact Or.inr h
  have hS : va_S A s.heap s.heap [] := va_S.rf
  have hP : va_P D vwCl [(h0, .inr (11, [.ref x_studio, .ref x_script, .ref x_teller, .ref x_planner, .ref x_plan, .ref x_drifts, .ref x_floor, .ref x_trial, .ref x_tape, .int 0, .int (-1)])), (x_floor, .inr (1, [.ref x_studio, .int 1, .int 0, .ref f_taken, .ref f_on, .ref f_queues, .ref f_queued, .ref f_engaged, .ref f_dressing, .ref f_dressed, .ref f_standing, .ref f_stations, .int 0, .ref f_limits, .ref f_worked, .int 0, .int 0, .int 0])), (f_on, .inl (cT 0, 3, .inl fon)), (f_queued, .inl (cT 0, 3, .inl (fun _ => 0))), (f_worked, .inl (cT 0, 6, .inl fwo)), (x_studio, .inr (8, [.ref s_puppets, .int 0, .ref s_shots, .int 0, .ref s_sounds, .ref s_rates, .ref s_dresses])), (s_shots, .inl (cT 5, 12, .inr (.inr (.inr (.inr (fun _ => none))))))] s.heap := hP
  have hl := lv_entry ([.ref h0, .int p0]) (n := 3) (Nat.le_of_ble_eq_true rfl)
  rw [lg_entry_eq]
  generalize (lg_sl ([.ref h0, .int p0]) ++ List.replicate (3 - (lg_sl ([.ref h0, .int p0])).length) Slot.unset).toArray = ls at hl ⊢
  have hl : lv_has ls 3 [(0, .ref h0), (1, .int p0)] := hl
  refine lv_iload_n hx hb dX11_floor_0 rfl (lv_at hl 1 rfl) ?_
  refine lv_iconst (v := 0) hx hb dX11_floor_1 (by decide) ?_
  refine lv_bipush (v := 100) hx hb dX11_floor_2 (by decide) ?_
  have hF := va_free (wc := []) hD hS hA [] rfl
  refine va_calli (va_runS (As := [.int p0, .int 0, .int 100]) (rest := []) ⟨hx, hb, hml, hown, hts⟩ (c_X11_within l D cT p0 0 100 _ ) (va_cwS 3 hts gX11_floor_X11_within rfl rfl rfl (by decide +kernel) ⟨Nat.le_of_ble_eq_true rfl, Nat.le_of_ble_eq_true rfl⟩) (ps_w hP hD hK hG [] rfl rfl rfl) rfl rfl hl.1 rfl (lv_room (Nat.le_of_ble_eq_true rfl)) dX11_floor_4 ⟨Nat.le_of_ble_eq_true rfl, Nat.le_of_ble_eq_true rfl⟩) hS (fun q _ h => hF q h) hF (fun r_1 uu9 tt9 H locs ht hvm wr_1 hB hz1 hk1 hS => ?_)
  obtain ⟨hP, hD⟩ := va_join (wr := [(h0, .inr (11, [.ref x_studio, .ref x_script, .ref x_teller, .ref x_planner, .ref x_plan, .ref x_drifts, .ref x_floor, .ref x_trial, .ref x_tape, .int 0, .int (-1)])), (x_floor, .inr (1, [.ref x_studio, .int 1, .int 0, .ref f_taken, .ref f_on, .ref f_queues, .ref f_queued, .ref f_engaged, .ref f_dressing, .ref f_dressed, .ref f_standing, .ref f_stations, .int 0, .ref f_limits, .ref f_worked, .int 0, .int 0, .int 0])), (f_on, .inl (cT 0, 3, .inl fon)), (f_queued, .inl (cT 0, 3, .inl (fun _ => 0))), (f_worked, .inl (cT 0, 6, .inl fwo)), (x_studio, .inr (8, [.ref s_puppets, .int 0, .ref s_shots, .int 0, .ref s_sounds, .ref s_rates, .ref s_dresses])), (s_shots, .inl (cT 5, 12, .inr (.inr (.inr (.inr (fun _ => none))))))]) (w1 := []) hP hD [] [0, 1, 2, 3, 4, 5, 6] rfl rfl (by decide) (by decide) hk1 hF vp_nil vd_nil
  have hP : va_P D vwCl [(h0, .inr (11, [.ref x_studio, .ref x_script, .ref x_teller, .ref x_planner, .ref x_plan, .ref x_drifts, .ref x_floor, .ref x_trial, .ref x_tape, .int 0, .int (-1)])), (x_floor, .inr (1, [.ref x_studio, .int 1, .int 0, .ref f_taken, .ref f_on, .ref f_queues, .ref f_queued, .ref f_engaged, .ref f_dressing, .ref f_dressed, .ref f_standing, .ref f_stations, .int 0, .ref f_limits, .ref f_worked, .int 0, .int 0, .int 0])), (f_on, .inl (cT 0, 3, .inl fon)), (f_queued, .inl (cT 0, 3, .inl (fun _ => 0))), (f_worked, .inl (cT 0, 6, .inl fwo)), (x_studio, .inr (8, [.ref s_puppets, .int 0, .ref s_shots, .int 0, .ref s_sounds, .ref s_rates, .ref s_dresses])), (s_shots, .inl (cT 5, 12, .inr (.inr (.inr (.inr (fun _ => none))))))] _ := hP
  have hD : va_D A [(h0, .inr (11, [.ref x_studio, .ref x_script, .ref x_teller, .ref x_planner, .ref x_plan, .ref x_drifts, .ref x_floor, .ref x_trial, .ref x_tape, .int 0, .int (-1)])), (x_floor, .inr (1, [.ref x_studio, .int 1, .int 0, .ref f_taken, .ref f_on, .ref f_queues, .ref f_queued, .ref f_engaged, .ref f_dressing, .ref f_dressed, .ref f_standing, .ref f_stations, .int 0, .ref f_limits, .ref f_worked, .int 0, .int 0, .int 0])), (f_on, .inl (cT 0, 3, .inl fon)), (f_queued, .inl (cT 0, 3, .inl (fun _ => 0))), (f_worked, .inl (cT 0, 6, .inl fwo)), (x_studio, .inr (8, [.ref s_puppets, .int 0, .ref s_shots, .int 0, .ref s_sounds, .ref s_rates, .ref s_dresses])), (s_shots, .inl (cT 5, 12, .inr (.inr (.inr (.inr (fun _ => none))))))] := hD
  have g9 := wi_01 p0 0 100
  rw [← wr_1] at g9
  rcases g9 with rfl | rfl
  · have hF := va_free (wc := []) hD hS hA [] rfl
    refine vx_callv (vx_runS (As := [.int 0]) (rest := []) ⟨hx, hb, hml, hown, hts⟩ (c_X11_need l hst D cT 0 _ ) (va_cwS 1 hts gX11_floor_X11_need rfl rfl rfl (by decide +kernel) ⟨Nat.le_of_ble_eq_true rfl, Nat.le_of_ble_eq_true rfl⟩) (ps_z hP hD hK hG hZ hS hF [] rfl rfl rfl) rfl rfl hl.1 rfl (lv_room (Nat.le_of_ble_eq_true rfl)) dX11_floor_7 ⟨Nat.le_of_ble_eq_true rfl, Nat.le_of_ble_eq_true rfl⟩) hS (fun q _ h => hF q h) hF (fun q _ h => hF q h) (fun E ce q9 uu9 tt9 H locs ht hvm hw hB hz1 hk1 hS hq9 hv9 hc9 => ?_) (fun uu9 tt9 H locs ht hvm wr_2 hB hz1 hk1 hS => ((wr_2 rfl : False)).elim)
    obtain ⟨rfl, hpx⟩ := hB
    exact vx_out (fun x hx9 => (hex x hx9).elim) hlocks hq9 hv9 hc9 (fun t ht9 hA9 => ⟨(), trivial, ⟨rfl, (by simp [th_floor, ← wr_1])⟩, hS.F ht9⟩) hS.2.2 (Nat.le_of_ble_eq_true rfl) (Nat.le_of_ble_eq_true rfl)
  · have hF := va_free (wc := []) hD hS hA [] rfl
    refine vx_callv (vx_runS (As := [.int 1]) (rest := []) ⟨hx, hb, hml, hown, hts⟩ (c_X11_need l hst D cT 1 _ ) (va_cwS 1 hts gX11_floor_X11_need rfl rfl rfl (by decide +kernel) ⟨Nat.le_of_ble_eq_true rfl, Nat.le_of_ble_eq_true rfl⟩) (ps_z hP hD hK hG hZ hS hF [] rfl rfl rfl) rfl rfl hl.1 rfl (lv_room (Nat.le_of_ble_eq_true rfl)) dX11_floor_7 ⟨Nat.le_of_ble_eq_true rfl, Nat.le_of_ble_eq_true rfl⟩) hS (fun q _ h => hF q h) hF (fun q _ h => hF q h) (fun E ce q9 uu9 tt9 H locs ht hvm hw hB hz1 hk1 hS hq9 hv9 hc9 => ((absurd hB.2 (by decide) : False)).elim) (fun uu9 tt9 H locs ht hvm wr_3 hB hz1 hk1 hS => ?_)
    obtain ⟨hP, hD⟩ := va_join (wr := [(h0, .inr (11, [.ref x_studio, .ref x_script, .ref x_teller, .ref x_planner, .ref x_plan, .ref x_drifts, .ref x_floor, .ref x_trial, .ref x_tape, .int 0, .int (-1)])), (x_floor, .inr (1, [.ref x_studio, .int 1, .int 0, .ref f_taken, .ref f_on, .ref f_queues, .ref f_queued, .ref f_engaged, .ref f_dressing, .ref f_dressed, .ref f_standing, .ref f_stations, .int 0, .ref f_limits, .ref f_worked, .int 0, .int 0, .int 0])), (f_on, .inl (cT 0, 3, .inl fon)), (f_queued, .inl (cT 0, 3, .inl (fun _ => 0))), (f_worked, .inl (cT 0, 6, .inl fwo)), (x_studio, .inr (8, [.ref s_puppets, .int 0, .ref s_shots, .int 0, .ref s_sounds, .ref s_rates, .ref s_dresses])), (s_shots, .inl (cT 5, 12, .inr (.inr (.inr (.inr (fun _ => none))))))]) (w1 := []) hP hD [] [0, 1, 2, 3, 4, 5, 6] rfl rfl (by decide) (by decide) hk1 hF vp_nil vd_nil
    have hP : va_P D vwCl [(h0, .inr (11, [.ref x_studio, .ref x_script, .ref x_teller, .ref x_planner, .ref x_plan, .ref x_drifts, .ref x_floor, .ref x_trial, .ref x_tape, .int 0, .int (-1)])), (x_floor, .inr (1, [.ref x_studio, .int 1, .int 0, .ref f_taken, .ref f_on, .ref f_queues, .ref f_queued, .ref f_engaged, .ref f_dressing, .ref f_dressed, .ref f_standing, .ref f_stations, .int 0, .ref f_limits, .ref f_worked, .int 0, .int 0, .int 0])), (f_on, .inl (cT 0, 3, .inl fon)), (f_queued, .inl (cT 0, 3, .inl (fun _ => 0))), (f_worked, .inl (cT 0, 6, .inl fwo)), (x_studio, .inr (8, [.ref s_puppets, .int 0, .ref s_shots, .int 0, .ref s_sounds, .ref s_rates, .ref s_dresses])), (s_shots, .inl (cT 5, 12, .inr (.inr (.inr (.inr (fun _ => none))))))] _ := hP
    have hD : va_D A [(h0, .inr (11, [.ref x_studio, .ref x_script, .ref x_teller, .ref x_planner, .ref x_plan, .ref x_drifts, .ref x_floor, .ref x_trial, .ref x_tape, .int 0, .int (-1)])), (x_floor, .inr (1, [.ref x_studio, .int 1, .int 0, .ref f_taken, .ref f_on, .ref f_queues, .ref f_queued, .ref f_engaged, .ref f_dressing, .ref f_dressed, .ref f_standing, .ref f_stations, .int 0, .ref f_limits, .ref f_worked, .int 0, .int 0, .int 0])), (f_on, .inl (cT 0, 3, .inl fon)), (f_queued, .inl (cT 0, 3, .inl (fun _ => 0))), (f_worked, .inl (cT 0, 6, .inl fwo)), (x_studio, .inr (8, [.ref s_puppets, .int 0, .ref s_shots, .int 0, .ref s_sounds, .ref s_rates, .ref s_dresses])), (s_shots, .inl (cT 5, 12, .inr (.inr (.inr (.inr (fun _ => none))))))] := hD
    refine W.widen (k := 1) (n := 6) (Nat.le_of_ble_eq_true rfl) (Nat.le_of_ble_eq_true rfl) ?_
    refine lv_iconst (v := 0) hx hb dX11_floor_10 (by decide) ?_
    refine lv_istore_n (lv' := [(2, .int 0), (0, .ref h0), (1, .int p0)]) hx hb dX11_floor_11 rfl hl (by decide) rfl (fun ls hl => ?_)
    obtain ⟨N, rfl, hN⟩ := wi_nat wr_1
    have hN : N ≤ 100 := hN
    have key : ∀ (n k : Nat) (x9 h9 w9 s9 i9 : Int32) (fw9 : Nat → Int32) (H : Heap) (locs : List Loc) (ls : Array Slot), k + n = N → x9 = nI k → h9 = nI k → va_P D vwCl [(h0, .inr (11, [.ref x_studio, .ref x_script, .ref x_teller, .ref x_planner, .ref x_plan, .ref x_drifts, .ref x_floor, .ref x_trial, .ref x_tape, .int 0, .int (-1)])), (x_floor, .inr (1, [.ref x_studio, .int 1, .int h9, .ref f_taken, .ref f_on, .ref f_queues, .ref f_queued, .ref f_engaged, .ref f_dressing, .ref f_dressed, .ref f_standing, .ref f_stations, .int 0, .ref f_limits, .ref f_worked, .int w9, .int s9, .int i9])), (f_on, .inl (cT 0, 3, .inl fon)), (f_queued, .inl (cT 0, 3, .inl (fun _ => 0))), (f_worked, .inl (cT 0, 6, .inl fw9)), (x_studio, .inr (8, [.ref s_puppets, .int 0, .ref s_shots, .int 0, .ref s_sounds, .ref s_rates, .ref s_dresses])), (s_shots, .inl (cT 5, 12, .inr (.inr (.inr (.inr (fun _ => none))))))] H → va_D A [(h0, .inr (11, [.ref x_studio, .ref x_script, .ref x_teller, .ref x_planner, .ref x_plan, .ref x_drifts, .ref x_floor, .ref x_trial, .ref x_tape, .int 0, .int (-1)])), (x_floor, .inr (1, [.ref x_studio, .int 1, .int h9, .ref f_taken, .ref f_on, .ref f_queues, .ref f_queued, .ref f_engaged, .ref f_dressing, .ref f_dressed, .ref f_standing, .ref f_stations, .int 0, .ref f_limits, .ref f_worked, .int w9, .int s9, .int i9])), (f_on, .inl (cT 0, 3, .inl fon)), (f_queued, .inl (cT 0, 3, .inl (fun _ => 0))), (f_worked, .inl (cT 0, 6, .inl fw9)), (x_studio, .inr (8, [.ref s_puppets, .int 0, .ref s_shots, .int 0, .ref s_sounds, .ref s_rates, .ref s_dresses])), (s_shots, .inl (cT 5, 12, .inr (.inr (.inr (.inr (fun _ => none))))))] → va_S A s.heap H locs → lv_has ls 3 [(2, .int x9), (0, .ref h0), (1, .int (nI N))] → W p l e (headSpec wsX11_floor ({ frames := 11, cells := 1, slots := 6, locals := 340 })).room s m #[.ref h0, .int (nI N)] below meth c H locs 1 6 (vx_MQ below (va_Qi (fun (r : Int32) (_ : Unit) => th_floor (nI N) = 0 ∧ r = (nI N)) (fun (_ : Unit) (_ : State) => True) A) (vx_X (fun _ : Unit => True) (fun (E : String) (_ : Unit) (_ : State) => (E = "java/lang/IllegalArgumentException" ∧ th_floor (nI N) = 1)) A) #[.ref h0, .int (nI N)] s 1 6 A) (F0 m 12 ls []) := by
      intro n
      induction n with
      | zero => 
          intro k x9 h9 w9 s9 i9 fw9 H locs ls hk ex9 eh9 hP hD hS hl
          refine lv_iload_n hx hb dX11_floor_12 rfl (lv_at hl 0 rfl) ?_
          refine lv_iload_n hx hb dX11_floor_13 rfl (lv_at hl 2 rfl) ?_
          refine lv_icmp_ge (tgt := 30) hx hb dX11_floor_14 (by decide) (fun c_4 => ?_) (fun c_4 => ((c_4 (by rw [ex9, show k = N by omega]; exact Int32.le_refl _) : False)).elim)
          refine lv_aload_n hx hb dX11_floor_30 rfl (lv_at hl 1 rfl) ?_
          refine va_get (D := D) (ci := 11) (v := .ref x_floor) (C := RX11) (T := TX11) (N := 11) hx hb hts (fun _ h => List.mem_cons_of_mem _ (List.mem_append_left _ (List.mem_append_left _ (List.mem_append_left _ (List.mem_append_left _ (List.mem_append_left _ (List.mem_append_right _ h))))))) hown hK hP 0 rfl rfl 6 (by decide) (hts (.fieldLink RX11 60 "PuppetFilm" "floor" "LPuppetFilm$Floor;") (List.mem_of_getElem? (i := 1) (by decide +kernel))) (fun _ h9 => h9) rfl dX11_floor_31 ?_
          refine va_get (D := D) (ci := 1) (v := .int h9) (C := RX1) (T := TX1) (N := 18) hx hb hts (fun _ h => List.mem_cons_of_mem _ (List.mem_append_left _ (List.mem_append_left _ (List.mem_append_left _ (List.mem_append_left _ (List.mem_append_right _ h)))))) hown hK hP 1 rfl rfl 2 (by decide) (hts (.fieldLink RX11 321 "PuppetFilm$Floor" "half" "I") (List.mem_of_getElem? (i := 2) (by decide +kernel))) (fun _ h9 => h9) rfl dX11_floor_34 ?_
          refine vx_ret ?_
          exact W.iret (v := h9) hx hb hr (fun t ht hW => ⟨⟨h9, (), rfl, ⟨by simp [th_floor, ← wr_1], by rw [eh9, show k = N by omega]⟩, trivial⟩, hS.F ht⟩) hS.2.2 dX11_floor_37
      | succ n ih => 
          intro k x9 h9 w9 s9 i9 fw9 H locs ls hk ex9 eh9 hP hD hS hl
          refine lv_iload_n hx hb dX11_floor_12 rfl (lv_at hl 0 rfl) ?_
          refine lv_iload_n hx hb dX11_floor_13 rfl (lv_at hl 2 rfl) ?_
          refine lv_icmp_ge (tgt := 30) hx hb dX11_floor_14 (by decide) (fun c_5 => ((nI_ge (show k < N by omega) (by omega) (by rw [← ex9]; exact c_5) : False)).elim) (fun c_5 => ?_)
          refine lv_aload_n hx hb dX11_floor_17 rfl (lv_at hl 1 rfl) ?_
          refine va_get (D := D) (ci := 11) (v := .ref x_floor) (C := RX11) (T := TX11) (N := 11) hx hb hts (fun _ h => List.mem_cons_of_mem _ (List.mem_append_left _ (List.mem_append_left _ (List.mem_append_left _ (List.mem_append_left _ (List.mem_append_left _ (List.mem_append_right _ h))))))) hown hK hP 0 rfl rfl 6 (by decide) (hts (.fieldLink RX11 60 "PuppetFilm" "floor" "LPuppetFilm$Floor;") (List.mem_of_getElem? (i := 1) (by decide +kernel))) (fun _ h9 => h9) rfl dX11_floor_18 ?_
          have hF := va_free (wc := [(x_floor, .inr (1, [.ref x_studio, .int 1, .int h9, .ref f_taken, .ref f_on, .ref f_queues, .ref f_queued, .ref f_engaged, .ref f_dressing, .ref f_dressed, .ref f_standing, .ref f_stations, .int 0, .ref f_limits, .ref f_worked, .int w9, .int s9, .int i9])), (f_on, .inl (cT 0, 3, .inl fon)), (f_queued, .inl (cT 0, 3, .inl (fun _ => 0))), (f_worked, .inl (cT 0, 6, .inl fw9)), (x_studio, .inr (8, [.ref s_puppets, .int 0, .ref s_shots, .int 0, .ref s_sounds, .ref s_rates, .ref s_dresses])), (s_shots, .inl (cT 5, 12, .inr (.inr (.inr (.inr (fun _ => none))))))]) hD hS hA [1, 2, 3, 4, 5, 6] rfl
          refine va_callv (va_runV (As := []) (rest := []) ⟨hx, hb, hml, hown, hts⟩ (c_X1_pass l D cT x_floor x_studio h9 f_taken f_on f_queues f_queued f_engaged f_dressing f_dressed f_standing f_stations f_limits f_worked w9 s9 i9 fon fw9 s_puppets s_shots s_sounds s_rates s_dresses _ (by assumption)) (cwV 0 hts gX11_floor_X1_pass rfl rfl rfl (by decide +kernel) ⟨Nat.le_of_ble_eq_true rfl, Nat.le_of_ble_eq_true rfl⟩) (pv_w hP hD hK hG [1, 2, 3, 4, 5, 6] rfl rfl rfl 1 rfl rfl) rfl rfl hl.1 rfl (lv_room (Nat.le_of_ble_eq_true rfl)) dX11_floor_21 ⟨Nat.le_of_ble_eq_true rfl, Nat.le_of_ble_eq_true rfl⟩) hS (fun q _ h => hF q h) hF (fun uu9 tt9 H locs ht hvm wr_6 hB hz1 hk1 hS => ?_)
          obtain ⟨h2_7, w2_8, i2_9, fwo2_10, k_11, hP1, hD1⟩ := hB
          rw [ht] at hP1
          obtain ⟨hP, hD⟩ := va_join (wr := [(h0, .inr (11, [.ref x_studio, .ref x_script, .ref x_teller, .ref x_planner, .ref x_plan, .ref x_drifts, .ref x_floor, .ref x_trial, .ref x_tape, .int 0, .int (-1)]))]) (w1 := [(x_floor, .inr (1, [.ref x_studio, .int 1, .int h2_7, .ref f_taken, .ref f_on, .ref f_queues, .ref f_queued, .ref f_engaged, .ref f_dressing, .ref f_dressed, .ref f_standing, .ref f_stations, .int 0, .ref f_limits, .ref f_worked, .int w2_8, .int 0, .int i2_9])), (f_on, .inl (cT 0, 3, .inl fon)), (f_queued, .inl (cT 0, 3, .inl (fun _ => 0))), (f_worked, .inl (cT 0, 6, .inl fwo2_10)), (x_studio, .inr (8, [.ref s_puppets, .int 0, .ref s_shots, .int 0, .ref s_sounds, .ref s_rates, .ref s_dresses])), (s_shots, .inl (cT 5, 12, .inr (.inr (.inr (.inr (fun _ => none))))))]) hP hD [1, 2, 3, 4, 5, 6] [0] rfl rfl (by decide) (by decide) hk1 hF hP1 hD1
          have hP : va_P D vwCl [(h0, .inr (11, [.ref x_studio, .ref x_script, .ref x_teller, .ref x_planner, .ref x_plan, .ref x_drifts, .ref x_floor, .ref x_trial, .ref x_tape, .int 0, .int (-1)])), (x_floor, .inr (1, [.ref x_studio, .int 1, .int h2_7, .ref f_taken, .ref f_on, .ref f_queues, .ref f_queued, .ref f_engaged, .ref f_dressing, .ref f_dressed, .ref f_standing, .ref f_stations, .int 0, .ref f_limits, .ref f_worked, .int w2_8, .int 0, .int i2_9])), (f_on, .inl (cT 0, 3, .inl fon)), (f_queued, .inl (cT 0, 3, .inl (fun _ => 0))), (f_worked, .inl (cT 0, 6, .inl fwo2_10)), (x_studio, .inr (8, [.ref s_puppets, .int 0, .ref s_shots, .int 0, .ref s_sounds, .ref s_rates, .ref s_dresses])), (s_shots, .inl (cT 5, 12, .inr (.inr (.inr (.inr (fun _ => none))))))] _ := hP
          have hD : va_D A [(h0, .inr (11, [.ref x_studio, .ref x_script, .ref x_teller, .ref x_planner, .ref x_plan, .ref x_drifts, .ref x_floor, .ref x_trial, .ref x_tape, .int 0, .int (-1)])), (x_floor, .inr (1, [.ref x_studio, .int 1, .int h2_7, .ref f_taken, .ref f_on, .ref f_queues, .ref f_queued, .ref f_engaged, .ref f_dressing, .ref f_dressed, .ref f_standing, .ref f_stations, .int 0, .ref f_limits, .ref f_worked, .int w2_8, .int 0, .int i2_9])), (f_on, .inl (cT 0, 3, .inl fon)), (f_queued, .inl (cT 0, 3, .inl (fun _ => 0))), (f_worked, .inl (cT 0, 6, .inl fwo2_10)), (x_studio, .inr (8, [.ref s_puppets, .int 0, .ref s_shots, .int 0, .ref s_sounds, .ref s_rates, .ref s_dresses])), (s_shots, .inl (cT 5, 12, .inr (.inr (.inr (.inr (fun _ => none))))))] := hD
          obtain ⟨x_12, ex_12⟩ : ∃ y : Int32, y = x9 + 1 := ⟨_, rfl⟩
          refine lv_iinc (v := x_12) (lv' := [(2, .int x_12), (0, .ref h0), (1, .int (nI N))]) hx hb dX11_floor_24 hl (k := 0) rfl (by rw [ex_12]; rfl) (by decide) rfl (fun ls hl => ?_)
          refine lv_goto (tgt := 12) hx hb dX11_floor_27 (by decide) ?_
          exact ih (k + 1) x_12 h2_7 w2_8 0 i2_9 fwo2_10 _ _ ls (by omega) (by rw [ex_12, ex9]; exact nI_1 k) (by rw [k_11, eh9]; exact nI_1 k) (hP.sub (ws' := [(h0, .inr (11, [.ref x_studio, .ref x_script, .ref x_teller, .ref x_planner, .ref x_plan, .ref x_drifts, .ref x_floor, .ref x_trial, .ref x_tape, .int 0, .int (-1)])), (x_floor, .inr (1, [.ref x_studio, .int 1, .int h2_7, .ref f_taken, .ref f_on, .ref f_queues, .ref f_queued, .ref f_engaged, .ref f_dressing, .ref f_dressed, .ref f_standing, .ref f_stations, .int 0, .ref f_limits, .ref f_worked, .int w2_8, .int 0, .int i2_9])), (f_on, .inl (cT 0, 3, .inl fon)), (f_queued, .inl (cT 0, 3, .inl (fun _ => 0))), (f_worked, .inl (cT 0, 6, .inl fwo2_10)), (x_studio, .inr (8, [.ref s_puppets, .int 0, .ref s_shots, .int 0, .ref s_sounds, .ref s_rates, .ref s_dresses])), (s_shots, .inl (cT 5, 12, .inr (.inr (.inr (.inr (fun _ => none))))))]) [0, 1, 2, 3, 4, 5, 6] rfl) (hD.sub (ws' := [(h0, .inr (11, [.ref x_studio, .ref x_script, .ref x_teller, .ref x_planner, .ref x_plan, .ref x_drifts, .ref x_floor, .ref x_trial, .ref x_tape, .int 0, .int (-1)])), (x_floor, .inr (1, [.ref x_studio, .int 1, .int h2_7, .ref f_taken, .ref f_on, .ref f_queues, .ref f_queued, .ref f_engaged, .ref f_dressing, .ref f_dressed, .ref f_standing, .ref f_stations, .int 0, .ref f_limits, .ref f_worked, .int w2_8, .int 0, .int i2_9])), (f_on, .inl (cT 0, 3, .inl fon)), (f_queued, .inl (cT 0, 3, .inl (fun _ => 0))), (f_worked, .inl (cT 0, 6, .inl fwo2_10)), (x_studio, .inr (8, [.ref s_puppets, .int 0, .ref s_shots, .int 0, .ref s_sounds, .ref s_rates, .ref s_dresses])), (s_shots, .inl (cT 5, 12, .inr (.inr (.inr (.inr (fun _ => none))))))]) [0, 1, 2, 3, 4, 5, 6] (by decide) rfl) hS (lv_sub hl [0, 1, 2] rfl)
    exact key N 0 0 0 0 0 0 fwo _ _ ls (Nat.zero_add N) rfl rfl hP hD hS (lv_sub hl [0, 1, 2] rfl)
