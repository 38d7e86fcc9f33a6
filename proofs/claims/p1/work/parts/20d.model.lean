theorem dX12_wait_0 : decode cX12_wait 0 = .ok (.aload_n 0, 1) := by decide +kernel
theorem dX12_wait_1 : decode cX12_wait 1 = .ok (.iconst 0, 1) := by decide +kernel
theorem dX12_wait_11 : decode cX12_wait 11 = .ok (.invokestatic 267, 3) := by decide +kernel
theorem dX12_wait_14 : decode cX12_wait 14 = .ok (.iconst 1, 1) := by decide +kernel
theorem dX12_wait_15 : decode cX12_wait 15 = .ok (.invokevirtual 271, 3) := by decide +kernel
theorem dX12_wait_18 : decode cX12_wait 18 = .ok (.ifCond .ne 5, 3) := by decide +kernel
theorem dX12_wait_2 : decode cX12_wait 2 = .ok (.putfield 1, 3) := by decide +kernel
theorem dX12_wait_21 : decode cX12_wait 21 = .ok (.iconst 0, 1) := by decide +kernel
theorem dX12_wait_22 : decode cX12_wait 22 = .ok (.ireturn, 1) := by decide +kernel
theorem dX12_wait_23 : decode cX12_wait 23 = .ok (.aload_n 0, 1) := by decide +kernel
theorem dX12_wait_24 : decode cX12_wait 24 = .ok (.dup, 1) := by decide +kernel
theorem dX12_wait_25 : decode cX12_wait 25 = .ok (.getfield 513, 3) := by decide +kernel
theorem dX12_wait_28 : decode cX12_wait 28 = .ok (.iload_n 1, 1) := by decide +kernel
theorem dX12_wait_29 : decode cX12_wait 29 = .ok (.iadd, 1) := by decide +kernel
theorem dX12_wait_30 : decode cX12_wait 30 = .ok (.putfield 513, 3) := by decide +kernel
theorem dX12_wait_33 : decode cX12_wait 33 = .ok (.aload_n 0, 1) := by decide +kernel
theorem dX12_wait_34 : decode cX12_wait 34 = .ok (.getfield 513, 3) := by decide +kernel
theorem dX12_wait_37 : decode cX12_wait 37 = .ok (.ireturn, 1) := by decide +kernel
theorem dX12_wait_5 : decode cX12_wait 5 = .ok (.aload_n 0, 1) := by decide +kernel
theorem dX12_wait_6 : decode cX12_wait 6 = .ok (.iload_n 1, 1) := by decide +kernel
theorem dX12_wait_7 : decode cX12_wait 7 = .ok (.iconst 0, 1) := by decide +kernel
theorem dX12_wait_8 : decode cX12_wait 8 = .ok (.sipush 1000, 3) := by decide +kernel
set_option maxRecDepth 20000 in
theorem ggX12_wait_X12_may : GoodIn wsX12_wait wsX12_may := goodIn_r _ [10, 1, 11, 12, 13, 14, 15, 16, 17, 18, 19, 20, 21, 22, 23, 24, 25, 26, 27, 28, 29, 30, 31, 32, 33, 34, 35, 36, 37, 38, 39, 40, 41, 42, 43, 44, 45, 46, 47, 48, 49, 50, 51, 52, 53, 54, 55, 56, 57, 58, 59, 60, 61, 62, 63, 64, 65, 66, 67, 68, 69, 70, 71, 72, 73, 74, 75, 76, 77, 78, 79, 80, 81, 82, 83, 84, 85, 86, 87, 88, 89, 90, 91, 92, 93, 94, 95, 96, 97, 98, 99, 100, 101, 102, 103, 104, 105, 106, 107, 108, 109, 110, 111, 112, 113, 114, 115, 116, 117, 118, 119] (by decide +kernel) (by decide +kernel)
set_option maxRecDepth 20000 in
theorem gX12_wait_X12_may : GoodIn wsX12_wait (wsV RX12 271 RX12 yX12_may wsX12_may) := goodIn_app (goodIn_of _ (by decide +kernel)) ggX12_wait_X12_may
set_option maxRecDepth 20000 in
theorem ggX12_wait_X12_within : GoodIn wsX12_wait wsX12_within := goodIn_r _ [6] (by decide +kernel) (by decide +kernel)
set_option maxRecDepth 20000 in
theorem gX12_wait_X12_within : GoodIn wsX12_wait (va_wsS RX12 267 yX12_within wsX12_within) := goodIn_app (goodIn_of _ (by decide +kernel)) ggX12_wait_X12_within
set_option maxHeartbeats 4000000 in
set_option maxRecDepth 100000 in
theorem c_X12_wait (l : Launch) (D : va_G) (cT : Nat → ClassId) (h0 : Nat) (p0 : Int32) (fs : List Value) (m_th : Int32) (sz : Nat) (hfs : fs.length = 109) (hfs_0 : fs[0]? = some (.int m_th)) (hfs_82 : fs[82]? = some (.int 0)) : Met l yX12_wait wsX12_wait ({ frames := 9, cells := 0, slots := 0, locals := 220 }) (va_Pc [.ref h0, .int p0] (PW D cT [(h0, .inr (12, fs))] sz)) (va_Qi (fun (r : Int32) (_ : Unit) => th_wait p0 = 0 → r = p0) (fun (_ : Unit) (t : State) => ∃ (gs : List Value), ∃ (tt : Int32), (gs.length = 109) ∧ (gs[0]? = some (.int tt)) ∧ (tt = th_wait p0) ∧ va_P D vwCl [(h0, .inr (12, gs))] t.heap ∧ va_D (va_A [(h0, .inr (12, fs))] sz) [(h0, .inr (12, gs))]) (va_A [(h0, .inr (12, fs))] sz)) 0 0 (va_A [(h0, .inr (12, fs))] sz) := by
  refine Met.ofW (cc := cX12_wait) (maxL := 2) (ret := (some .int)) (by decide) rfl ?_
  intro p e s m args below meth c s₁ B hml hv
  obtain ⟨rfl, hsz, hP, hK, hD0, hG⟩ := hv
  have hx := B.exec
  have hb := B.bytes
  have hr := B.returns
  have hts := atoms_spec (ws := wsX12_wait) B.pre
  have hown : s.vm.findClass RX12 = some m.cls := findClass_of_methodNamed B.named
  have hlocks := B.notSynchronized
  subst hsz
  have hD := hD0.self (sz := s.heap.size)
  generalize hAe : va_A [(h0, .inr (12, fs))] s.heap.size = A at hD ⊢
  have hA : ∀ q : Nat, s.heap.size ≤ q → A q := fun q h => by rw [← hAe]; exact Or.inr h
  have hS : va_S A s.heap s.heap [] := va_S.rf
  have hP : va_P D vwCl [(h0, .inr (12, fs))] s.heap := hP
  have hl := lv_entry ([.ref h0, .int p0]) (n := 2) (Nat.le_of_ble_eq_true rfl)
  rw [lg_entry_eq]
  generalize (lg_sl ([.ref h0, .int p0]) ++ List.replicate (2 - (lg_sl ([.ref h0, .int p0])).length) Slot.unset).toArray = ls at hl ⊢
  have hl : lv_has ls 2 [(0, .ref h0), (1, .int p0)] := hl
  refine lv_aload_n hx hb dX12_wait_0 rfl (lv_at hl 0 rfl) ?_
  refine lv_iconst (v := 0) hx hb dX12_wait_1 (by decide) ?_
  refine va_put (D := D) (ci := 12) (v := .int 0) (ty := .int) (C := RX12) (T := TX12) (N := 109) hx hb hts (fun _ h => List.mem_cons_of_mem _ (List.mem_append_right _ h)) tyX12 tyX12_ok nmX12 hown hK hP hD hS 0 rfl rfl 0 (by decide) (hts (.fieldLink RX12 1 "PuppetFilmModel" "thrown" "I") (List.mem_of_getElem? (i := 1) (by decide +kernel))) (fun _ h9 => h9) rfl (by decide +kernel) rfl rfl (by simp only [List.length_set, hfs]; decide) dX12_wait_2 (fun H locs hP hD hS => ?_)
  have hP : va_P D vwCl [(h0, .inr (12, (fs.set 0 (.int 0))))] _ := hP
  have hD : va_D A [(h0, .inr (12, (fs.set 0 (.int 0))))] := hD
  refine lv_aload_n hx hb dX12_wait_5 rfl (lv_at hl 0 rfl) ?_
  refine lv_iload_n hx hb dX12_wait_6 rfl (lv_at hl 1 rfl) ?_
  refine lv_iconst (v := 0) hx hb dX12_wait_7 (by decide) ?_
  refine lv_sipush (v := 1000) hx hb dX12_wait_8 (by decide) ?_
  have hF := va_free (wc := []) hD hS hA [] rfl
  refine va_calli (va_runS (As := [.int p0, .int 0, .int 1000]) (rest := [.ref h0]) ⟨hx, hb, hml, hown, hts⟩ (c_X12_within l D cT p0 0 1000 _ ) (va_cwS 3 hts gX12_wait_X12_within rfl rfl rfl (by decide +kernel) ⟨Nat.le_of_ble_eq_true rfl, Nat.le_of_ble_eq_true rfl⟩) (ps_w hP hD hK hG [] rfl rfl rfl) rfl rfl hl.1 rfl (lv_room (Nat.le_of_ble_eq_true rfl)) dX12_wait_11 ⟨Nat.le_of_ble_eq_true rfl, Nat.le_of_ble_eq_true rfl⟩) hS (fun q _ h => hF q h) hF (fun r_1 uu9 tt9 H locs ht hvm wr_1 hB hz1 hk1 hS => ?_)
  obtain ⟨hP, hD⟩ := va_join (wr := [(h0, .inr (12, (fs.set 0 (.int 0))))]) (w1 := []) hP hD [] [0] rfl rfl (by decide) (by decide) hk1 hF vp_nil vd_nil
  have hP : va_P D vwCl [(h0, .inr (12, (fs.set 0 (.int 0))))] _ := hP
  have hD : va_D A [(h0, .inr (12, (fs.set 0 (.int 0))))] := hD
  refine lv_iconst (v := 1) hx hb dX12_wait_14 (by decide) ?_
  have g9 := wi_01 p0 0 1000
  rw [← wr_1] at g9
  rcases g9 with rfl | rfl
  · have hF := va_free (wc := [(h0, .inr (12, (fs.set 0 (.int 0))))]) hD hS hA [0] rfl
    refine va_calli (va_runV (As := [.int 0, .int 1]) (rest := []) ⟨hx, hb, hml, hown, hts⟩ (c_X12_may_0_1 l D cT h0 (fs.set 0 (.int 0)) _ (by simp only [List.length_set]; exact hfs) (List.getElem?_set_self (by simp only [List.length_set, hfs]; decide))) (cwV 2 hts gX12_wait_X12_may rfl rfl rfl (by decide +kernel) ⟨Nat.le_of_ble_eq_true rfl, Nat.le_of_ble_eq_true rfl⟩) (pv_w hP hD hK hG [0] rfl rfl rfl 0 rfl rfl) rfl rfl hl.1 rfl (lv_room (Nat.le_of_ble_eq_true rfl)) dX12_wait_15 ⟨Nat.le_of_ble_eq_true rfl, Nat.le_of_ble_eq_true rfl⟩) hS (fun q _ h => hF q h) hF (fun r_2 uu9 tt9 H locs ht hvm wr_2 hB hz1 hk1 hS => ?_)
    obtain ⟨hP1, hD1⟩ := hB
    rw [ht] at hP1
    obtain ⟨hP, hD⟩ := va_join (wr := []) (w1 := [(h0, .inr (12, ((fs.set 0 (.int 0)).set 0 (.int 1))))]) hP hD [0] [] rfl rfl (by decide) (by decide) hk1 hF hP1 hD1
    have hP : va_P D vwCl [(h0, .inr (12, ((fs.set 0 (.int 0)).set 0 (.int 1))))] _ := hP
    have hD : va_D A [(h0, .inr (12, ((fs.set 0 (.int 0)).set 0 (.int 1))))] := hD
    obtain rfl : r_2 = 0 := wr_2.trans (rfl)
    refine lv_if_ne (tgt := 23) hx hb dX12_wait_18 (by decide) (fun c9 => absurd c9 (by decide)) (fun _ => ?_)
    refine lv_iconst (v := 0) hx hb dX12_wait_21 (by decide) ?_
    have hP9 := hP.sub (ws' := [(h0, .inr (12, ((fs.set 0 (.int 0)).set 0 (.int 1))))]) [0] rfl
    have hD9 := hD.sub (ws' := [(h0, .inr (12, ((fs.set 0 (.int 0)).set 0 (.int 1))))]) [0] (by decide) rfl
    exact W.iret (v := 0) hx hb hr (fun t ht hW => ⟨⟨0, (), rfl, fun h => absurd h (by simp [th_wait, ← wr_1]), ⟨((fs.set 0 (.int 0)).set 0 (.int 1)), 1, by simp only [List.length_set]; exact hfs, List.getElem?_set_self (by simp only [List.length_set, hfs]; decide), by simp [th_wait, ← wr_1], by rw [ht]; exact hP9, hD9⟩⟩, hS.F ht⟩) hS.2.2 dX12_wait_22
  · have hF := va_free (wc := [(h0, .inr (12, (fs.set 0 (.int 0))))]) hD hS hA [0] rfl
    refine va_calli (va_runV (As := [.int 1, .int 1]) (rest := []) ⟨hx, hb, hml, hown, hts⟩ (c_X12_may_1 l D cT h0 1 (fs.set 0 (.int 0)) _ (by simp only [List.length_set]; exact hfs) (List.getElem?_set_self (by simp only [List.length_set, hfs]; decide))) (cwV 2 hts gX12_wait_X12_may rfl rfl rfl (by decide +kernel) ⟨Nat.le_of_ble_eq_true rfl, Nat.le_of_ble_eq_true rfl⟩) (pv_w hP hD hK hG [0] rfl rfl rfl 0 rfl rfl) rfl rfl hl.1 rfl (lv_room (Nat.le_of_ble_eq_true rfl)) dX12_wait_15 ⟨Nat.le_of_ble_eq_true rfl, Nat.le_of_ble_eq_true rfl⟩) hS (fun q _ h => hF q h) hF (fun r_3 uu9 tt9 H locs ht hvm wr_3 hB hz1 hk1 hS => ?_)
    obtain ⟨hP1, hD1⟩ := hB
    rw [ht] at hP1
    obtain ⟨hP, hD⟩ := va_join (wr := []) (w1 := [(h0, .inr (12, (fs.set 0 (.int 0))))]) hP hD [0] [] rfl rfl (by decide) (by decide) hk1 hF hP1 hD1
    have hP : va_P D vwCl [(h0, .inr (12, (fs.set 0 (.int 0))))] _ := hP
    have hD : va_D A [(h0, .inr (12, (fs.set 0 (.int 0))))] := hD
    obtain rfl : r_3 = 1 := wr_3.trans (rfl)
    refine lv_if_ne (tgt := 23) hx hb dX12_wait_18 (by decide) (fun _ => ?_) (fun c9 => absurd c9 (by decide))
    refine lv_aload_n hx hb dX12_wait_23 rfl (lv_at hl 0 rfl) ?_
    refine lv_dup hx hb dX12_wait_24 rfl ?_
    refine va_get (D := D) (ci := 12) (v := .int 0) (C := RX12) (T := TX12) (N := 109) hx hb hts (fun _ h => List.mem_cons_of_mem _ (List.mem_append_right _ h)) hown hK hP 0 rfl rfl 82 (by decide) (hts (.fieldLink RX12 513 "PuppetFilmModel" "half" "I") (List.mem_of_getElem? (i := 2) (by decide +kernel))) (fun _ h9 => h9) ((List.getElem?_set_ne (by decide)).trans (hfs_82)) dX12_wait_25 ?_
    refine lv_iload_n hx hb dX12_wait_28 rfl (lv_at hl 1 rfl) ?_
    refine lv_iadd hx hb dX12_wait_29 ?_
    refine lv_topi (fun x_4 ex_4 => ?_)
    refine va_put (D := D) (ci := 12) (v := .int x_4) (ty := .int) (C := RX12) (T := TX12) (N := 109) hx hb hts (fun _ h => List.mem_cons_of_mem _ (List.mem_append_right _ h)) tyX12 tyX12_ok nmX12 hown hK hP hD hS 0 rfl rfl 82 (by decide) (hts (.fieldLink RX12 513 "PuppetFilmModel" "half" "I") (List.mem_of_getElem? (i := 2) (by decide +kernel))) (fun _ h9 => h9) rfl (by decide +kernel) rfl rfl (by simp only [List.length_set, hfs]; decide) dX12_wait_30 (fun H locs hP hD hS => ?_)
    have hP : va_P D vwCl [(h0, .inr (12, ((fs.set 0 (.int 0)).set 82 (.int x_4))))] _ := hP
    have hD : va_D A [(h0, .inr (12, ((fs.set 0 (.int 0)).set 82 (.int x_4))))] := hD
    refine lv_aload_n hx hb dX12_wait_33 rfl (lv_at hl 0 rfl) ?_
    refine va_get (D := D) (ci := 12) (v := .int x_4) (C := RX12) (T := TX12) (N := 109) hx hb hts (fun _ h => List.mem_cons_of_mem _ (List.mem_append_right _ h)) hown hK hP 0 rfl rfl 82 (by decide) (hts (.fieldLink RX12 513 "PuppetFilmModel" "half" "I") (List.mem_of_getElem? (i := 2) (by decide +kernel))) (fun _ h9 => h9) (List.getElem?_set_self (by simp only [List.length_set, hfs]; decide)) dX12_wait_34 ?_
    have hP9 := hP.sub (ws' := [(h0, .inr (12, ((fs.set 0 (.int 0)).set 82 (.int x_4))))]) [0] rfl
    have hD9 := hD.sub (ws' := [(h0, .inr (12, ((fs.set 0 (.int 0)).set 82 (.int x_4))))]) [0] (by decide) rfl
    exact W.iret (v := x_4) hx hb hr (fun t ht hW => ⟨⟨x_4, (), rfl, fun _ => ex_4.trans (Int32.zero_add _), ⟨((fs.set 0 (.int 0)).set 82 (.int x_4)), 0, by simp only [List.length_set]; exact hfs, (List.getElem?_set_ne (by decide)).trans (List.getElem?_set_self (by simp only [List.length_set, hfs]; decide)), by simp [th_wait, ← wr_1], by rw [ht]; exact hP9, hD9⟩⟩, hS.F ht⟩) hS.2.2 dX12_wait_37
theorem dX12_animator_0 : decode cX12_animator 0 = .ok (.aload_n 0, 1) := by decide +kernel
theorem dX12_animator_1 : decode cX12_animator 1 = .ok (.iconst 0, 1) := by decide +kernel
theorem dX12_animator_10 : decode cX12_animator 10 = .ok (.invokestatic 267, 3) := by decide +kernel
theorem dX12_animator_13 : decode cX12_animator 13 = .ok (.iconst 1, 1) := by decide +kernel
theorem dX12_animator_14 : decode cX12_animator 14 = .ok (.invokevirtual 271, 3) := by decide +kernel
theorem dX12_animator_17 : decode cX12_animator 17 = .ok (.ifCond .ne 5, 3) := by decide +kernel
theorem dX12_animator_2 : decode cX12_animator 2 = .ok (.putfield 1, 3) := by decide +kernel
theorem dX12_animator_20 : decode cX12_animator 20 = .ok (.iconst 0, 1) := by decide +kernel
theorem dX12_animator_21 : decode cX12_animator 21 = .ok (.ireturn, 1) := by decide +kernel
theorem dX12_animator_22 : decode cX12_animator 22 = .ok (.aload_n 0, 1) := by decide +kernel
theorem dX12_animator_23 : decode cX12_animator 23 = .ok (.getfield 525, 3) := by decide +kernel
theorem dX12_animator_26 : decode cX12_animator 26 = .ok (.bipush 6, 2) := by decide +kernel
theorem dX12_animator_28 : decode cX12_animator 28 = .ok (.if_icmp .ne 5, 3) := by decide +kernel
theorem dX12_animator_33 : decode cX12_animator 33 = .ok (.aload_n 0, 1) := by decide +kernel
theorem dX12_animator_34 : decode cX12_animator 34 = .ok (.getfield 207, 3) := by decide +kernel
theorem dX12_animator_37 : decode cX12_animator 37 = .ok (.aload_n 0, 1) := by decide +kernel
theorem dX12_animator_38 : decode cX12_animator 38 = .ok (.getfield 525, 3) := by decide +kernel
theorem dX12_animator_41 : decode cX12_animator 41 = .ok (.iload_n 1, 1) := by decide +kernel
theorem dX12_animator_42 : decode cX12_animator 42 = .ok (.iastore, 1) := by decide +kernel
theorem dX12_animator_43 : decode cX12_animator 43 = .ok (.aload_n 0, 1) := by decide +kernel
theorem dX12_animator_44 : decode cX12_animator 44 = .ok (.dup, 1) := by decide +kernel
theorem dX12_animator_45 : decode cX12_animator 45 = .ok (.getfield 525, 3) := by decide +kernel
theorem dX12_animator_48 : decode cX12_animator 48 = .ok (.iconst 1, 1) := by decide +kernel
theorem dX12_animator_49 : decode cX12_animator 49 = .ok (.iadd, 1) := by decide +kernel
theorem dX12_animator_5 : decode cX12_animator 5 = .ok (.aload_n 0, 1) := by decide +kernel
theorem dX12_animator_50 : decode cX12_animator 50 = .ok (.putfield 525, 3) := by decide +kernel
theorem dX12_animator_53 : decode cX12_animator 53 = .ok (.aload_n 0, 1) := by decide +kernel
theorem dX12_animator_54 : decode cX12_animator 54 = .ok (.getfield 525, 3) := by decide +kernel
theorem dX12_animator_57 : decode cX12_animator 57 = .ok (.iconst 1, 1) := by decide +kernel
theorem dX12_animator_58 : decode cX12_animator 58 = .ok (.isub, 1) := by decide +kernel
theorem dX12_animator_59 : decode cX12_animator 59 = .ok (.ireturn, 1) := by decide +kernel
theorem dX12_animator_6 : decode cX12_animator 6 = .ok (.iload_n 1, 1) := by decide +kernel
theorem dX12_animator_7 : decode cX12_animator 7 = .ok (.iconst 0, 1) := by decide +kernel
theorem dX12_animator_8 : decode cX12_animator 8 = .ok (.bipush 14, 2) := by decide +kernel
set_option maxRecDepth 20000 in
theorem ggX12_animator_X12_may : GoodIn wsX12_animator wsX12_may := goodIn_r _ [11, 1, 12, 13, 14, 15, 16, 17, 18, 19, 20, 21, 22, 23, 24, 25, 26, 27, 28, 29, 30, 31, 32, 33, 34, 35, 36, 37, 38, 39, 40, 41, 42, 43, 44, 45, 46, 47, 48, 49, 50, 51, 52, 53, 54, 55, 56, 57, 58, 59, 60, 61, 62, 63, 64, 65, 66, 67, 68, 69, 70, 71, 72, 73, 74, 75, 76, 77, 78, 79, 80, 81, 82, 83, 84, 85, 86, 87, 88, 89, 90, 91, 92, 93, 94, 95, 96, 97, 98, 99, 100, 101, 102, 103, 104, 105, 106, 107, 108, 109, 110, 111, 112, 113, 114, 115, 116, 117, 118, 119, 120] (by decide +kernel) (by decide +kernel)
set_option maxRecDepth 20000 in
theorem gX12_animator_X12_may : GoodIn wsX12_animator (wsV RX12 271 RX12 yX12_may wsX12_may) := goodIn_app (goodIn_of _ (by decide +kernel)) ggX12_animator_X12_may
set_option maxRecDepth 20000 in
theorem ggX12_animator_X12_within : GoodIn wsX12_animator wsX12_within := goodIn_r _ [7] (by decide +kernel) (by decide +kernel)
set_option maxRecDepth 20000 in
theorem gX12_animator_X12_within : GoodIn wsX12_animator (va_wsS RX12 267 yX12_within wsX12_within) := goodIn_app (goodIn_of _ (by decide +kernel)) ggX12_animator_X12_within
set_option maxHeartbeats 4000000 in
set_option maxRecDepth 100000 in
theorem c_X12_animator (l : Launch) (D : va_G) (cT : Nat → ClassId) (h0 : Nat) (p0 : Int32) (fs : List Value) (m_th : Int32) (m_most : Nat) (sz : Nat) (hfs : fs.length = 109) (hfs_0 : fs[0]? = some (.int m_th)) (hfs_88 : fs[88]? = some (.int 0)) (hfs_89 : fs[89]? = some (.ref m_most)) : Met l yX12_animator wsX12_animator ({ frames := 9, cells := 0, slots := 0, locals := 220 }) (va_Pc [.ref h0, .int p0] (PW D cT [(h0, .inr (12, fs)), (m_most, .inl (cT 0, 6, .inl (fun _ => 0)))] sz)) (va_Qi (fun (r : Int32) (_ : Unit) => th_anim p0 = 0 → r = 0) (fun (_ : Unit) (t : State) => ∃ (gs : List Value), ∃ (tt : Int32), (gs.length = 109) ∧ (gs[0]? = some (.int tt)) ∧ (tt = th_anim p0) ∧ va_P D vwCl [(h0, .inr (12, gs))] t.heap ∧ va_D (va_A [(h0, .inr (12, fs)), (m_most, .inl (cT 0, 6, .inl (fun _ => 0)))] sz) [(h0, .inr (12, gs))]) (va_A [(h0, .inr (12, fs)), (m_most, .inl (cT 0, 6, .inl (fun _ => 0)))] sz)) 0 0 (va_A [(h0, .inr (12, fs)), (m_most, .inl (cT 0, 6, .inl (fun _ => 0)))] sz) := by
  refine Met.ofW (cc := cX12_animator) (maxL := 2) (ret := (some .int)) (by decide) rfl ?_
  intro p e s m args below meth c s₁ B hml hv
  obtain ⟨rfl, hsz, hP, hK, hD0, hG⟩ := hv
  have hx := B.exec
  have hb := B.bytes
  have hr := B.returns
  have hts := atoms_spec (ws := wsX12_animator) B.pre
  have hown : s.vm.findClass RX12 = some m.cls := findClass_of_methodNamed B.named
  have hlocks := B.notSynchronized
  subst hsz
  have hD := hD0.self (sz := s.heap.size)
  generalize hAe : va_A [(h0, .inr (12, fs)), (m_most, .inl (cT 0, 6, .inl (fun _ => 0)))] s.heap.size = A at hD ⊢
  have hA : ∀ q : Nat, s.heap.size ≤ q → A q := fun q h => by rw [← hAe]; exact Or.inr h
  have hS : va_S A s.heap s.heap [] := va_S.rf
  have hP : va_P D vwCl [(h0, .inr (12, fs)), (m_most, .inl (cT 0, 6, .inl (fun _ => 0)))] s.heap := hP
  have hl := lv_entry ([.ref h0, .int p0]) (n := 2) (Nat.le_of_ble_eq_true rfl)
  rw [lg_entry_eq]
  generalize (lg_sl ([.ref h0, .int p0]) ++ List.replicate (2 - (lg_sl ([.ref h0, .int p0])).length) Slot.unset).toArray = ls at hl ⊢
  have hl : lv_has ls 2 [(0, .ref h0), (1, .int p0)] := hl
  refine lv_aload_n hx hb dX12_animator_0 rfl (lv_at hl 0 rfl) ?_
  refine lv_iconst (v := 0) hx hb dX12_animator_1 (by decide) ?_
  refine va_put (D := D) (ci := 12) (v := .int 0) (ty := .int) (C := RX12) (T := TX12) (N := 109) hx hb hts (fun _ h => List.mem_cons_of_mem _ (List.mem_append_right _ h)) tyX12 tyX12_ok nmX12 hown hK hP hD hS 0 rfl rfl 0 (by decide) (hts (.fieldLink RX12 1 "PuppetFilmModel" "thrown" "I") (List.mem_of_getElem? (i := 1) (by decide +kernel))) (fun _ h9 => h9) rfl (by decide +kernel) rfl rfl (by simp only [List.length_set, hfs]; decide) dX12_animator_2 (fun H locs hP hD hS => ?_)
  have hP : va_P D vwCl [(h0, .inr (12, (fs.set 0 (.int 0)))), (m_most, .inl (cT 0, 6, .inl (fun _ => 0)))] _ := hP
  have hD : va_D A [(h0, .inr (12, (fs.set 0 (.int 0)))), (m_most, .inl (cT 0, 6, .inl (fun _ => 0)))] := hD
  refine lv_aload_n hx hb dX12_animator_5 rfl (lv_at hl 0 rfl) ?_
  refine lv_iload_n hx hb dX12_animator_6 rfl (lv_at hl 1 rfl) ?_
  refine lv_iconst (v := 0) hx hb dX12_animator_7 (by decide) ?_
  refine lv_bipush (v := 14) hx hb dX12_animator_8 (by decide) ?_
  have hF := va_free (wc := []) hD hS hA [] rfl
  refine va_calli (va_runS (As := [.int p0, .int 0, .int 14]) (rest := [.ref h0]) ⟨hx, hb, hml, hown, hts⟩ (c_X12_within l D cT p0 0 14 _ ) (va_cwS 3 hts gX12_animator_X12_within rfl rfl rfl (by decide +kernel) ⟨Nat.le_of_ble_eq_true rfl, Nat.le_of_ble_eq_true rfl⟩) (ps_w hP hD hK hG [] rfl rfl rfl) rfl rfl hl.1 rfl (lv_room (Nat.le_of_ble_eq_true rfl)) dX12_animator_10 ⟨Nat.le_of_ble_eq_true rfl, Nat.le_of_ble_eq_true rfl⟩) hS (fun q _ h => hF q h) hF (fun r_1 uu9 tt9 H locs ht hvm wr_1 hB hz1 hk1 hS => ?_)
  obtain ⟨hP, hD⟩ := va_join (wr := [(h0, .inr (12, (fs.set 0 (.int 0)))), (m_most, .inl (cT 0, 6, .inl (fun _ => 0)))]) (w1 := []) hP hD [] [0, 1] rfl rfl (by decide) (by decide) hk1 hF vp_nil vd_nil
  have hP : va_P D vwCl [(h0, .inr (12, (fs.set 0 (.int 0)))), (m_most, .inl (cT 0, 6, .inl (fun _ => 0)))] _ := hP
  have hD : va_D A [(h0, .inr (12, (fs.set 0 (.int 0)))), (m_most, .inl (cT 0, 6, .inl (fun _ => 0)))] := hD
  refine lv_iconst (v := 1) hx hb dX12_animator_13 (by decide) ?_
  have g9 := wi_01 p0 0 14
  rw [← wr_1] at g9
  rcases g9 with rfl | rfl
  · have hF := va_free (wc := [(h0, .inr (12, (fs.set 0 (.int 0))))]) hD hS hA [0] rfl
    refine va_calli (va_runV (As := [.int 0, .int 1]) (rest := []) ⟨hx, hb, hml, hown, hts⟩ (c_X12_may_0_1 l D cT h0 (fs.set 0 (.int 0)) _ (by simp only [List.length_set]; exact hfs) (List.getElem?_set_self (by simp only [List.length_set, hfs]; decide))) (cwV 2 hts gX12_animator_X12_may rfl rfl rfl (by decide +kernel) ⟨Nat.le_of_ble_eq_true rfl, Nat.le_of_ble_eq_true rfl⟩) (pv_w hP hD hK hG [0] rfl rfl rfl 0 rfl rfl) rfl rfl hl.1 rfl (lv_room (Nat.le_of_ble_eq_true rfl)) dX12_animator_14 ⟨Nat.le_of_ble_eq_true rfl, Nat.le_of_ble_eq_true rfl⟩) hS (fun q _ h => hF q h) hF (fun r_2 uu9 tt9 H locs ht hvm wr_2 hB hz1 hk1 hS => ?_)
    obtain ⟨hP1, hD1⟩ := hB
    rw [ht] at hP1
    obtain ⟨hP, hD⟩ := va_join (wr := [(m_most, .inl (cT 0, 6, .inl (fun _ => 0)))]) (w1 := [(h0, .inr (12, ((fs.set 0 (.int 0)).set 0 (.int 1))))]) hP hD [0] [1] rfl rfl (by decide) (by decide) hk1 hF hP1 hD1
    have hP : va_P D vwCl [(m_most, .inl (cT 0, 6, .inl (fun _ => 0))), (h0, .inr (12, ((fs.set 0 (.int 0)).set 0 (.int 1))))] _ := hP
    have hD : va_D A [(m_most, .inl (cT 0, 6, .inl (fun _ => 0))), (h0, .inr (12, ((fs.set 0 (.int 0)).set 0 (.int 1))))] := hD
    obtain rfl : r_2 = 0 := wr_2.trans (rfl)
    refine lv_if_ne (tgt := 22) hx hb dX12_animator_17 (by decide) (fun c9 => absurd c9 (by decide)) (fun _ => ?_)
    refine lv_iconst (v := 0) hx hb dX12_animator_20 (by decide) ?_
    have hP9 := hP.sub (ws' := [(h0, .inr (12, ((fs.set 0 (.int 0)).set 0 (.int 1))))]) [1] rfl
    have hD9 := hD.sub (ws' := [(h0, .inr (12, ((fs.set 0 (.int 0)).set 0 (.int 1))))]) [1] (by decide) rfl
    exact W.iret (v := 0) hx hb hr (fun t ht hW => ⟨⟨0, (), rfl, fun _ => rfl, ⟨((fs.set 0 (.int 0)).set 0 (.int 1)), 1, by simp only [List.length_set]; exact hfs, List.getElem?_set_self (by simp only [List.length_set, hfs]; decide), by simp [th_anim, ← wr_1], by rw [ht]; exact hP9, hD9⟩⟩, hS.F ht⟩) hS.2.2 dX12_animator_21
  · have hF := va_free (wc := [(h0, .inr (12, (fs.set 0 (.int 0))))]) hD hS hA [0] rfl
    refine va_calli (va_runV (As := [.int 1, .int 1]) (rest := []) ⟨hx, hb, hml, hown, hts⟩ (c_X12_may_1 l D cT h0 1 (fs.set 0 (.int 0)) _ (by simp only [List.length_set]; exact hfs) (List.getElem?_set_self (by simp only [List.length_set, hfs]; decide))) (cwV 2 hts gX12_animator_X12_may rfl rfl rfl (by decide +kernel) ⟨Nat.le_of_ble_eq_true rfl, Nat.le_of_ble_eq_true rfl⟩) (pv_w hP hD hK hG [0] rfl rfl rfl 0 rfl rfl) rfl rfl hl.1 rfl (lv_room (Nat.le_of_ble_eq_true rfl)) dX12_animator_14 ⟨Nat.le_of_ble_eq_true rfl, Nat.le_of_ble_eq_true rfl⟩) hS (fun q _ h => hF q h) hF (fun r_3 uu9 tt9 H locs ht hvm wr_3 hB hz1 hk1 hS => ?_)
    obtain ⟨hP1, hD1⟩ := hB
    rw [ht] at hP1
    obtain ⟨hP, hD⟩ := va_join (wr := [(m_most, .inl (cT 0, 6, .inl (fun _ => 0)))]) (w1 := [(h0, .inr (12, (fs.set 0 (.int 0))))]) hP hD [0] [1] rfl rfl (by decide) (by decide) hk1 hF hP1 hD1
    have hP : va_P D vwCl [(m_most, .inl (cT 0, 6, .inl (fun _ => 0))), (h0, .inr (12, (fs.set 0 (.int 0))))] _ := hP
    have hD : va_D A [(m_most, .inl (cT 0, 6, .inl (fun _ => 0))), (h0, .inr (12, (fs.set 0 (.int 0))))] := hD
    obtain rfl : r_3 = 1 := wr_3.trans (rfl)
    refine lv_if_ne (tgt := 22) hx hb dX12_animator_17 (by decide) (fun _ => ?_) (fun c9 => absurd c9 (by decide))
    refine lv_aload_n hx hb dX12_animator_22 rfl (lv_at hl 0 rfl) ?_
    refine va_get (D := D) (ci := 12) (v := .int 0) (C := RX12) (T := TX12) (N := 109) hx hb hts (fun _ h => List.mem_cons_of_mem _ (List.mem_append_right _ h)) hown hK hP 1 rfl rfl 88 (by decide) (hts (.fieldLink RX12 525 "PuppetFilmModel" "animators" "I") (List.mem_of_getElem? (i := 2) (by decide +kernel))) (fun _ h9 => h9) ((List.getElem?_set_ne (by decide)).trans (hfs_88)) dX12_animator_23 ?_
    refine lv_bipush (v := 6) hx hb dX12_animator_26 (by decide) ?_
    refine lv_icmp_ne (tgt := 33) hx hb dX12_animator_28 (by decide) (fun _ => ?_) (fun c9 => absurd c9 (by decide))
    refine lv_aload_n hx hb dX12_animator_33 rfl (lv_at hl 0 rfl) ?_
    refine va_get (D := D) (ci := 12) (v := .ref m_most) (C := RX12) (T := TX12) (N := 109) hx hb hts (fun _ h => List.mem_cons_of_mem _ (List.mem_append_right _ h)) hown hK hP 1 rfl rfl 89 (by decide) (hts (.fieldLink RX12 207 "PuppetFilmModel" "most" "[I") (List.mem_of_getElem? (i := 3) (by decide +kernel))) (fun _ h9 => h9) ((List.getElem?_set_ne (by decide)).trans (hfs_89)) dX12_animator_34 ?_
    refine lv_aload_n hx hb dX12_animator_37 rfl (lv_at hl 0 rfl) ?_
    refine va_get (D := D) (ci := 12) (v := .int 0) (C := RX12) (T := TX12) (N := 109) hx hb hts (fun _ h => List.mem_cons_of_mem _ (List.mem_append_right _ h)) hown hK hP 1 rfl rfl 88 (by decide) (hts (.fieldLink RX12 525 "PuppetFilmModel" "animators" "I") (List.mem_of_getElem? (i := 2) (by decide +kernel))) (fun _ h9 => h9) ((List.getElem?_set_ne (by decide)).trans (hfs_88)) dX12_animator_38 ?_
    refine lv_iload_n hx hb dX12_animator_41 rfl (lv_at hl 1 rfl) ?_
    refine va_iast hx hb hK hP hD hS 0 0 rfl rfl (by unfold vp_in; decide) dX12_animator_42 (fun H locs hP hD hS => ?_)
    have hP : va_P D vwCl [(m_most, .inl (cT 0, 6, .inl (upd (fun _ => 0) 0 p0))), (h0, .inr (12, (fs.set 0 (.int 0))))] _ := hP
    have hD : va_D A [(m_most, .inl (cT 0, 6, .inl (upd (fun _ => 0) 0 p0))), (h0, .inr (12, (fs.set 0 (.int 0))))] := hD
    refine lv_aload_n hx hb dX12_animator_43 rfl (lv_at hl 0 rfl) ?_
    refine lv_dup hx hb dX12_animator_44 rfl ?_
    refine va_get (D := D) (ci := 12) (v := .int 0) (C := RX12) (T := TX12) (N := 109) hx hb hts (fun _ h => List.mem_cons_of_mem _ (List.mem_append_right _ h)) hown hK hP 1 rfl rfl 88 (by decide) (hts (.fieldLink RX12 525 "PuppetFilmModel" "animators" "I") (List.mem_of_getElem? (i := 2) (by decide +kernel))) (fun _ h9 => h9) ((List.getElem?_set_ne (by decide)).trans (hfs_88)) dX12_animator_45 ?_
    refine lv_iconst (v := 1) hx hb dX12_animator_48 (by decide) ?_
    refine lv_iadd hx hb dX12_animator_49 ?_
    refine lv_topi (fun z_4 ez_4 => ?_)
    obtain rfl : z_4 = 1 := ez_4.trans (by decide)
    refine va_put (D := D) (ci := 12) (v := .int 1) (ty := .int) (C := RX12) (T := TX12) (N := 109) hx hb hts (fun _ h => List.mem_cons_of_mem _ (List.mem_append_right _ h)) tyX12 tyX12_ok nmX12 hown hK hP hD hS 1 rfl rfl 88 (by decide) (hts (.fieldLink RX12 525 "PuppetFilmModel" "animators" "I") (List.mem_of_getElem? (i := 2) (by decide +kernel))) (fun _ h9 => h9) rfl (by decide +kernel) rfl rfl (by simp only [List.length_set, hfs]; decide) dX12_animator_50 (fun H locs hP hD hS => ?_)
    have hP : va_P D vwCl [(m_most, .inl (cT 0, 6, .inl (upd (fun _ => 0) 0 p0))), (h0, .inr (12, ((fs.set 0 (.int 0)).set 88 (.int 1))))] _ := hP
    have hD : va_D A [(m_most, .inl (cT 0, 6, .inl (upd (fun _ => 0) 0 p0))), (h0, .inr (12, ((fs.set 0 (.int 0)).set 88 (.int 1))))] := hD
    refine lv_aload_n hx hb dX12_animator_53 rfl (lv_at hl 0 rfl) ?_
    refine va_get (D := D) (ci := 12) (v := .int 1) (C := RX12) (T := TX12) (N := 109) hx hb hts (fun _ h => List.mem_cons_of_mem _ (List.mem_append_right _ h)) hown hK hP 1 rfl rfl 88 (by decide) (hts (.fieldLink RX12 525 "PuppetFilmModel" "animators" "I") (List.mem_of_getElem? (i := 2) (by decide +kernel))) (fun _ h9 => h9) (List.getElem?_set_self (by simp only [List.length_set, hfs]; decide)) dX12_animator_54 ?_
    refine lv_iconst (v := 1) hx hb dX12_animator_57 (by decide) ?_
    refine lv_isub hx hb dX12_animator_58 ?_
    refine lv_topi (fun z_5 ez_5 => ?_)
    obtain rfl : z_5 = 0 := ez_5.trans (by decide)
    have hP9 := hP.sub (ws' := [(h0, .inr (12, ((fs.set 0 (.int 0)).set 88 (.int 1))))]) [1] rfl
    have hD9 := hD.sub (ws' := [(h0, .inr (12, ((fs.set 0 (.int 0)).set 88 (.int 1))))]) [1] (by decide) rfl
    exact W.iret (v := 0) hx hb hr (fun t ht hW => ⟨⟨0, (), rfl, fun _ => rfl, ⟨((fs.set 0 (.int 0)).set 88 (.int 1)), 0, by simp only [List.length_set]; exact hfs, (List.getElem?_set_ne (by decide)).trans (List.getElem?_set_self (by simp only [List.length_set, hfs]; decide)), by simp [th_anim, ← wr_1], by rw [ht]; exact hP9, hD9⟩⟩, hS.F ht⟩) hS.2.2 dX12_animator_59
theorem dX12_station_0 : decode cX12_station 0 = .ok (.aload_n 0, 1) := by decide +kernel
theorem dX12_station_1 : decode cX12_station 1 = .ok (.iconst 0, 1) := by decide +kernel
theorem dX12_station_12 : decode cX12_station 12 = .ok (.iconst 1, 1) := by decide +kernel
theorem dX12_station_13 : decode cX12_station 13 = .ok (.invokevirtual 271, 3) := by decide +kernel
theorem dX12_station_16 : decode cX12_station 16 = .ok (.ifCond .eq 22, 3) := by decide +kernel
theorem dX12_station_19 : decode cX12_station 19 = .ok (.aload_n 0, 1) := by decide +kernel
theorem dX12_station_2 : decode cX12_station 2 = .ok (.putfield 1, 3) := by decide +kernel
theorem dX12_station_20 : decode cX12_station 20 = .ok (.iload_n 2, 1) := by decide +kernel
theorem dX12_station_21 : decode cX12_station 21 = .ok (.iconst (-1), 1) := by decide +kernel
theorem dX12_station_22 : decode cX12_station 22 = .ok (.aload_n 0, 1) := by decide +kernel
theorem dX12_station_23 : decode cX12_station 23 = .ok (.getfield 525, 3) := by decide +kernel
theorem dX12_station_26 : decode cX12_station 26 = .ok (.iconst 1, 1) := by decide +kernel
theorem dX12_station_27 : decode cX12_station 27 = .ok (.isub, 1) := by decide +kernel
theorem dX12_station_28 : decode cX12_station 28 = .ok (.invokestatic 267, 3) := by decide +kernel
theorem dX12_station_31 : decode cX12_station 31 = .ok (.iconst 2, 1) := by decide +kernel
theorem dX12_station_32 : decode cX12_station 32 = .ok (.invokevirtual 271, 3) := by decide +kernel
theorem dX12_station_35 : decode cX12_station 35 = .ok (.ifCond .ne 5, 3) := by decide +kernel
theorem dX12_station_38 : decode cX12_station 38 = .ok (.iconst 0, 1) := by decide +kernel
theorem dX12_station_39 : decode cX12_station 39 = .ok (.ireturn, 1) := by decide +kernel
theorem dX12_station_40 : decode cX12_station 40 = .ok (.aload_n 0, 1) := by decide +kernel
theorem dX12_station_41 : decode cX12_station 41 = .ok (.getfield 216, 3) := by decide +kernel
theorem dX12_station_44 : decode cX12_station 44 = .ok (.iload_n 1, 1) := by decide +kernel
theorem dX12_station_45 : decode cX12_station 45 = .ok (.iaload, 1) := by decide +kernel
theorem dX12_station_46 : decode cX12_station 46 = .ok (.istore_n 3, 1) := by decide +kernel
theorem dX12_station_47 : decode cX12_station 47 = .ok (.aload_n 0, 1) := by decide +kernel
theorem dX12_station_48 : decode cX12_station 48 = .ok (.getfield 216, 3) := by decide +kernel
theorem dX12_station_5 : decode cX12_station 5 = .ok (.aload_n 0, 1) := by decide +kernel
theorem dX12_station_51 : decode cX12_station 51 = .ok (.iload_n 1, 1) := by decide +kernel
theorem dX12_station_52 : decode cX12_station 52 = .ok (.iload_n 2, 1) := by decide +kernel
theorem dX12_station_53 : decode cX12_station 53 = .ok (.iastore, 1) := by decide +kernel
theorem dX12_station_54 : decode cX12_station 54 = .ok (.iload_n 3, 1) := by decide +kernel
theorem dX12_station_55 : decode cX12_station 55 = .ok (.ireturn, 1) := by decide +kernel
theorem dX12_station_6 : decode cX12_station 6 = .ok (.iload_n 1, 1) := by decide +kernel
theorem dX12_station_7 : decode cX12_station 7 = .ok (.iconst 0, 1) := by decide +kernel
theorem dX12_station_8 : decode cX12_station 8 = .ok (.iconst 2, 1) := by decide +kernel
theorem dX12_station_9 : decode cX12_station 9 = .ok (.invokestatic 267, 3) := by decide +kernel
set_option maxRecDepth 20000 in
theorem ggX12_station_X12_may : GoodIn wsX12_station wsX12_may := goodIn_r _ [11, 1, 12, 13, 14, 15, 16, 17, 18, 19, 20, 21, 22, 23, 24, 25, 26, 27, 28, 29, 30, 31, 32, 33, 34, 35, 36, 37, 38, 39, 40, 41, 42, 43, 44, 45, 46, 47, 48, 49, 50, 51, 52, 53, 54, 55, 56, 57, 58, 59, 60, 61, 62, 63, 64, 65, 66, 67, 68, 69, 70, 71, 72, 73, 74, 75, 76, 77, 78, 79, 80, 81, 82, 83, 84, 85, 86, 87, 88, 89, 90, 91, 92, 93, 94, 95, 96, 97, 98, 99, 100, 101, 102, 103, 104, 105, 106, 107, 108, 109, 110, 111, 112, 113, 114, 115, 116, 117, 118, 119, 120] (by decide +kernel) (by decide +kernel)
set_option maxRecDepth 20000 in
theorem gX12_station_X12_may : GoodIn wsX12_station (wsV RX12 271 RX12 yX12_may wsX12_may) := goodIn_app (goodIn_of _ (by decide +kernel)) ggX12_station_X12_may
set_option maxRecDepth 20000 in
theorem ggX12_station_X12_within : GoodIn wsX12_station wsX12_within := goodIn_r _ [7] (by decide +kernel) (by decide +kernel)
set_option maxRecDepth 20000 in
theorem gX12_station_X12_within : GoodIn wsX12_station (va_wsS RX12 267 yX12_within wsX12_within) := goodIn_app (goodIn_of _ (by decide +kernel)) ggX12_station_X12_within
set_option maxHeartbeats 4000000 in
set_option maxRecDepth 100000 in
theorem c_X12_station (l : Launch) (D : va_G) (cT : Nat → ClassId) (h0 : Nat) (p0 : Int32) (p1 : Int32) (fs : List Value) (m_th : Int32) (m_station : Nat) (mst : Nat → Int32) (sz : Nat) (hst9 : ∀ k, k < 3 → mst k = -1) (hfs : fs.length = 109) (hfs_0 : fs[0]? = some (.int m_th)) (hfs_88 : fs[88]? = some (.int 0)) (hfs_92 : fs[92]? = some (.ref m_station)) : Met l yX12_station wsX12_station ({ frames := 9, cells := 0, slots := 0, locals := 220 }) (va_Pc [.ref h0, .int p0, .int p1] (PW D cT [(h0, .inr (12, fs)), (m_station, .inl (cT 0, 3, .inl mst))] sz)) (va_Qi (fun (r : Int32) (_ : Unit) => th_stat p0 p1 = 0 → r = -1) (fun (_ : Unit) (t : State) => ∃ (gs : List Value), ∃ (tt : Int32), (gs.length = 109) ∧ (gs[0]? = some (.int tt)) ∧ (tt = th_stat p0 p1) ∧ va_P D vwCl [(h0, .inr (12, gs))] t.heap ∧ va_D (va_A [(h0, .inr (12, fs)), (m_station, .inl (cT 0, 3, .inl mst))] sz) [(h0, .inr (12, gs))]) (va_A [(h0, .inr (12, fs)), (m_station, .inl (cT 0, 3, .inl mst))] sz)) 0 0 (va_A [(h0, .inr (12, fs)), (m_station, .inl (cT 0, 3, .inl mst))] sz) := by
  refine Met.ofW (cc := cX12_station) (maxL := 4) (ret := (some .int)) (by decide) rfl ?_
  intro p e s m args below meth c s₁ B hml hv
  obtain ⟨rfl, hsz, hP, hK, hD0, hG⟩ := hv
  have hx := B.exec
  have hb := B.bytes
  have hr := B.returns
  have hts := atoms_spec (ws := wsX12_station) B.pre
  have hown : s.vm.findClass RX12 = some m.cls := findClass_of_methodNamed B.named
  have hlocks := B.notSynchronized
  subst hsz
  have hD := hD0.self (sz := s.heap.size)
  generalize hAe : va_A [(h0, .inr (12, fs)), (m_station, .inl (cT 0, 3, .inl mst))] s.heap.size = A at hD ⊢
  have hA : ∀ q : Nat, s.heap.size ≤ q → A q := fun q h => by rw [← hAe]; exact Or.inr h
  have hS : va_S A s.heap s.heap [] := va_S.rf
  have hP : va_P D vwCl [(h0, .inr (12, fs)), (m_station, .inl (cT 0, 3, .inl mst))] s.heap := hP
  have hl := lv_entry ([.ref h0, .int p0, .int p1]) (n := 4) (Nat.le_of_ble_eq_true rfl)
  rw [lg_entry_eq]
  generalize (lg_sl ([.ref h0, .int p0, .int p1]) ++ List.replicate (4 - (lg_sl ([.ref h0, .int p0, .int p1])).length) Slot.unset).toArray = ls at hl ⊢
  have hl : lv_has ls 4 [(0, .ref h0), (1, .int p0), (2, .int p1)] := hl
  refine lv_aload_n hx hb dX12_station_0 rfl (lv_at hl 0 rfl) ?_
  refine lv_iconst (v := 0) hx hb dX12_station_1 (by decide) ?_
  refine va_put (D := D) (ci := 12) (v := .int 0) (ty := .int) (C := RX12) (T := TX12) (N := 109) hx hb hts (fun _ h => List.mem_cons_of_mem _ (List.mem_append_right _ h)) tyX12 tyX12_ok nmX12 hown hK hP hD hS 0 rfl rfl 0 (by decide) (hts (.fieldLink RX12 1 "PuppetFilmModel" "thrown" "I") (List.mem_of_getElem? (i := 1) (by decide +kernel))) (fun _ h9 => h9) rfl (by decide +kernel) rfl rfl (by simp only [List.length_set, hfs]; decide) dX12_station_2 (fun H locs hP hD hS => ?_)
  have hP : va_P D vwCl [(h0, .inr (12, (fs.set 0 (.int 0)))), (m_station, .inl (cT 0, 3, .inl mst))] _ := hP
  have hD : va_D A [(h0, .inr (12, (fs.set 0 (.int 0)))), (m_station, .inl (cT 0, 3, .inl mst))] := hD
  refine lv_aload_n hx hb dX12_station_5 rfl (lv_at hl 0 rfl) ?_
  refine lv_iload_n hx hb dX12_station_6 rfl (lv_at hl 1 rfl) ?_
  refine lv_iconst (v := 0) hx hb dX12_station_7 (by decide) ?_
  refine lv_iconst (v := 2) hx hb dX12_station_8 (by decide) ?_
  have hF := va_free (wc := []) hD hS hA [] rfl
  refine va_calli (va_runS (As := [.int p0, .int 0, .int 2]) (rest := [.ref h0]) ⟨hx, hb, hml, hown, hts⟩ (c_X12_within l D cT p0 0 2 _ ) (va_cwS 3 hts gX12_station_X12_within rfl rfl rfl (by decide +kernel) ⟨Nat.le_of_ble_eq_true rfl, Nat.le_of_ble_eq_true rfl⟩) (ps_w hP hD hK hG [] rfl rfl rfl) rfl rfl hl.1 rfl (lv_room (Nat.le_of_ble_eq_true rfl)) dX12_station_9 ⟨Nat.le_of_ble_eq_true rfl, Nat.le_of_ble_eq_true rfl⟩) hS (fun q _ h => hF q h) hF (fun r_1 uu9 tt9 H locs ht hvm wr_1 hB hz1 hk1 hS => ?_)
  obtain ⟨hP, hD⟩ := va_join (wr := [(h0, .inr (12, (fs.set 0 (.int 0)))), (m_station, .inl (cT 0, 3, .inl mst))]) (w1 := []) hP hD [] [0, 1] rfl rfl (by decide) (by decide) hk1 hF vp_nil vd_nil
  have hP : va_P D vwCl [(h0, .inr (12, (fs.set 0 (.int 0)))), (m_station, .inl (cT 0, 3, .inl mst))] _ := hP
  have hD : va_D A [(h0, .inr (12, (fs.set 0 (.int 0)))), (m_station, .inl (cT 0, 3, .inl mst))] := hD
  refine lv_iconst (v := 1) hx hb dX12_station_12 (by decide) ?_
  have g9 := wi_01 p0 0 2
  rw [← wr_1] at g9
  rcases g9 with rfl | rfl
  · have hF := va_free (wc := [(h0, .inr (12, (fs.set 0 (.int 0))))]) hD hS hA [0] rfl
    refine va_calli (va_runV (As := [.int 0, .int 1]) (rest := []) ⟨hx, hb, hml, hown, hts⟩ (c_X12_may_0_1 l D cT h0 (fs.set 0 (.int 0)) _ (by simp only [List.length_set]; exact hfs) (List.getElem?_set_self (by simp only [List.length_set, hfs]; decide))) (cwV 2 hts gX12_station_X12_may rfl rfl rfl (by decide +kernel) ⟨Nat.le_of_ble_eq_true rfl, Nat.le_of_ble_eq_true rfl⟩) (pv_w hP hD hK hG [0] rfl rfl rfl 0 rfl rfl) rfl rfl hl.1 rfl (lv_room (Nat.le_of_ble_eq_true rfl)) dX12_station_13 ⟨Nat.le_of_ble_eq_true rfl, Nat.le_of_ble_eq_true rfl⟩) hS (fun q _ h => hF q h) hF (fun r_2 uu9 tt9 H locs ht hvm wr_2 hB hz1 hk1 hS => ?_)
    obtain ⟨hP1, hD1⟩ := hB
    rw [ht] at hP1
    obtain ⟨hP, hD⟩ := va_join (wr := [(m_station, .inl (cT 0, 3, .inl mst))]) (w1 := [(h0, .inr (12, ((fs.set 0 (.int 0)).set 0 (.int 1))))]) hP hD [0] [1] rfl rfl (by decide) (by decide) hk1 hF hP1 hD1
    have hP : va_P D vwCl [(m_station, .inl (cT 0, 3, .inl mst)), (h0, .inr (12, ((fs.set 0 (.int 0)).set 0 (.int 1))))] _ := hP
    have hD : va_D A [(m_station, .inl (cT 0, 3, .inl mst)), (h0, .inr (12, ((fs.set 0 (.int 0)).set 0 (.int 1))))] := hD
    obtain rfl : r_2 = 0 := wr_2.trans (rfl)
    refine lv_if_eq (tgt := 38) hx hb dX12_station_16 (by decide) (fun _ => ?_) (fun c9 => absurd c9 (by decide))
    refine lv_iconst (v := 0) hx hb dX12_station_38 (by decide) ?_
    have hP9 := hP.sub (ws' := [(h0, .inr (12, ((fs.set 0 (.int 0)).set 0 (.int 1))))]) [1] rfl
    have hD9 := hD.sub (ws' := [(h0, .inr (12, ((fs.set 0 (.int 0)).set 0 (.int 1))))]) [1] (by decide) rfl
    exact W.iret (v := 0) hx hb hr (fun t ht hW => ⟨⟨0, (), rfl, by simp [th_stat, ← wr_1], ⟨((fs.set 0 (.int 0)).set 0 (.int 1)), 1, by simp only [List.length_set]; exact hfs, List.getElem?_set_self (by simp only [List.length_set, hfs]; decide), by simp [th_stat, ← wr_1], by rw [ht]; exact hP9, hD9⟩⟩, hS.F ht⟩) hS.2.2 dX12_station_39
  · have hF := va_free (wc := [(h0, .inr (12, (fs.set 0 (.int 0))))]) hD hS hA [0] rfl
    refine va_calli (va_runV (As := [.int 1, .int 1]) (rest := []) ⟨hx, hb, hml, hown, hts⟩ (c_X12_may_1 l D cT h0 1 (fs.set 0 (.int 0)) _ (by simp only [List.length_set]; exact hfs) (List.getElem?_set_self (by simp only [List.length_set, hfs]; decide))) (cwV 2 hts gX12_station_X12_may rfl rfl rfl (by decide +kernel) ⟨Nat.le_of_ble_eq_true rfl, Nat.le_of_ble_eq_true rfl⟩) (pv_w hP hD hK hG [0] rfl rfl rfl 0 rfl rfl) rfl rfl hl.1 rfl (lv_room (Nat.le_of_ble_eq_true rfl)) dX12_station_13 ⟨Nat.le_of_ble_eq_true rfl, Nat.le_of_ble_eq_true rfl⟩) hS (fun q _ h => hF q h) hF (fun r_3 uu9 tt9 H locs ht hvm wr_3 hB hz1 hk1 hS => ?_)
    obtain ⟨hP1, hD1⟩ := hB
    rw [ht] at hP1
    obtain ⟨hP, hD⟩ := va_join (wr := [(m_station, .inl (cT 0, 3, .inl mst))]) (w1 := [(h0, .inr (12, (fs.set 0 (.int 0))))]) hP hD [0] [1] rfl rfl (by decide) (by decide) hk1 hF hP1 hD1
    have hP : va_P D vwCl [(m_station, .inl (cT 0, 3, .inl mst)), (h0, .inr (12, (fs.set 0 (.int 0))))] _ := hP
    have hD : va_D A [(m_station, .inl (cT 0, 3, .inl mst)), (h0, .inr (12, (fs.set 0 (.int 0))))] := hD
    obtain rfl : r_3 = 1 := wr_3.trans (rfl)
    refine lv_if_eq (tgt := 38) hx hb dX12_station_16 (by decide) (fun c9 => absurd c9 (by decide)) (fun _ => ?_)
    refine lv_aload_n hx hb dX12_station_19 rfl (lv_at hl 0 rfl) ?_
    refine lv_iload_n hx hb dX12_station_20 rfl (lv_at hl 2 rfl) ?_
    refine lv_iconst (v := (-1)) hx hb dX12_station_21 (by decide) ?_
    refine lv_aload_n hx hb dX12_station_22 rfl (lv_at hl 0 rfl) ?_
    refine va_get (D := D) (ci := 12) (v := .int 0) (C := RX12) (T := TX12) (N := 109) hx hb hts (fun _ h => List.mem_cons_of_mem _ (List.mem_append_right _ h)) hown hK hP 1 rfl rfl 88 (by decide) (hts (.fieldLink RX12 525 "PuppetFilmModel" "animators" "I") (List.mem_of_getElem? (i := 2) (by decide +kernel))) (fun _ h9 => h9) ((List.getElem?_set_ne (by decide)).trans (hfs_88)) dX12_station_23 ?_
    refine lv_iconst (v := 1) hx hb dX12_station_26 (by decide) ?_
    refine lv_isub hx hb dX12_station_27 ?_
    refine lv_topi (fun z_4 ez_4 => ?_)
    obtain rfl : z_4 = (-1) := ez_4.trans (by decide)
    have hF := va_free (wc := []) hD hS hA [] rfl
    refine va_calli (va_runS (As := [.int p1, .int (-1), .int (-1)]) (rest := [.ref h0]) ⟨hx, hb, hml, hown, hts⟩ (c_X12_within l D cT p1 (-1) (-1) _ ) (va_cwS 3 hts gX12_station_X12_within rfl rfl rfl (by decide +kernel) ⟨Nat.le_of_ble_eq_true rfl, Nat.le_of_ble_eq_true rfl⟩) (ps_w hP hD hK hG [] rfl rfl rfl) rfl rfl hl.1 rfl (lv_room (Nat.le_of_ble_eq_true rfl)) dX12_station_28 ⟨Nat.le_of_ble_eq_true rfl, Nat.le_of_ble_eq_true rfl⟩) hS (fun q _ h => hF q h) hF (fun r_5 uu9 tt9 H locs ht hvm wr_5 hB hz1 hk1 hS => ?_)
    obtain ⟨hP, hD⟩ := va_join (wr := [(m_station, .inl (cT 0, 3, .inl mst)), (h0, .inr (12, (fs.set 0 (.int 0))))]) (w1 := []) hP hD [] [0, 1] rfl rfl (by decide) (by decide) hk1 hF vp_nil vd_nil
    have hP : va_P D vwCl [(m_station, .inl (cT 0, 3, .inl mst)), (h0, .inr (12, (fs.set 0 (.int 0))))] _ := hP
    have hD : va_D A [(m_station, .inl (cT 0, 3, .inl mst)), (h0, .inr (12, (fs.set 0 (.int 0))))] := hD
    refine lv_iconst (v := 2) hx hb dX12_station_31 (by decide) ?_
    have g9 := wi_01 p1 (-1) (-1)
    rw [← wr_5] at g9
    rcases g9 with rfl | rfl
    · have hF := va_free (wc := [(h0, .inr (12, (fs.set 0 (.int 0))))]) hD hS hA [1] rfl
      refine va_calli (va_runV (As := [.int 0, .int 2]) (rest := []) ⟨hx, hb, hml, hown, hts⟩ (c_X12_may_0_2 l D cT h0 (fs.set 0 (.int 0)) _ (by simp only [List.length_set]; exact hfs) (List.getElem?_set_self (by simp only [List.length_set, hfs]; decide))) (cwV 2 hts gX12_station_X12_may rfl rfl rfl (by decide +kernel) ⟨Nat.le_of_ble_eq_true rfl, Nat.le_of_ble_eq_true rfl⟩) (pv_w hP hD hK hG [1] rfl rfl rfl 1 rfl rfl) rfl rfl hl.1 rfl (lv_room (Nat.le_of_ble_eq_true rfl)) dX12_station_32 ⟨Nat.le_of_ble_eq_true rfl, Nat.le_of_ble_eq_true rfl⟩) hS (fun q _ h => hF q h) hF (fun r_6 uu9 tt9 H locs ht hvm wr_6 hB hz1 hk1 hS => ?_)
      obtain ⟨hP1, hD1⟩ := hB
      rw [ht] at hP1
      obtain ⟨hP, hD⟩ := va_join (wr := [(m_station, .inl (cT 0, 3, .inl mst))]) (w1 := [(h0, .inr (12, ((fs.set 0 (.int 0)).set 0 (.int 2))))]) hP hD [1] [0] rfl rfl (by decide) (by decide) hk1 hF hP1 hD1
      have hP : va_P D vwCl [(m_station, .inl (cT 0, 3, .inl mst)), (h0, .inr (12, ((fs.set 0 (.int 0)).set 0 (.int 2))))] _ := hP
      have hD : va_D A [(m_station, .inl (cT 0, 3, .inl mst)), (h0, .inr (12, ((fs.set 0 (.int 0)).set 0 (.int 2))))] := hD
      obtain rfl : r_6 = 0 := wr_6.trans (rfl)
      refine lv_if_ne (tgt := 40) hx hb dX12_station_35 (by decide) (fun c9 => absurd c9 (by decide)) (fun _ => ?_)
      refine lv_iconst (v := 0) hx hb dX12_station_38 (by decide) ?_
      have hP9 := hP.sub (ws' := [(h0, .inr (12, ((fs.set 0 (.int 0)).set 0 (.int 2))))]) [1] rfl
      have hD9 := hD.sub (ws' := [(h0, .inr (12, ((fs.set 0 (.int 0)).set 0 (.int 2))))]) [1] (by decide) rfl
      exact W.iret (v := 0) hx hb hr (fun t ht hW => ⟨⟨0, (), rfl, by simp [th_stat, ← wr_1, ← wr_5], ⟨((fs.set 0 (.int 0)).set 0 (.int 2)), 2, by simp only [List.length_set]; exact hfs, List.getElem?_set_self (by simp only [List.length_set, hfs]; decide), by simp [th_stat, ← wr_1, ← wr_5], by rw [ht]; exact hP9, hD9⟩⟩, hS.F ht⟩) hS.2.2 dX12_station_39
    · have hF := va_free (wc := [(h0, .inr (12, (fs.set 0 (.int 0))))]) hD hS hA [1] rfl
      refine va_calli (va_runV (As := [.int 1, .int 2]) (rest := []) ⟨hx, hb, hml, hown, hts⟩ (c_X12_may_1 l D cT h0 2 (fs.set 0 (.int 0)) _ (by simp only [List.length_set]; exact hfs) (List.getElem?_set_self (by simp only [List.length_set, hfs]; decide))) (cwV 2 hts gX12_station_X12_may rfl rfl rfl (by decide +kernel) ⟨Nat.le_of_ble_eq_true rfl, Nat.le_of_ble_eq_true rfl⟩) (pv_w hP hD hK hG [1] rfl rfl rfl 1 rfl rfl) rfl rfl hl.1 rfl (lv_room (Nat.le_of_ble_eq_true rfl)) dX12_station_32 ⟨Nat.le_of_ble_eq_true rfl, Nat.le_of_ble_eq_true rfl⟩) hS (fun q _ h => hF q h) hF (fun r_7 uu9 tt9 H locs ht hvm wr_7 hB hz1 hk1 hS => ?_)
      obtain ⟨hP1, hD1⟩ := hB
      rw [ht] at hP1
      obtain ⟨hP, hD⟩ := va_join (wr := [(m_station, .inl (cT 0, 3, .inl mst))]) (w1 := [(h0, .inr (12, (fs.set 0 (.int 0))))]) hP hD [1] [0] rfl rfl (by decide) (by decide) hk1 hF hP1 hD1
      have hP : va_P D vwCl [(m_station, .inl (cT 0, 3, .inl mst)), (h0, .inr (12, (fs.set 0 (.int 0))))] _ := hP
      have hD : va_D A [(m_station, .inl (cT 0, 3, .inl mst)), (h0, .inr (12, (fs.set 0 (.int 0))))] := hD
      obtain rfl : r_7 = 1 := wr_7.trans (rfl)
      refine lv_if_ne (tgt := 40) hx hb dX12_station_35 (by decide) (fun _ => ?_) (fun c9 => absurd c9 (by decide))
      refine lv_aload_n hx hb dX12_station_40 rfl (lv_at hl 0 rfl) ?_
      refine va_get (D := D) (ci := 12) (v := .ref m_station) (C := RX12) (T := TX12) (N := 109) hx hb hts (fun _ h => List.mem_cons_of_mem _ (List.mem_append_right _ h)) hown hK hP 1 rfl rfl 92 (by decide) (hts (.fieldLink RX12 216 "PuppetFilmModel" "station" "[I") (List.mem_of_getElem? (i := 3) (by decide +kernel))) (fun _ h9 => h9) ((List.getElem?_set_ne (by decide)).trans (hfs_92)) dX12_station_41 ?_
      refine lv_iload_n hx hb dX12_station_44 rfl (lv_at hl 1 rfl) ?_
      refine va_iald hx hb hK hP 0 0 rfl rfl (wi_vin (hi := 2) (by decide) wr_1) dX12_station_45 ?_
      refine lv_topi (fun x_8 ex_8 => ?_)
      obtain rfl : x_8 = (-1) := ex_8.trans (hst9 _ (vin_n (wi_vin (hi := 2) (by decide) wr_1)))
      refine lv_istore_n (lv' := [(3, .int (-1)), (0, .ref h0), (1, .int p0), (2, .int p1)]) hx hb dX12_station_46 rfl hl (by decide) rfl (fun ls hl => ?_)
      refine lv_aload_n hx hb dX12_station_47 rfl (lv_at hl 1 rfl) ?_
      refine va_get (D := D) (ci := 12) (v := .ref m_station) (C := RX12) (T := TX12) (N := 109) hx hb hts (fun _ h => List.mem_cons_of_mem _ (List.mem_append_right _ h)) hown hK hP 1 rfl rfl 92 (by decide) (hts (.fieldLink RX12 216 "PuppetFilmModel" "station" "[I") (List.mem_of_getElem? (i := 3) (by decide +kernel))) (fun _ h9 => h9) ((List.getElem?_set_ne (by decide)).trans (hfs_92)) dX12_station_48 ?_
      refine lv_iload_n hx hb dX12_station_51 rfl (lv_at hl 2 rfl) ?_
      refine lv_iload_n hx hb dX12_station_52 rfl (lv_at hl 3 rfl) ?_
      refine va_iast hx hb hK hP hD hS 0 0 rfl rfl (wi_vin (hi := 2) (by decide) wr_1) dX12_station_53 (fun H locs hP hD hS => ?_)
      have hP : va_P D vwCl [(m_station, .inl (cT 0, 3, .inl (upd mst (p0.toNatClampNeg) p1))), (h0, .inr (12, (fs.set 0 (.int 0))))] _ := hP
      have hD : va_D A [(m_station, .inl (cT 0, 3, .inl (upd mst (p0.toNatClampNeg) p1))), (h0, .inr (12, (fs.set 0 (.int 0))))] := hD
      refine lv_iload_n hx hb dX12_station_54 rfl (lv_at hl 0 rfl) ?_
      have hP9 := hP.sub (ws' := [(h0, .inr (12, (fs.set 0 (.int 0))))]) [1] rfl
      have hD9 := hD.sub (ws' := [(h0, .inr (12, (fs.set 0 (.int 0))))]) [1] (by decide) rfl
      exact W.iret (v := (-1)) hx hb hr (fun t ht hW => ⟨⟨(-1), (), rfl, by simp [th_stat, ← wr_1, ← wr_5], ⟨(fs.set 0 (.int 0)), 0, by simp only [List.length_set]; exact hfs, List.getElem?_set_self (by simp only [List.length_set, hfs]; decide), by simp [th_stat, ← wr_1, ← wr_5], by rw [ht]; exact hP9, hD9⟩⟩, hS.F ht⟩) hS.2.2 dX12_station_55
theorem dX12_stands_0 : decode cX12_stands 0 = .ok (.aload_n 0, 1) := by decide +kernel
theorem dX12_stands_1 : decode cX12_stands 1 = .ok (.iconst 0, 1) := by decide +kernel
theorem dX12_stands_10 : decode cX12_stands 10 = .ok (.invokestatic 267, 3) := by decide +kernel
theorem dX12_stands_13 : decode cX12_stands 13 = .ok (.iconst 1, 1) := by decide +kernel
theorem dX12_stands_14 : decode cX12_stands 14 = .ok (.invokevirtual 271, 3) := by decide +kernel
theorem dX12_stands_17 : decode cX12_stands 17 = .ok (.ifCond .ne 5, 3) := by decide +kernel
theorem dX12_stands_2 : decode cX12_stands 2 = .ok (.putfield 1, 3) := by decide +kernel
theorem dX12_stands_20 : decode cX12_stands 20 = .ok (.iconst 0, 1) := by decide +kernel
theorem dX12_stands_21 : decode cX12_stands 21 = .ok (.ireturn, 1) := by decide +kernel
theorem dX12_stands_22 : decode cX12_stands 22 = .ok (.aload_n 0, 1) := by decide +kernel
theorem dX12_stands_23 : decode cX12_stands 23 = .ok (.getfield 234, 3) := by decide +kernel
theorem dX12_stands_26 : decode cX12_stands 26 = .ok (.iload_n 1, 1) := by decide +kernel
theorem dX12_stands_27 : decode cX12_stands 27 = .ok (.iaload, 1) := by decide +kernel
theorem dX12_stands_28 : decode cX12_stands 28 = .ok (.ireturn, 1) := by decide +kernel
theorem dX12_stands_5 : decode cX12_stands 5 = .ok (.aload_n 0, 1) := by decide +kernel
theorem dX12_stands_6 : decode cX12_stands 6 = .ok (.iload_n 1, 1) := by decide +kernel
theorem dX12_stands_7 : decode cX12_stands 7 = .ok (.iconst 0, 1) := by decide +kernel
theorem dX12_stands_8 : decode cX12_stands 8 = .ok (.bipush 7, 2) := by decide +kernel
set_option maxRecDepth 20000 in
theorem ggX12_stands_X12_may : GoodIn wsX12_stands wsX12_may := goodIn_r _ [10, 1, 11, 12, 13, 14, 15, 16, 17, 18, 19, 20, 21, 22, 23, 24, 25, 26, 27, 28, 29, 30, 31, 32, 33, 34, 35, 36, 37, 38, 39, 40, 41, 42, 43, 44, 45, 46, 47, 48, 49, 50, 51, 52, 53, 54, 55, 56, 57, 58, 59, 60, 61, 62, 63, 64, 65, 66, 67, 68, 69, 70, 71, 72, 73, 74, 75, 76, 77, 78, 79, 80, 81, 82, 83, 84, 85, 86, 87, 88, 89, 90, 91, 92, 93, 94, 95, 96, 97, 98, 99, 100, 101, 102, 103, 104, 105, 106, 107, 108, 109, 110, 111, 112, 113, 114, 115, 116, 117, 118, 119] (by decide +kernel) (by decide +kernel)
set_option maxRecDepth 20000 in
theorem gX12_stands_X12_may : GoodIn wsX12_stands (wsV RX12 271 RX12 yX12_may wsX12_may) := goodIn_app (goodIn_of _ (by decide +kernel)) ggX12_stands_X12_may
set_option maxRecDepth 20000 in
theorem ggX12_stands_X12_within : GoodIn wsX12_stands wsX12_within := goodIn_r _ [6] (by decide +kernel) (by decide +kernel)
set_option maxRecDepth 20000 in
theorem gX12_stands_X12_within : GoodIn wsX12_stands (va_wsS RX12 267 yX12_within wsX12_within) := goodIn_app (goodIn_of _ (by decide +kernel)) ggX12_stands_X12_within
set_option maxHeartbeats 4000000 in
set_option maxRecDepth 100000 in
theorem c_X12_stands (l : Launch) (D : va_G) (cT : Nat → ClassId) (h0 : Nat) (p0 : Int32) (fs : List Value) (m_th : Int32) (m_standsIn : Nat) (msi : Nat → Int32) (sz : Nat) (hsi : ∀ k, k < 8 → msi k = -1) (hfs : fs.length = 109) (hfs_0 : fs[0]? = some (.int m_th)) (hfs_98 : fs[98]? = some (.ref m_standsIn)) : Met l yX12_stands wsX12_stands ({ frames := 9, cells := 0, slots := 0, locals := 220 }) (va_Pc [.ref h0, .int p0] (PW D cT [(h0, .inr (12, fs)), (m_standsIn, .inl (cT 0, 8, .inl msi))] sz)) (va_Qi (fun (r : Int32) (_ : Unit) => th_stands p0 = 0 → r = -1) (fun (_ : Unit) (t : State) => ∃ (gs : List Value), ∃ (tt : Int32), (gs.length = 109) ∧ (gs[0]? = some (.int tt)) ∧ (tt = th_stands p0) ∧ va_P D vwCl [(h0, .inr (12, gs))] t.heap ∧ va_D (va_A [(h0, .inr (12, fs)), (m_standsIn, .inl (cT 0, 8, .inl msi))] sz) [(h0, .inr (12, gs))]) (va_A [(h0, .inr (12, fs)), (m_standsIn, .inl (cT 0, 8, .inl msi))] sz)) 0 0 (va_A [(h0, .inr (12, fs)), (m_standsIn, .inl (cT 0, 8, .inl msi))] sz) := by
  refine Met.ofW (cc := cX12_stands) (maxL := 2) (ret := (some .int)) (by decide) rfl ?_
  intro p e s m args below meth c s₁ B hml hv
  obtain ⟨rfl, hsz, hP, hK, hD0, hG⟩ := hv
  have hx := B.exec
  have hb := B.bytes
  have hr := B.returns
  have hts := atoms_spec (ws := wsX12_stands) B.pre
  have hown : s.vm.findClass RX12 = some m.cls := findClass_of_methodNamed B.named
  have hlocks := B.notSynchronized
  subst hsz
  have hD := hD0.self (sz := s.heap.size)
  generalize hAe : va_A [(h0, .inr (12, fs)), (m_standsIn, .inl (cT 0, 8, .inl msi))] s.heap.size = A at hD ⊢
  have hA : ∀ q : Nat, s.heap.size ≤ q → A q := fun q h => by rw [← hAe]; exact Or.inr h
  have hS : va_S A s.heap s.heap [] := va_S.rf
  have hP : va_P D vwCl [(h0, .inr (12, fs)), (m_standsIn, .inl (cT 0, 8, .inl msi))] s.heap := hP
  have hl := lv_entry ([.ref h0, .int p0]) (n := 2) (Nat.le_of_ble_eq_true rfl)
  rw [lg_entry_eq]
  generalize (lg_sl ([.ref h0, .int p0]) ++ List.replicate (2 - (lg_sl ([.ref h0, .int p0])).length) Slot.unset).toArray = ls at hl ⊢
  have hl : lv_has ls 2 [(0, .ref h0), (1, .int p0)] := hl
  refine lv_aload_n hx hb dX12_stands_0 rfl (lv_at hl 0 rfl) ?_
  refine lv_iconst (v := 0) hx hb dX12_stands_1 (by decide) ?_
  refine va_put (D := D) (ci := 12) (v := .int 0) (ty := .int) (C := RX12) (T := TX12) (N := 109) hx hb hts (fun _ h => List.mem_cons_of_mem _ (List.mem_append_right _ h)) tyX12 tyX12_ok nmX12 hown hK hP hD hS 0 rfl rfl 0 (by decide) (hts (.fieldLink RX12 1 "PuppetFilmModel" "thrown" "I") (List.mem_of_getElem? (i := 1) (by decide +kernel))) (fun _ h9 => h9) rfl (by decide +kernel) rfl rfl (by simp only [List.length_set, hfs]; decide) dX12_stands_2 (fun H locs hP hD hS => ?_)
  have hP : va_P D vwCl [(h0, .inr (12, (fs.set 0 (.int 0)))), (m_standsIn, .inl (cT 0, 8, .inl msi))] _ := hP
  have hD : va_D A [(h0, .inr (12, (fs.set 0 (.int 0)))), (m_standsIn, .inl (cT 0, 8, .inl msi))] := hD
  refine lv_aload_n hx hb dX12_stands_5 rfl (lv_at hl 0 rfl) ?_
  refine lv_iload_n hx hb dX12_stands_6 rfl (lv_at hl 1 rfl) ?_
  refine lv_iconst (v := 0) hx hb dX12_stands_7 (by decide) ?_
  refine lv_bipush (v := 7) hx hb dX12_stands_8 (by decide) ?_
  have hF := va_free (wc := []) hD hS hA [] rfl
  refine va_calli (va_runS (As := [.int p0, .int 0, .int 7]) (rest := [.ref h0]) ⟨hx, hb, hml, hown, hts⟩ (c_X12_within l D cT p0 0 7 _ ) (va_cwS 3 hts gX12_stands_X12_within rfl rfl rfl (by decide +kernel) ⟨Nat.le_of_ble_eq_true rfl, Nat.le_of_ble_eq_true rfl⟩) (ps_w hP hD hK hG [] rfl rfl rfl) rfl rfl hl.1 rfl (lv_room (Nat.le_of_ble_eq_true rfl)) dX12_stands_10 ⟨Nat.le_of_ble_eq_true rfl, Nat.le_of_ble_eq_true rfl⟩) hS (fun q _ h => hF q h) hF (fun r_1 uu9 tt9 H locs ht hvm wr_1 hB hz1 hk1 hS => ?_)
  obtain ⟨hP, hD⟩ := va_join (wr := [(h0, .inr (12, (fs.set 0 (.int 0)))), (m_standsIn, .inl (cT 0, 8, .inl msi))]) (w1 := []) hP hD [] [0, 1] rfl rfl (by decide) (by decide) hk1 hF vp_nil vd_nil
  have hP : va_P D vwCl [(h0, .inr (12, (fs.set 0 (.int 0)))), (m_standsIn, .inl (cT 0, 8, .inl msi))] _ := hP
  have hD : va_D A [(h0, .inr (12, (fs.set 0 (.int 0)))), (m_standsIn, .inl (cT 0, 8, .inl msi))] := hD
  refine lv_iconst (v := 1) hx hb dX12_stands_13 (by decide) ?_
  have g9 := wi_01 p0 0 7
  rw [← wr_1] at g9
  rcases g9 with rfl | rfl
  · have hF := va_free (wc := [(h0, .inr (12, (fs.set 0 (.int 0))))]) hD hS hA [0] rfl
    refine va_calli (va_runV (As := [.int 0, .int 1]) (rest := []) ⟨hx, hb, hml, hown, hts⟩ (c_X12_may_0_1 l D cT h0 (fs.set 0 (.int 0)) _ (by simp only [List.length_set]; exact hfs) (List.getElem?_set_self (by simp only [List.length_set, hfs]; decide))) (cwV 2 hts gX12_stands_X12_may rfl rfl rfl (by decide +kernel) ⟨Nat.le_of_ble_eq_true rfl, Nat.le_of_ble_eq_true rfl⟩) (pv_w hP hD hK hG [0] rfl rfl rfl 0 rfl rfl) rfl rfl hl.1 rfl (lv_room (Nat.le_of_ble_eq_true rfl)) dX12_stands_14 ⟨Nat.le_of_ble_eq_true rfl, Nat.le_of_ble_eq_true rfl⟩) hS (fun q _ h => hF q h) hF (fun r_2 uu9 tt9 H locs ht hvm wr_2 hB hz1 hk1 hS => ?_)
    obtain ⟨hP1, hD1⟩ := hB
    rw [ht] at hP1
    obtain ⟨hP, hD⟩ := va_join (wr := [(m_standsIn, .inl (cT 0, 8, .inl msi))]) (w1 := [(h0, .inr (12, ((fs.set 0 (.int 0)).set 0 (.int 1))))]) hP hD [0] [1] rfl rfl (by decide) (by decide) hk1 hF hP1 hD1
    have hP : va_P D vwCl [(m_standsIn, .inl (cT 0, 8, .inl msi)), (h0, .inr (12, ((fs.set 0 (.int 0)).set 0 (.int 1))))] _ := hP
    have hD : va_D A [(m_standsIn, .inl (cT 0, 8, .inl msi)), (h0, .inr (12, ((fs.set 0 (.int 0)).set 0 (.int 1))))] := hD
    obtain rfl : r_2 = 0 := wr_2.trans (rfl)
    refine lv_if_ne (tgt := 22) hx hb dX12_stands_17 (by decide) (fun c9 => absurd c9 (by decide)) (fun _ => ?_)
    refine lv_iconst (v := 0) hx hb dX12_stands_20 (by decide) ?_
    have hP9 := hP.sub (ws' := [(h0, .inr (12, ((fs.set 0 (.int 0)).set 0 (.int 1))))]) [1] rfl
    have hD9 := hD.sub (ws' := [(h0, .inr (12, ((fs.set 0 (.int 0)).set 0 (.int 1))))]) [1] (by decide) rfl
    exact W.iret (v := 0) hx hb hr (fun t ht hW => ⟨⟨0, (), rfl, by simp [th_stands, ← wr_1], ⟨((fs.set 0 (.int 0)).set 0 (.int 1)), 1, by simp only [List.length_set]; exact hfs, List.getElem?_set_self (by simp only [List.length_set, hfs]; decide), by simp [th_stands, ← wr_1], by rw [ht]; exact hP9, hD9⟩⟩, hS.F ht⟩) hS.2.2 dX12_stands_21
  · have hF := va_free (wc := [(h0, .inr (12, (fs.set 0 (.int 0))))]) hD hS hA [0] rfl
    refine va_calli (va_runV (As := [.int 1, .int 1]) (rest := []) ⟨hx, hb, hml, hown, hts⟩ (c_X12_may_1 l D cT h0 1 (fs.set 0 (.int 0)) _ (by simp only [List.length_set]; exact hfs) (List.getElem?_set_self (by simp only [List.length_set, hfs]; decide))) (cwV 2 hts gX12_stands_X12_may rfl rfl rfl (by decide +kernel) ⟨Nat.le_of_ble_eq_true rfl, Nat.le_of_ble_eq_true rfl⟩) (pv_w hP hD hK hG [0] rfl rfl rfl 0 rfl rfl) rfl rfl hl.1 rfl (lv_room (Nat.le_of_ble_eq_true rfl)) dX12_stands_14 ⟨Nat.le_of_ble_eq_true rfl, Nat.le_of_ble_eq_true rfl⟩) hS (fun q _ h => hF q h) hF (fun r_3 uu9 tt9 H locs ht hvm wr_3 hB hz1 hk1 hS => ?_)
    obtain ⟨hP1, hD1⟩ := hB
    rw [ht] at hP1
    obtain ⟨hP, hD⟩ := va_join (wr := [(m_standsIn, .inl (cT 0, 8, .inl msi))]) (w1 := [(h0, .inr (12, (fs.set 0 (.int 0))))]) hP hD [0] [1] rfl rfl (by decide) (by decide) hk1 hF hP1 hD1
    have hP : va_P D vwCl [(m_standsIn, .inl (cT 0, 8, .inl msi)), (h0, .inr (12, (fs.set 0 (.int 0))))] _ := hP
    have hD : va_D A [(m_standsIn, .inl (cT 0, 8, .inl msi)), (h0, .inr (12, (fs.set 0 (.int 0))))] := hD
    obtain rfl : r_3 = 1 := wr_3.trans (rfl)
    refine lv_if_ne (tgt := 22) hx hb dX12_stands_17 (by decide) (fun _ => ?_) (fun c9 => absurd c9 (by decide))
    refine lv_aload_n hx hb dX12_stands_22 rfl (lv_at hl 0 rfl) ?_
    refine va_get (D := D) (ci := 12) (v := .ref m_standsIn) (C := RX12) (T := TX12) (N := 109) hx hb hts (fun _ h => List.mem_cons_of_mem _ (List.mem_append_right _ h)) hown hK hP 1 rfl rfl 98 (by decide) (hts (.fieldLink RX12 234 "PuppetFilmModel" "standsIn" "[I") (List.mem_of_getElem? (i := 2) (by decide +kernel))) (fun _ h9 => h9) ((List.getElem?_set_ne (by decide)).trans (hfs_98)) dX12_stands_23 ?_
    refine lv_iload_n hx hb dX12_stands_26 rfl (lv_at hl 1 rfl) ?_
    refine va_iald hx hb hK hP 0 0 rfl rfl (wi_vin (hi := 7) (by decide) wr_1) dX12_stands_27 ?_
    refine lv_topi (fun x_4 ex_4 => ?_)
    obtain rfl : x_4 = (-1) := ex_4.trans (hsi _ (vin_n (wi_vin (hi := 7) (by decide) wr_1)))
    have hP9 := hP.sub (ws' := [(h0, .inr (12, (fs.set 0 (.int 0))))]) [1] rfl
    have hD9 := hD.sub (ws' := [(h0, .inr (12, (fs.set 0 (.int 0))))]) [1] (by decide) rfl
    exact W.iret (v := (-1)) hx hb hr (fun t ht hW => ⟨⟨(-1), (), rfl, by simp [th_stands, ← wr_1], ⟨(fs.set 0 (.int 0)), 0, by simp only [List.length_set]; exact hfs, List.getElem?_set_self (by simp only [List.length_set, hfs]; decide), by simp [th_stands, ← wr_1], by rw [ht]; exact hP9, hD9⟩⟩, hS.F ht⟩) hS.2.2 dX12_stands_28
theorem dX12_worked_0 : decode cX12_worked 0 = .ok (.aload_n 0, 1) := by decide +kernel
theorem dX12_worked_1 : decode cX12_worked 1 = .ok (.iconst 0, 1) := by decide +kernel
theorem dX12_worked_12 : decode cX12_worked 12 = .ok (.iconst 1, 1) := by decide +kernel
theorem dX12_worked_13 : decode cX12_worked 13 = .ok (.isub, 1) := by decide +kernel
theorem dX12_worked_14 : decode cX12_worked 14 = .ok (.invokestatic 267, 3) := by decide +kernel
theorem dX12_worked_17 : decode cX12_worked 17 = .ok (.iconst 1, 1) := by decide +kernel
theorem dX12_worked_18 : decode cX12_worked 18 = .ok (.invokevirtual 271, 3) := by decide +kernel
theorem dX12_worked_2 : decode cX12_worked 2 = .ok (.putfield 1, 3) := by decide +kernel
theorem dX12_worked_21 : decode cX12_worked 21 = .ok (.ifCond .ne 5, 3) := by decide +kernel
theorem dX12_worked_24 : decode cX12_worked 24 = .ok (.iconst 0, 1) := by decide +kernel
theorem dX12_worked_25 : decode cX12_worked 25 = .ok (.ireturn, 1) := by decide +kernel
theorem dX12_worked_5 : decode cX12_worked 5 = .ok (.aload_n 0, 1) := by decide +kernel
theorem dX12_worked_6 : decode cX12_worked 6 = .ok (.iload_n 1, 1) := by decide +kernel
theorem dX12_worked_7 : decode cX12_worked 7 = .ok (.iconst 0, 1) := by decide +kernel
theorem dX12_worked_8 : decode cX12_worked 8 = .ok (.aload_n 0, 1) := by decide +kernel
theorem dX12_worked_9 : decode cX12_worked 9 = .ok (.getfield 525, 3) := by decide +kernel
set_option maxRecDepth 20000 in
theorem ggX12_worked_X12_may : GoodIn wsX12_worked wsX12_may := goodIn_r _ [10, 1, 18, 19, 20, 21, 22, 23, 24, 25, 26, 27, 28, 29, 30, 31, 32, 33, 34, 35, 36, 37, 38, 39, 40, 41, 42, 43, 44, 45, 46, 47, 48, 49, 50, 51, 52, 53, 54, 55, 56, 57, 58, 59, 60, 61, 62, 63, 64, 65, 66, 67, 68, 69, 70, 71, 72, 73, 74, 75, 76, 77, 78, 79, 80, 81, 82, 83, 84, 85, 86, 87, 88, 89, 90, 91, 92, 93, 94, 95, 96, 97, 98, 99, 100, 101, 102, 103, 104, 105, 106, 107, 108, 109, 110, 111, 112, 113, 114, 115, 116, 117, 118, 119, 120, 121, 122, 123, 124, 125, 126] (by decide +kernel) (by decide +kernel)
set_option maxRecDepth 20000 in
theorem gX12_worked_X12_may : GoodIn wsX12_worked (wsV RX12 271 RX12 yX12_may wsX12_may) := goodIn_app (goodIn_of _ (by decide +kernel)) ggX12_worked_X12_may
set_option maxRecDepth 20000 in
theorem ggX12_worked_X12_within : GoodIn wsX12_worked wsX12_within := goodIn_r _ [6] (by decide +kernel) (by decide +kernel)
set_option maxRecDepth 20000 in
theorem gX12_worked_X12_within : GoodIn wsX12_worked (va_wsS RX12 267 yX12_within wsX12_within) := goodIn_app (goodIn_of _ (by decide +kernel)) ggX12_worked_X12_within
set_option maxHeartbeats 4000000 in
set_option maxRecDepth 100000 in
theorem c_X12_worked (l : Launch) (D : va_G) (cT : Nat → ClassId) (h0 : Nat) (p0 : Int32) (fs : List Value) (m_th : Int32) (sz : Nat) (hfs : fs.length = 109) (hfs_0 : fs[0]? = some (.int m_th)) (hfs_88 : fs[88]? = some (.int 0)) : Met l yX12_worked wsX12_worked ({ frames := 9, cells := 0, slots := 0, locals := 220 }) (va_Pc [.ref h0, .int p0] (PW D cT [(h0, .inr (12, fs))] sz)) (va_Qi (fun (r : Int32) (_ : Unit) => True) (fun (_ : Unit) (t : State) => ∃ (gs : List Value), (gs.length = 109) ∧ (gs[0]? = some (.int 1)) ∧ va_P D vwCl [(h0, .inr (12, gs))] t.heap ∧ va_D (va_A [(h0, .inr (12, fs))] sz) [(h0, .inr (12, gs))]) (va_A [(h0, .inr (12, fs))] sz)) 0 0 (va_A [(h0, .inr (12, fs))] sz) := by
  refine Met.ofW (cc := cX12_worked) (maxL := 2) (ret := (some .int)) (by decide) rfl ?_
  intro p e s m args below meth c s₁ B hml hv
  obtain ⟨rfl, hsz, hP, hK, hD0, hG⟩ := hv
  have hx := B.exec
  have hb := B.bytes
  have hr := B.returns
  have hts := atoms_spec (ws := wsX12_worked) B.pre
  have hown : s.vm.findClass RX12 = some m.cls := findClass_of_methodNamed B.named
  have hlocks := B.notSynchronized
  subst hsz
  have hD := hD0.self (sz := s.heap.size)
  generalize hAe : va_A [(h0, .inr (12, fs))] s.heap.size = A at hD ⊢
  have hA : ∀ q : Nat, s.heap.size ≤ q → A q := fun q h => by rw [← hAe]; exact Or.inr h
  have hS : va_S A s.heap s.heap [] := va_S.rf
  have hP : va_P D vwCl [(h0, .inr (12, fs))] s.heap := hP
  have hl := lv_entry ([.ref h0, .int p0]) (n := 2) (Nat.le_of_ble_eq_true rfl)
  rw [lg_entry_eq]
  generalize (lg_sl ([.ref h0, .int p0]) ++ List.replicate (2 - (lg_sl ([.ref h0, .int p0])).length) Slot.unset).toArray = ls at hl ⊢
  have hl : lv_has ls 2 [(0, .ref h0), (1, .int p0)] := hl
  refine lv_aload_n hx hb dX12_worked_0 rfl (lv_at hl 0 rfl) ?_
  refine lv_iconst (v := 0) hx hb dX12_worked_1 (by decide) ?_
  refine va_put (D := D) (ci := 12) (v := .int 0) (ty := .int) (C := RX12) (T := TX12) (N := 109) hx hb hts (fun _ h => List.mem_cons_of_mem _ (List.mem_append_right _ h)) tyX12 tyX12_ok nmX12 hown hK hP hD hS 0 rfl rfl 0 (by decide) (hts (.fieldLink RX12 1 "PuppetFilmModel" "thrown" "I") (List.mem_of_getElem? (i := 1) (by decide +kernel))) (fun _ h9 => h9) rfl (by decide +kernel) rfl rfl (by simp only [List.length_set, hfs]; decide) dX12_worked_2 (fun H locs hP hD hS => ?_)
  have hP : va_P D vwCl [(h0, .inr (12, (fs.set 0 (.int 0))))] _ := hP
  have hD : va_D A [(h0, .inr (12, (fs.set 0 (.int 0))))] := hD
  refine lv_aload_n hx hb dX12_worked_5 rfl (lv_at hl 0 rfl) ?_
  refine lv_iload_n hx hb dX12_worked_6 rfl (lv_at hl 1 rfl) ?_
  refine lv_iconst (v := 0) hx hb dX12_worked_7 (by decide) ?_
  refine lv_aload_n hx hb dX12_worked_8 rfl (lv_at hl 0 rfl) ?_
  refine va_get (D := D) (ci := 12) (v := .int 0) (C := RX12) (T := TX12) (N := 109) hx hb hts (fun _ h => List.mem_cons_of_mem _ (List.mem_append_right _ h)) hown hK hP 0 rfl rfl 88 (by decide) (hts (.fieldLink RX12 525 "PuppetFilmModel" "animators" "I") (List.mem_of_getElem? (i := 2) (by decide +kernel))) (fun _ h9 => h9) ((List.getElem?_set_ne (by decide)).trans (hfs_88)) dX12_worked_9 ?_
  refine lv_iconst (v := 1) hx hb dX12_worked_12 (by decide) ?_
  refine lv_isub hx hb dX12_worked_13 ?_
  refine lv_topi (fun z_1 ez_1 => ?_)
  obtain rfl : z_1 = (-1) := ez_1.trans (by decide)
  have hF := va_free (wc := []) hD hS hA [] rfl
  refine va_calli (va_runS (As := [.int p0, .int 0, .int (-1)]) (rest := [.ref h0]) ⟨hx, hb, hml, hown, hts⟩ (c_X12_within l D cT p0 0 (-1) _ ) (va_cwS 3 hts gX12_worked_X12_within rfl rfl rfl (by decide +kernel) ⟨Nat.le_of_ble_eq_true rfl, Nat.le_of_ble_eq_true rfl⟩) (ps_w hP hD hK hG [] rfl rfl rfl) rfl rfl hl.1 rfl (lv_room (Nat.le_of_ble_eq_true rfl)) dX12_worked_14 ⟨Nat.le_of_ble_eq_true rfl, Nat.le_of_ble_eq_true rfl⟩) hS (fun q _ h => hF q h) hF (fun r_2 uu9 tt9 H locs ht hvm wr_2 hB hz1 hk1 hS => ?_)
  obtain ⟨hP, hD⟩ := va_join (wr := [(h0, .inr (12, (fs.set 0 (.int 0))))]) (w1 := []) hP hD [] [0] rfl rfl (by decide) (by decide) hk1 hF vp_nil vd_nil
  have hP : va_P D vwCl [(h0, .inr (12, (fs.set 0 (.int 0))))] _ := hP
  have hD : va_D A [(h0, .inr (12, (fs.set 0 (.int 0))))] := hD
  obtain rfl : r_2 = 0 := wr_2.trans (wi_no (by decide))
  refine lv_iconst (v := 1) hx hb dX12_worked_17 (by decide) ?_
  have hF := va_free (wc := [(h0, .inr (12, (fs.set 0 (.int 0))))]) hD hS hA [0] rfl
  refine va_calli (va_runV (As := [.int 0, .int 1]) (rest := []) ⟨hx, hb, hml, hown, hts⟩ (c_X12_may_0_1 l D cT h0 (fs.set 0 (.int 0)) _ (by simp only [List.length_set]; exact hfs) (List.getElem?_set_self (by simp only [List.length_set, hfs]; decide))) (cwV 2 hts gX12_worked_X12_may rfl rfl rfl (by decide +kernel) ⟨Nat.le_of_ble_eq_true rfl, Nat.le_of_ble_eq_true rfl⟩) (pv_w hP hD hK hG [0] rfl rfl rfl 0 rfl rfl) rfl rfl hl.1 rfl (lv_room (Nat.le_of_ble_eq_true rfl)) dX12_worked_18 ⟨Nat.le_of_ble_eq_true rfl, Nat.le_of_ble_eq_true rfl⟩) hS (fun q _ h => hF q h) hF (fun r_3 uu9 tt9 H locs ht hvm wr_3 hB hz1 hk1 hS => ?_)
  obtain ⟨hP1, hD1⟩ := hB
  rw [ht] at hP1
  obtain ⟨hP, hD⟩ := va_join (wr := []) (w1 := [(h0, .inr (12, ((fs.set 0 (.int 0)).set 0 (.int 1))))]) hP hD [0] [] rfl rfl (by decide) (by decide) hk1 hF hP1 hD1
  have hP : va_P D vwCl [(h0, .inr (12, ((fs.set 0 (.int 0)).set 0 (.int 1))))] _ := hP
  have hD : va_D A [(h0, .inr (12, ((fs.set 0 (.int 0)).set 0 (.int 1))))] := hD
  obtain rfl : r_3 = 0 := wr_3.trans (rfl)
  refine lv_if_ne (tgt := 26) hx hb dX12_worked_21 (by decide) (fun c9 => absurd c9 (by decide)) (fun _ => ?_)
  refine lv_iconst (v := 0) hx hb dX12_worked_24 (by decide) ?_
  have hP9 := hP.sub (ws' := [(h0, .inr (12, ((fs.set 0 (.int 0)).set 0 (.int 1))))]) [0] rfl
  have hD9 := hD.sub (ws' := [(h0, .inr (12, ((fs.set 0 (.int 0)).set 0 (.int 1))))]) [0] (by decide) rfl
  exact W.iret (v := 0) hx hb hr (fun t ht hW => ⟨⟨0, (), rfl, trivial, ⟨((fs.set 0 (.int 0)).set 0 (.int 1)), by simp only [List.length_set]; exact hfs, List.getElem?_set_self (by simp only [List.length_set, hfs]; decide), by rw [ht]; exact hP9, hD9⟩⟩, hS.F ht⟩) hS.2.2 dX12_worked_25
theorem dX12_best_0 : decode cX12_best 0 = .ok (.aload_n 0, 1) := by decide +kernel
theorem dX12_best_1 : decode cX12_best 1 = .ok (.iconst 0, 1) := by decide +kernel
theorem dX12_best_11 : decode cX12_best 11 = .ok (.iload 5, 2) := by decide +kernel
theorem dX12_best_13 : decode cX12_best 13 = .ok (.aload_n 0, 1) := by decide +kernel
theorem dX12_best_14 : decode cX12_best 14 = .ok (.getfield 398, 3) := by decide +kernel
theorem dX12_best_17 : decode cX12_best 17 = .ok (.if_icmp .ge 20, 3) := by decide +kernel
theorem dX12_best_2 : decode cX12_best 2 = .ok (.putfield 1, 3) := by decide +kernel
theorem dX12_best_37 : decode cX12_best 37 = .ok (.aload_n 0, 1) := by decide +kernel
theorem dX12_best_38 : decode cX12_best 38 = .ok (.iload_n 1, 1) := by decide +kernel
theorem dX12_best_39 : decode cX12_best 39 = .ok (.ifCond .le 35, 3) := by decide +kernel
theorem dX12_best_42 : decode cX12_best 42 = .ok (.iload_n 1, 1) := by decide +kernel
theorem dX12_best_43 : decode cX12_best 43 = .ok (.aload_n 0, 1) := by decide +kernel
theorem dX12_best_44 : decode cX12_best 44 = .ok (.getfield 398, 3) := by decide +kernel
theorem dX12_best_47 : decode cX12_best 47 = .ok (.ishr, 1) := by decide +kernel
theorem dX12_best_48 : decode cX12_best 48 = .ok (.ifCond .ne 26, 3) := by decide +kernel
theorem dX12_best_5 : decode cX12_best 5 = .ok (.iconst 0, 1) := by decide +kernel
theorem dX12_best_6 : decode cX12_best 6 = .ok (.istore 4, 2) := by decide +kernel
theorem dX12_best_74 : decode cX12_best 74 = .ok (.iconst 0, 1) := by decide +kernel
theorem dX12_best_75 : decode cX12_best 75 = .ok (.iconst 1, 1) := by decide +kernel
theorem dX12_best_76 : decode cX12_best 76 = .ok (.invokevirtual 271, 3) := by decide +kernel
theorem dX12_best_79 : decode cX12_best 79 = .ok (.ifCond .ne 5, 3) := by decide +kernel
theorem dX12_best_8 : decode cX12_best 8 = .ok (.iconst 0, 1) := by decide +kernel
theorem dX12_best_82 : decode cX12_best 82 = .ok (.iconst 0, 1) := by decide +kernel
theorem dX12_best_83 : decode cX12_best 83 = .ok (.ireturn, 1) := by decide +kernel
theorem dX12_best_9 : decode cX12_best 9 = .ok (.istore 5, 2) := by decide +kernel
set_option maxRecDepth 20000 in
theorem ggX12_best_X12_may : GoodIn wsX12_best wsX12_may := goodIn_r _ [18, 1, 53, 54, 55, 56, 57, 58, 59, 60, 61, 62, 63, 64, 65, 66, 67, 68, 69, 70, 71, 72, 73, 74, 75, 76, 77, 78, 79, 80, 81, 82, 83, 84, 85, 86, 87, 88, 89, 90, 91, 92, 93, 94, 95, 96, 97, 98, 99, 100, 101, 102, 103, 104, 105, 106, 107, 108, 109, 110, 111, 112, 113, 114, 115, 116, 117, 118, 119, 120, 121, 122, 123, 124, 125, 126, 127, 128, 129, 130, 131, 132, 133, 134, 135, 136, 137, 138, 139, 140, 141, 142, 143, 144, 145, 146, 147, 148, 149, 150, 151, 152, 153, 154, 155, 156, 157, 158, 159, 160, 161] (by decide +kernel) (by decide +kernel)
set_option maxRecDepth 20000 in
theorem gX12_best_X12_may : GoodIn wsX12_best (wsV RX12 271 RX12 yX12_may wsX12_may) := goodIn_app (goodIn_of _ (by decide +kernel)) ggX12_best_X12_may
set_option maxHeartbeats 4000000 in
set_option maxRecDepth 100000 in
theorem c_X12_best (l : Launch) (D : va_G) (cT : Nat → ClassId) (h0 : Nat) (p0 : Int32) (p1 : Int32) (p2 : Int32) (fs : List Value) (m_th : Int32) (sz : Nat) (hfs : fs.length = 109) (hfs_0 : fs[0]? = some (.int m_th)) (hfs_38 : fs[38]? = some (.int 0)) : Met l yX12_best wsX12_best ({ frames := 9, cells := 0, slots := 0, locals := 220 }) (va_Pc [.ref h0, .int p0, .int p1, .int p2] (PW D cT [(h0, .inr (12, fs))] sz)) (va_Qi (fun (r : Int32) (_ : Unit) => True) (fun (_ : Unit) (t : State) => ∃ (gs : List Value), (gs.length = 109) ∧ (gs[0]? = some (.int 1)) ∧ va_P D vwCl [(h0, .inr (12, gs))] t.heap ∧ va_D (va_A [(h0, .inr (12, fs))] sz) [(h0, .inr (12, gs))]) (va_A [(h0, .inr (12, fs))] sz)) 0 0 (va_A [(h0, .inr (12, fs))] sz) := by
  refine Met.ofW (cc := cX12_best) (maxL := 6) (ret := (some .int)) (by decide) rfl ?_
  intro p e s m args below meth c s₁ B hml hv
  obtain ⟨rfl, hsz, hP, hK, hD0, hG⟩ := hv
  have hx := B.exec
  have hb := B.bytes
  have hr := B.returns
  have hts := atoms_spec (ws := wsX12_best) B.pre
  have hown : s.vm.findClass RX12 = some m.cls := findClass_of_methodNamed B.named
  have hlocks := B.notSynchronized
  subst hsz
  have hD := hD0.self (sz := s.heap.size)
  generalize hAe : va_A [(h0, .inr (12, fs))] s.heap.size = A at hD ⊢
  have hA : ∀ q : Nat, s.heap.size ≤ q → A q := fun q h => by rw [← hAe]; exact Or.inr h
  have hS : va_S A s.heap s.heap [] := va_S.rf
  have hP : va_P D vwCl [(h0, .inr (12, fs))] s.heap := hP
  have hl := lv_entry ([.ref h0, .int p0, .int p1, .int p2]) (n := 6) (Nat.le_of_ble_eq_true rfl)
  rw [lg_entry_eq]
  generalize (lg_sl ([.ref h0, .int p0, .int p1, .int p2]) ++ List.replicate (6 - (lg_sl ([.ref h0, .int p0, .int p1, .int p2])).length) Slot.unset).toArray = ls at hl ⊢
  have hl : lv_has ls 6 [(0, .ref h0), (1, .int p0), (2, .int p1), (3, .int p2)] := hl
  refine lv_aload_n hx hb dX12_best_0 rfl (lv_at hl 0 rfl) ?_
  refine lv_iconst (v := 0) hx hb dX12_best_1 (by decide) ?_
  refine va_put (D := D) (ci := 12) (v := .int 0) (ty := .int) (C := RX12) (T := TX12) (N := 109) hx hb hts (fun _ h => List.mem_cons_of_mem _ (List.mem_append_right _ h)) tyX12 tyX12_ok nmX12 hown hK hP hD hS 0 rfl rfl 0 (by decide) (hts (.fieldLink RX12 1 "PuppetFilmModel" "thrown" "I") (List.mem_of_getElem? (i := 1) (by decide +kernel))) (fun _ h9 => h9) rfl (by decide +kernel) rfl rfl (by simp only [List.length_set, hfs]; decide) dX12_best_2 (fun H locs hP hD hS => ?_)
  have hP : va_P D vwCl [(h0, .inr (12, (fs.set 0 (.int 0))))] _ := hP
  have hD : va_D A [(h0, .inr (12, (fs.set 0 (.int 0))))] := hD
  refine lv_iconst (v := 0) hx hb dX12_best_5 (by decide) ?_
  refine lv_istore (lv' := [(4, .int 0), (0, .ref h0), (1, .int p0), (2, .int p1), (3, .int p2)]) hx hb dX12_best_6 hl (by decide) rfl (fun ls hl => ?_)
  refine lv_iconst (v := 0) hx hb dX12_best_8 (by decide) ?_
  refine lv_istore (lv' := [(5, .int 0), (4, .int 0), (0, .ref h0), (1, .int p0), (2, .int p1), (3, .int p2)]) hx hb dX12_best_9 hl (by decide) rfl (fun ls hl => ?_)
  refine lv_iload hx hb dX12_best_11 (lv_at hl 0 rfl) ?_
  refine lv_aload_n hx hb dX12_best_13 rfl (lv_at hl 2 rfl) ?_
  refine va_get (D := D) (ci := 12) (v := .int 0) (C := RX12) (T := TX12) (N := 109) hx hb hts (fun _ h => List.mem_cons_of_mem _ (List.mem_append_right _ h)) hown hK hP 0 rfl rfl 38 (by decide) (hts (.fieldLink RX12 398 "PuppetFilmModel" "shots" "I") (List.mem_of_getElem? (i := 2) (by decide +kernel))) (fun _ h9 => h9) ((List.getElem?_set_ne (by decide)).trans (hfs_38)) dX12_best_14 ?_
  refine lv_icmp_ge (tgt := 37) hx hb dX12_best_17 (by decide) (fun _ => ?_) (fun c9 => absurd c9 (by decide))
  refine lv_aload_n hx hb dX12_best_37 rfl (lv_at hl 2 rfl) ?_
  refine lv_iload_n hx hb dX12_best_38 rfl (lv_at hl 3 rfl) ?_
  refine lv_if_le (tgt := 74) hx hb dX12_best_39 (by decide) (fun c_1 => ?_) (fun c_1 => ?_)
  · refine lv_iconst (v := 0) hx hb dX12_best_74 (by decide) ?_
    refine lv_iconst (v := 1) hx hb dX12_best_75 (by decide) ?_
    have hF := va_free (wc := [(h0, .inr (12, (fs.set 0 (.int 0))))]) hD hS hA [0] rfl
    refine va_calli (va_runV (As := [.int 0, .int 1]) (rest := []) ⟨hx, hb, hml, hown, hts⟩ (c_X12_may_0_1 l D cT h0 (fs.set 0 (.int 0)) _ (by simp only [List.length_set]; exact hfs) (List.getElem?_set_self (by simp only [List.length_set, hfs]; decide))) (cwV 2 hts gX12_best_X12_may rfl rfl rfl (by decide +kernel) ⟨Nat.le_of_ble_eq_true rfl, Nat.le_of_ble_eq_true rfl⟩) (pv_w hP hD hK hG [0] rfl rfl rfl 0 rfl rfl) rfl rfl hl.1 rfl (lv_room (Nat.le_of_ble_eq_true rfl)) dX12_best_76 ⟨Nat.le_of_ble_eq_true rfl, Nat.le_of_ble_eq_true rfl⟩) hS (fun q _ h => hF q h) hF (fun r_2 uu9 tt9 H locs ht hvm wr_2 hB hz1 hk1 hS => ?_)
    obtain ⟨hP1, hD1⟩ := hB
    rw [ht] at hP1
    obtain ⟨hP, hD⟩ := va_join (wr := []) (w1 := [(h0, .inr (12, ((fs.set 0 (.int 0)).set 0 (.int 1))))]) hP hD [0] [] rfl rfl (by decide) (by decide) hk1 hF hP1 hD1
    have hP : va_P D vwCl [(h0, .inr (12, ((fs.set 0 (.int 0)).set 0 (.int 1))))] _ := hP
    have hD : va_D A [(h0, .inr (12, ((fs.set 0 (.int 0)).set 0 (.int 1))))] := hD
    obtain rfl : r_2 = 0 := wr_2.trans (rfl)
    refine lv_if_ne (tgt := 84) hx hb dX12_best_79 (by decide) (fun c9 => absurd c9 (by decide)) (fun _ => ?_)
    refine lv_iconst (v := 0) hx hb dX12_best_82 (by decide) ?_
    have hP9 := hP.sub (ws' := [(h0, .inr (12, ((fs.set 0 (.int 0)).set 0 (.int 1))))]) [0] rfl
    have hD9 := hD.sub (ws' := [(h0, .inr (12, ((fs.set 0 (.int 0)).set 0 (.int 1))))]) [0] (by decide) rfl
    exact W.iret (v := 0) hx hb hr (fun t ht hW => ⟨⟨0, (), rfl, trivial, ⟨((fs.set 0 (.int 0)).set 0 (.int 1)), by simp only [List.length_set]; exact hfs, List.getElem?_set_self (by simp only [List.length_set, hfs]; decide), by rw [ht]; exact hP9, hD9⟩⟩, hS.F ht⟩) hS.2.2 dX12_best_83
  · refine lv_iload_n hx hb dX12_best_42 rfl (lv_at hl 3 rfl) ?_
    refine lv_aload_n hx hb dX12_best_43 rfl (lv_at hl 2 rfl) ?_
    refine va_get (D := D) (ci := 12) (v := .int 0) (C := RX12) (T := TX12) (N := 109) hx hb hts (fun _ h => List.mem_cons_of_mem _ (List.mem_append_right _ h)) hown hK hP 0 rfl rfl 38 (by decide) (hts (.fieldLink RX12 398 "PuppetFilmModel" "shots" "I") (List.mem_of_getElem? (i := 2) (by decide +kernel))) (fun _ h9 => h9) ((List.getElem?_set_ne (by decide)).trans (hfs_38)) dX12_best_44 ?_
    refine lv_ishr hx hb dX12_best_47 ?_
    refine lv_topi (fun x_3 ex_3 => ?_)
    refine lv_if_ne (tgt := 74) hx hb dX12_best_48 (by decide) (fun c_4 => ?_) (fun c_4 => ((bst c_1 ex_3 c_4 : False)).elim)
    refine lv_iconst (v := 0) hx hb dX12_best_74 (by decide) ?_
    refine lv_iconst (v := 1) hx hb dX12_best_75 (by decide) ?_
    have hF := va_free (wc := [(h0, .inr (12, (fs.set 0 (.int 0))))]) hD hS hA [0] rfl
    refine va_calli (va_runV (As := [.int 0, .int 1]) (rest := []) ⟨hx, hb, hml, hown, hts⟩ (c_X12_may_0_1 l D cT h0 (fs.set 0 (.int 0)) _ (by simp only [List.length_set]; exact hfs) (List.getElem?_set_self (by simp only [List.length_set, hfs]; decide))) (cwV 2 hts gX12_best_X12_may rfl rfl rfl (by decide +kernel) ⟨Nat.le_of_ble_eq_true rfl, Nat.le_of_ble_eq_true rfl⟩) (pv_w hP hD hK hG [0] rfl rfl rfl 0 rfl rfl) rfl rfl hl.1 rfl (lv_room (Nat.le_of_ble_eq_true rfl)) dX12_best_76 ⟨Nat.le_of_ble_eq_true rfl, Nat.le_of_ble_eq_true rfl⟩) hS (fun q _ h => hF q h) hF (fun r_5 uu9 tt9 H locs ht hvm wr_5 hB hz1 hk1 hS => ?_)
    obtain ⟨hP1, hD1⟩ := hB
    rw [ht] at hP1
    obtain ⟨hP, hD⟩ := va_join (wr := []) (w1 := [(h0, .inr (12, ((fs.set 0 (.int 0)).set 0 (.int 1))))]) hP hD [0] [] rfl rfl (by decide) (by decide) hk1 hF hP1 hD1
    have hP : va_P D vwCl [(h0, .inr (12, ((fs.set 0 (.int 0)).set 0 (.int 1))))] _ := hP
    have hD : va_D A [(h0, .inr (12, ((fs.set 0 (.int 0)).set 0 (.int 1))))] := hD
    obtain rfl : r_5 = 0 := wr_5.trans (rfl)
    refine lv_if_ne (tgt := 84) hx hb dX12_best_79 (by decide) (fun c9 => absurd c9 (by decide)) (fun _ => ?_)
    refine lv_iconst (v := 0) hx hb dX12_best_82 (by decide) ?_
    have hP9 := hP.sub (ws' := [(h0, .inr (12, ((fs.set 0 (.int 0)).set 0 (.int 1))))]) [0] rfl
    have hD9 := hD.sub (ws' := [(h0, .inr (12, ((fs.set 0 (.int 0)).set 0 (.int 1))))]) [0] (by decide) rfl
    exact W.iret (v := 0) hx hb hr (fun t ht hW => ⟨⟨0, (), rfl, trivial, ⟨((fs.set 0 (.int 0)).set 0 (.int 1)), by simp only [List.length_set]; exact hfs, List.getElem?_set_self (by simp only [List.length_set, hfs]; decide), by rw [ht]; exact hP9, hD9⟩⟩, hS.F ht⟩) hS.2.2 dX12_best_83
theorem dX12_on_0 : decode cX12_on 0 = .ok (.aload_n 0, 1) := by decide +kernel
theorem dX12_on_1 : decode cX12_on 1 = .ok (.iconst 0, 1) := by decide +kernel
theorem dX12_on_100 : decode cX12_on 100 = .ok (.getfield 219, 3) := by decide +kernel
theorem dX12_on_103 : decode cX12_on 103 = .ok (.iload_n 1, 1) := by decide +kernel
theorem dX12_on_104 : decode cX12_on 104 = .ok (.iaload, 1) := by decide +kernel
theorem dX12_on_105 : decode cX12_on 105 = .ok (.ifCond .ne 7, 3) := by decide +kernel
theorem dX12_on_108 : decode cX12_on 108 = .ok (.iconst (-1), 1) := by decide +kernel
theorem dX12_on_109 : decode cX12_on 109 = .ok (.goto 12, 3) := by decide +kernel
theorem dX12_on_12 : decode cX12_on 12 = .ok (.iconst 1, 1) := by decide +kernel
theorem dX12_on_121 : decode cX12_on 121 = .ok (.ireturn, 1) := by decide +kernel
theorem dX12_on_13 : decode cX12_on 13 = .ok (.invokevirtual 271, 3) := by decide +kernel
theorem dX12_on_16 : decode cX12_on 16 = .ok (.ifCond .eq 17, 3) := by decide +kernel
theorem dX12_on_19 : decode cX12_on 19 = .ok (.aload_n 0, 1) := by decide +kernel
theorem dX12_on_2 : decode cX12_on 2 = .ok (.putfield 1, 3) := by decide +kernel
theorem dX12_on_20 : decode cX12_on 20 = .ok (.iload_n 2, 1) := by decide +kernel
theorem dX12_on_21 : decode cX12_on 21 = .ok (.iconst 0, 1) := by decide +kernel
theorem dX12_on_22 : decode cX12_on 22 = .ok (.iconst 3, 1) := by decide +kernel
theorem dX12_on_23 : decode cX12_on 23 = .ok (.invokestatic 267, 3) := by decide +kernel
theorem dX12_on_26 : decode cX12_on 26 = .ok (.iconst 2, 1) := by decide +kernel
theorem dX12_on_27 : decode cX12_on 27 = .ok (.invokevirtual 271, 3) := by decide +kernel
theorem dX12_on_30 : decode cX12_on 30 = .ok (.ifCond .ne 5, 3) := by decide +kernel
theorem dX12_on_33 : decode cX12_on 33 = .ok (.iconst 0, 1) := by decide +kernel
theorem dX12_on_34 : decode cX12_on 34 = .ok (.ireturn, 1) := by decide +kernel
theorem dX12_on_35 : decode cX12_on 35 = .ok (.iload_n 2, 1) := by decide +kernel
theorem dX12_on_36 : decode cX12_on 36 = .ok (.tableswitch 63 0 2 #[28, 35, 56], 28) := by decide +kernel
theorem dX12_on_5 : decode cX12_on 5 = .ok (.aload_n 0, 1) := by decide +kernel
theorem dX12_on_6 : decode cX12_on 6 = .ok (.iload_n 1, 1) := by decide +kernel
theorem dX12_on_64 : decode cX12_on 64 = .ok (.aload_n 0, 1) := by decide +kernel
theorem dX12_on_65 : decode cX12_on 65 = .ok (.getfield 225, 3) := by decide +kernel
theorem dX12_on_68 : decode cX12_on 68 = .ok (.iload_n 1, 1) := by decide +kernel
theorem dX12_on_69 : decode cX12_on 69 = .ok (.iaload, 1) := by decide +kernel
theorem dX12_on_7 : decode cX12_on 7 = .ok (.iconst 0, 1) := by decide +kernel
theorem dX12_on_70 : decode cX12_on 70 = .ok (.ireturn, 1) := by decide +kernel
theorem dX12_on_71 : decode cX12_on 71 = .ok (.aload_n 0, 1) := by decide +kernel
theorem dX12_on_72 : decode cX12_on 72 = .ok (.getfield 228, 3) := by decide +kernel
theorem dX12_on_75 : decode cX12_on 75 = .ok (.iload_n 1, 1) := by decide +kernel
theorem dX12_on_76 : decode cX12_on 76 = .ok (.iaload, 1) := by decide +kernel
theorem dX12_on_77 : decode cX12_on 77 = .ok (.iconst (-1), 1) := by decide +kernel
theorem dX12_on_78 : decode cX12_on 78 = .ok (.if_icmp .ne 7, 3) := by decide +kernel
theorem dX12_on_8 : decode cX12_on 8 = .ok (.iconst 2, 1) := by decide +kernel
theorem dX12_on_81 : decode cX12_on 81 = .ok (.iconst (-1), 1) := by decide +kernel
theorem dX12_on_82 : decode cX12_on 82 = .ok (.goto 9, 3) := by decide +kernel
theorem dX12_on_9 : decode cX12_on 9 = .ok (.invokestatic 267, 3) := by decide +kernel
theorem dX12_on_91 : decode cX12_on 91 = .ok (.ireturn, 1) := by decide +kernel
theorem dX12_on_92 : decode cX12_on 92 = .ok (.aload_n 0, 1) := by decide +kernel
theorem dX12_on_93 : decode cX12_on 93 = .ok (.getfield 219, 3) := by decide +kernel
theorem dX12_on_96 : decode cX12_on 96 = .ok (.iload_n 1, 1) := by decide +kernel
theorem dX12_on_97 : decode cX12_on 97 = .ok (.iaload, 1) := by decide +kernel
theorem dX12_on_98 : decode cX12_on 98 = .ok (.ireturn, 1) := by decide +kernel
theorem dX12_on_99 : decode cX12_on 99 = .ok (.aload_n 0, 1) := by decide +kernel
set_option maxRecDepth 20000 in
theorem ggX12_on_X12_may : GoodIn wsX12_on wsX12_may := goodIn_r _ [14, 1, 15, 16, 17, 18, 19, 20, 21, 22, 23, 24, 25, 26, 27, 28, 29, 30, 31, 32, 33, 34, 35, 36, 37, 38, 39, 40, 41, 42, 43, 44, 45, 46, 47, 48, 49, 50, 51, 52, 53, 54, 55, 56, 57, 58, 59, 60, 61, 62, 63, 64, 65, 66, 67, 68, 69, 70, 71, 72, 73, 74, 75, 76, 77, 78, 79, 80, 81, 82, 83, 84, 85, 86, 87, 88, 89, 90, 91, 92, 93, 94, 95, 96, 97, 98, 99, 100, 101, 102, 103, 104, 105, 106, 107, 108, 109, 110, 111, 112, 113, 114, 115, 116, 117, 118, 119, 120, 121, 122, 123] (by decide +kernel) (by decide +kernel)
set_option maxRecDepth 20000 in
theorem gX12_on_X12_may : GoodIn wsX12_on (wsV RX12 271 RX12 yX12_may wsX12_may) := goodIn_app (goodIn_of _ (by decide +kernel)) ggX12_on_X12_may
set_option maxRecDepth 20000 in
theorem ggX12_on_X12_within : GoodIn wsX12_on wsX12_within := goodIn_r _ [10] (by decide +kernel) (by decide +kernel)
set_option maxRecDepth 20000 in
theorem gX12_on_X12_within : GoodIn wsX12_on (va_wsS RX12 267 yX12_within wsX12_within) := goodIn_app (goodIn_of _ (by decide +kernel)) ggX12_on_X12_within
set_option maxHeartbeats 4000000 in
set_option maxRecDepth 100000 in
theorem c_X12_on (l : Launch) (D : va_G) (cT : Nat → ClassId) (h0 : Nat) (p0 : Int32) (p1 : Int32) (fs : List Value) (m_th : Int32) (m_queued : Nat) (m_onNow : Nat) (m_dressing : Nat) (mon : Nat → Int32) (mdi : Nat → Int32) (sz : Nat) (hmon : ∀ k, k < 3 → mon k = -1) (hmdi : ∀ k, k < 3 → mdi k = -1) (hfs : fs.length = 109) (hfs_0 : fs[0]? = some (.int m_th)) (hfs_93 : fs[93]? = some (.ref m_queued)) (hfs_95 : fs[95]? = some (.ref m_onNow)) (hfs_96 : fs[96]? = some (.ref m_dressing)) : Met l yX12_on wsX12_on ({ frames := 9, cells := 0, slots := 0, locals := 220 }) (va_Pc [.ref h0, .int p0, .int p1] (PW D cT [(h0, .inr (12, fs)), (m_onNow, .inl (cT 0, 3, .inl mon)), (m_dressing, .inl (cT 0, 3, .inl mdi)), (m_queued, .inl (cT 0, 3, .inl (fun _ => 0)))] sz)) (va_Qi (fun (r : Int32) (_ : Unit) => th_on p0 p1 = 0 → r = vl_on p1) (fun (_ : Unit) (t : State) => ∃ (gs : List Value), ∃ (tt : Int32), (gs.length = 109) ∧ (gs[0]? = some (.int tt)) ∧ (tt = th_on p0 p1) ∧ va_P D vwCl [(h0, .inr (12, gs))] t.heap ∧ va_D (va_A [(h0, .inr (12, fs)), (m_onNow, .inl (cT 0, 3, .inl mon)), (m_dressing, .inl (cT 0, 3, .inl mdi)), (m_queued, .inl (cT 0, 3, .inl (fun _ => 0)))] sz) [(h0, .inr (12, gs))]) (va_A [(h0, .inr (12, fs)), (m_onNow, .inl (cT 0, 3, .inl mon)), (m_dressing, .inl (cT 0, 3, .inl mdi)), (m_queued, .inl (cT 0, 3, .inl (fun _ => 0)))] sz)) 0 0 (va_A [(h0, .inr (12, fs)), (m_onNow, .inl (cT 0, 3, .inl mon)), (m_dressing, .inl (cT 0, 3, .inl mdi)), (m_queued, .inl (cT 0, 3, .inl (fun _ => 0)))] sz) := by
  refine Met.ofW (cc := cX12_on) (maxL := 3) (ret := (some .int)) (by decide) rfl ?_
  intro p e s m args below meth c s₁ B hml hv
  obtain ⟨rfl, hsz, hP, hK, hD0, hG⟩ := hv
  have hx := B.exec
  have hb := B.bytes
  have hr := B.returns
  have hts := atoms_spec (ws := wsX12_on) B.pre
  have hown : s.vm.findClass RX12 = some m.cls := findClass_of_methodNamed B.named
  have hlocks := B.notSynchronized
  subst hsz
  have hD := hD0.self (sz := s.heap.size)
  generalize hAe : va_A [(h0, .inr (12, fs)), (m_onNow, .inl (cT 0, 3, .inl mon)), (m_dressing, .inl (cT 0, 3, .inl mdi)), (m_queued, .inl (cT 0, 3, .inl (fun _ => 0)))] s.heap.size = A at hD ⊢
  have hA : ∀ q : Nat, s.heap.size ≤ q → A q := fun q h => by rw [← hAe]; exact Or.inr h
  have hS : va_S A s.heap s.heap [] := va_S.rf
  have hP : va_P D vwCl [(h0, .inr (12, fs)), (m_onNow, .inl (cT 0, 3, .inl mon)), (m_dressing, .inl (cT 0, 3, .inl mdi)), (m_queued, .inl (cT 0, 3, .inl (fun _ => 0)))] s.heap := hP
  have hl := lv_entry ([.ref h0, .int p0, .int p1]) (n := 3) (Nat.le_of_ble_eq_true rfl)
  rw [lg_entry_eq]
  generalize (lg_sl ([.ref h0, .int p0, .int p1]) ++ List.replicate (3 - (lg_sl ([.ref h0, .int p0, .int p1])).length) Slot.unset).toArray = ls at hl ⊢
  have hl : lv_has ls 3 [(0, .ref h0), (1, .int p0), (2, .int p1)] := hl
  refine lv_aload_n hx hb dX12_on_0 rfl (lv_at hl 0 rfl) ?_
  refine lv_iconst (v := 0) hx hb dX12_on_1 (by decide) ?_
  refine va_put (D := D) (ci := 12) (v := .int 0) (ty := .int) (C := RX12) (T := TX12) (N := 109) hx hb hts (fun _ h => List.mem_cons_of_mem _ (List.mem_append_right _ h)) tyX12 tyX12_ok nmX12 hown hK hP hD hS 0 rfl rfl 0 (by decide) (hts (.fieldLink RX12 1 "PuppetFilmModel" "thrown" "I") (List.mem_of_getElem? (i := 1) (by decide +kernel))) (fun _ h9 => h9) rfl (by decide +kernel) rfl rfl (by simp only [List.length_set, hfs]; decide) dX12_on_2 (fun H locs hP hD hS => ?_)
  have hP : va_P D vwCl [(h0, .inr (12, (fs.set 0 (.int 0)))), (m_onNow, .inl (cT 0, 3, .inl mon)), (m_dressing, .inl (cT 0, 3, .inl mdi)), (m_queued, .inl (cT 0, 3, .inl (fun _ => 0)))] _ := hP
  have hD : va_D A [(h0, .inr (12, (fs.set 0 (.int 0)))), (m_onNow, .inl (cT 0, 3, .inl mon)), (m_dressing, .inl (cT 0, 3, .inl mdi)), (m_queued, .inl (cT 0, 3, .inl (fun _ => 0)))] := hD
  refine lv_aload_n hx hb dX12_on_5 rfl (lv_at hl 0 rfl) ?_
  refine lv_iload_n hx hb dX12_on_6 rfl (lv_at hl 1 rfl) ?_
  refine lv_iconst (v := 0) hx hb dX12_on_7 (by decide) ?_
  refine lv_iconst (v := 2) hx hb dX12_on_8 (by decide) ?_
  have hF := va_free (wc := []) hD hS hA [] rfl
  refine va_calli (va_runS (As := [.int p0, .int 0, .int 2]) (rest := [.ref h0]) ⟨hx, hb, hml, hown, hts⟩ (c_X12_within l D cT p0 0 2 _ ) (va_cwS 3 hts gX12_on_X12_within rfl rfl rfl (by decide +kernel) ⟨Nat.le_of_ble_eq_true rfl, Nat.le_of_ble_eq_true rfl⟩) (ps_w hP hD hK hG [] rfl rfl rfl) rfl rfl hl.1 rfl (lv_room (Nat.le_of_ble_eq_true rfl)) dX12_on_9 ⟨Nat.le_of_ble_eq_true rfl, Nat.le_of_ble_eq_true rfl⟩) hS (fun q _ h => hF q h) hF (fun r_1 uu9 tt9 H locs ht hvm wr_1 hB hz1 hk1 hS => ?_)
  obtain ⟨hP, hD⟩ := va_join (wr := [(h0, .inr (12, (fs.set 0 (.int 0)))), (m_onNow, .inl (cT 0, 3, .inl mon)), (m_dressing, .inl (cT 0, 3, .inl mdi)), (m_queued, .inl (cT 0, 3, .inl (fun _ => 0)))]) (w1 := []) hP hD [] [0, 1, 2, 3] rfl rfl (by decide) (by decide) hk1 hF vp_nil vd_nil
  have hP : va_P D vwCl [(h0, .inr (12, (fs.set 0 (.int 0)))), (m_onNow, .inl (cT 0, 3, .inl mon)), (m_dressing, .inl (cT 0, 3, .inl mdi)), (m_queued, .inl (cT 0, 3, .inl (fun _ => 0)))] _ := hP
  have hD : va_D A [(h0, .inr (12, (fs.set 0 (.int 0)))), (m_onNow, .inl (cT 0, 3, .inl mon)), (m_dressing, .inl (cT 0, 3, .inl mdi)), (m_queued, .inl (cT 0, 3, .inl (fun _ => 0)))] := hD
  refine lv_iconst (v := 1) hx hb dX12_on_12 (by decide) ?_
  have g9 := wi_01 p0 0 2
  rw [← wr_1] at g9
  rcases g9 with rfl | rfl
  · have hF := va_free (wc := [(h0, .inr (12, (fs.set 0 (.int 0))))]) hD hS hA [0] rfl
    refine va_calli (va_runV (As := [.int 0, .int 1]) (rest := []) ⟨hx, hb, hml, hown, hts⟩ (c_X12_may_0_1 l D cT h0 (fs.set 0 (.int 0)) _ (by simp only [List.length_set]; exact hfs) (List.getElem?_set_self (by simp only [List.length_set, hfs]; decide))) (cwV 2 hts gX12_on_X12_may rfl rfl rfl (by decide +kernel) ⟨Nat.le_of_ble_eq_true rfl, Nat.le_of_ble_eq_true rfl⟩) (pv_w hP hD hK hG [0] rfl rfl rfl 0 rfl rfl) rfl rfl hl.1 rfl (lv_room (Nat.le_of_ble_eq_true rfl)) dX12_on_13 ⟨Nat.le_of_ble_eq_true rfl, Nat.le_of_ble_eq_true rfl⟩) hS (fun q _ h => hF q h) hF (fun r_2 uu9 tt9 H locs ht hvm wr_2 hB hz1 hk1 hS => ?_)
    obtain ⟨hP1, hD1⟩ := hB
    rw [ht] at hP1
    obtain ⟨hP, hD⟩ := va_join (wr := [(m_onNow, .inl (cT 0, 3, .inl mon)), (m_dressing, .inl (cT 0, 3, .inl mdi)), (m_queued, .inl (cT 0, 3, .inl (fun _ => 0)))]) (w1 := [(h0, .inr (12, ((fs.set 0 (.int 0)).set 0 (.int 1))))]) hP hD [0] [1, 2, 3] rfl rfl (by decide) (by decide) hk1 hF hP1 hD1
    have hP : va_P D vwCl [(m_onNow, .inl (cT 0, 3, .inl mon)), (m_dressing, .inl (cT 0, 3, .inl mdi)), (m_queued, .inl (cT 0, 3, .inl (fun _ => 0))), (h0, .inr (12, ((fs.set 0 (.int 0)).set 0 (.int 1))))] _ := hP
    have hD : va_D A [(m_onNow, .inl (cT 0, 3, .inl mon)), (m_dressing, .inl (cT 0, 3, .inl mdi)), (m_queued, .inl (cT 0, 3, .inl (fun _ => 0))), (h0, .inr (12, ((fs.set 0 (.int 0)).set 0 (.int 1))))] := hD
    obtain rfl : r_2 = 0 := wr_2.trans (rfl)
    refine lv_if_eq (tgt := 33) hx hb dX12_on_16 (by decide) (fun _ => ?_) (fun c9 => absurd c9 (by decide))
    refine lv_iconst (v := 0) hx hb dX12_on_33 (by decide) ?_
    have hP9 := hP.sub (ws' := [(h0, .inr (12, ((fs.set 0 (.int 0)).set 0 (.int 1))))]) [3] rfl
    have hD9 := hD.sub (ws' := [(h0, .inr (12, ((fs.set 0 (.int 0)).set 0 (.int 1))))]) [3] (by decide) rfl
    exact W.iret (v := 0) hx hb hr (fun t ht hW => ⟨⟨0, (), rfl, by simp [th_on, vl_on, ← wr_1], ⟨((fs.set 0 (.int 0)).set 0 (.int 1)), 1, by simp only [List.length_set]; exact hfs, List.getElem?_set_self (by simp only [List.length_set, hfs]; decide), by simp [th_on, vl_on, ← wr_1], by rw [ht]; exact hP9, hD9⟩⟩, hS.F ht⟩) hS.2.2 dX12_on_34
  · have hF := va_free (wc := [(h0, .inr (12, (fs.set 0 (.int 0))))]) hD hS hA [0] rfl
    refine va_calli (va_runV (As := [.int 1, .int 1]) (rest := []) ⟨hx, hb, hml, hown, hts⟩ (c_X12_may_1 l D cT h0 1 (fs.set 0 (.int 0)) _ (by simp only [List.length_set]; exact hfs) (List.getElem?_set_self (by simp only [List.length_set, hfs]; decide))) (cwV 2 hts gX12_on_X12_may rfl rfl rfl (by decide +kernel) ⟨Nat.le_of_ble_eq_true rfl, Nat.le_of_ble_eq_true rfl⟩) (pv_w hP hD hK hG [0] rfl rfl rfl 0 rfl rfl) rfl rfl hl.1 rfl (lv_room (Nat.le_of_ble_eq_true rfl)) dX12_on_13 ⟨Nat.le_of_ble_eq_true rfl, Nat.le_of_ble_eq_true rfl⟩) hS (fun q _ h => hF q h) hF (fun r_3 uu9 tt9 H locs ht hvm wr_3 hB hz1 hk1 hS => ?_)
    obtain ⟨hP1, hD1⟩ := hB
    rw [ht] at hP1
    obtain ⟨hP, hD⟩ := va_join (wr := [(m_onNow, .inl (cT 0, 3, .inl mon)), (m_dressing, .inl (cT 0, 3, .inl mdi)), (m_queued, .inl (cT 0, 3, .inl (fun _ => 0)))]) (w1 := [(h0, .inr (12, (fs.set 0 (.int 0))))]) hP hD [0] [1, 2, 3] rfl rfl (by decide) (by decide) hk1 hF hP1 hD1
    have hP : va_P D vwCl [(m_onNow, .inl (cT 0, 3, .inl mon)), (m_dressing, .inl (cT 0, 3, .inl mdi)), (m_queued, .inl (cT 0, 3, .inl (fun _ => 0))), (h0, .inr (12, (fs.set 0 (.int 0))))] _ := hP
    have hD : va_D A [(m_onNow, .inl (cT 0, 3, .inl mon)), (m_dressing, .inl (cT 0, 3, .inl mdi)), (m_queued, .inl (cT 0, 3, .inl (fun _ => 0))), (h0, .inr (12, (fs.set 0 (.int 0))))] := hD
    obtain rfl : r_3 = 1 := wr_3.trans (rfl)
    refine lv_if_eq (tgt := 33) hx hb dX12_on_16 (by decide) (fun c9 => absurd c9 (by decide)) (fun _ => ?_)
    refine lv_aload_n hx hb dX12_on_19 rfl (lv_at hl 0 rfl) ?_
    refine lv_iload_n hx hb dX12_on_20 rfl (lv_at hl 2 rfl) ?_
    refine lv_iconst (v := 0) hx hb dX12_on_21 (by decide) ?_
    refine lv_iconst (v := 3) hx hb dX12_on_22 (by decide) ?_
    have hF := va_free (wc := []) hD hS hA [] rfl
    refine va_calli (va_runS (As := [.int p1, .int 0, .int 3]) (rest := [.ref h0]) ⟨hx, hb, hml, hown, hts⟩ (c_X12_within l D cT p1 0 3 _ ) (va_cwS 3 hts gX12_on_X12_within rfl rfl rfl (by decide +kernel) ⟨Nat.le_of_ble_eq_true rfl, Nat.le_of_ble_eq_true rfl⟩) (ps_w hP hD hK hG [] rfl rfl rfl) rfl rfl hl.1 rfl (lv_room (Nat.le_of_ble_eq_true rfl)) dX12_on_23 ⟨Nat.le_of_ble_eq_true rfl, Nat.le_of_ble_eq_true rfl⟩) hS (fun q _ h => hF q h) hF (fun r_4 uu9 tt9 H locs ht hvm wr_4 hB hz1 hk1 hS => ?_)
    obtain ⟨hP, hD⟩ := va_join (wr := [(m_onNow, .inl (cT 0, 3, .inl mon)), (m_dressing, .inl (cT 0, 3, .inl mdi)), (m_queued, .inl (cT 0, 3, .inl (fun _ => 0))), (h0, .inr (12, (fs.set 0 (.int 0))))]) (w1 := []) hP hD [] [0, 1, 2, 3] rfl rfl (by decide) (by decide) hk1 hF vp_nil vd_nil
    have hP : va_P D vwCl [(m_onNow, .inl (cT 0, 3, .inl mon)), (m_dressing, .inl (cT 0, 3, .inl mdi)), (m_queued, .inl (cT 0, 3, .inl (fun _ => 0))), (h0, .inr (12, (fs.set 0 (.int 0))))] _ := hP
    have hD : va_D A [(m_onNow, .inl (cT 0, 3, .inl mon)), (m_dressing, .inl (cT 0, 3, .inl mdi)), (m_queued, .inl (cT 0, 3, .inl (fun _ => 0))), (h0, .inr (12, (fs.set 0 (.int 0))))] := hD
    refine lv_iconst (v := 2) hx hb dX12_on_26 (by decide) ?_
    have g9 := wi_01 p1 0 3
    rw [← wr_4] at g9
    rcases g9 with rfl | rfl
    · have hF := va_free (wc := [(h0, .inr (12, (fs.set 0 (.int 0))))]) hD hS hA [3] rfl
      refine va_calli (va_runV (As := [.int 0, .int 2]) (rest := []) ⟨hx, hb, hml, hown, hts⟩ (c_X12_may_0_2 l D cT h0 (fs.set 0 (.int 0)) _ (by simp only [List.length_set]; exact hfs) (List.getElem?_set_self (by simp only [List.length_set, hfs]; decide))) (cwV 2 hts gX12_on_X12_may rfl rfl rfl (by decide +kernel) ⟨Nat.le_of_ble_eq_true rfl, Nat.le_of_ble_eq_true rfl⟩) (pv_w hP hD hK hG [3] rfl rfl rfl 3 rfl rfl) rfl rfl hl.1 rfl (lv_room (Nat.le_of_ble_eq_true rfl)) dX12_on_27 ⟨Nat.le_of_ble_eq_true rfl, Nat.le_of_ble_eq_true rfl⟩) hS (fun q _ h => hF q h) hF (fun r_5 uu9 tt9 H locs ht hvm wr_5 hB hz1 hk1 hS => ?_)
      obtain ⟨hP1, hD1⟩ := hB
      rw [ht] at hP1
      obtain ⟨hP, hD⟩ := va_join (wr := [(m_onNow, .inl (cT 0, 3, .inl mon)), (m_dressing, .inl (cT 0, 3, .inl mdi)), (m_queued, .inl (cT 0, 3, .inl (fun _ => 0)))]) (w1 := [(h0, .inr (12, ((fs.set 0 (.int 0)).set 0 (.int 2))))]) hP hD [3] [0, 1, 2] rfl rfl (by decide) (by decide) hk1 hF hP1 hD1
      have hP : va_P D vwCl [(m_onNow, .inl (cT 0, 3, .inl mon)), (m_dressing, .inl (cT 0, 3, .inl mdi)), (m_queued, .inl (cT 0, 3, .inl (fun _ => 0))), (h0, .inr (12, ((fs.set 0 (.int 0)).set 0 (.int 2))))] _ := hP
      have hD : va_D A [(m_onNow, .inl (cT 0, 3, .inl mon)), (m_dressing, .inl (cT 0, 3, .inl mdi)), (m_queued, .inl (cT 0, 3, .inl (fun _ => 0))), (h0, .inr (12, ((fs.set 0 (.int 0)).set 0 (.int 2))))] := hD
      obtain rfl : r_5 = 0 := wr_5.trans (rfl)
      refine lv_if_ne (tgt := 35) hx hb dX12_on_30 (by decide) (fun c9 => absurd c9 (by decide)) (fun _ => ?_)
      refine lv_iconst (v := 0) hx hb dX12_on_33 (by decide) ?_
      have hP9 := hP.sub (ws' := [(h0, .inr (12, ((fs.set 0 (.int 0)).set 0 (.int 2))))]) [3] rfl
      have hD9 := hD.sub (ws' := [(h0, .inr (12, ((fs.set 0 (.int 0)).set 0 (.int 2))))]) [3] (by decide) rfl
      exact W.iret (v := 0) hx hb hr (fun t ht hW => ⟨⟨0, (), rfl, by simp [th_on, vl_on, ← wr_1, ← wr_4, (wi03n wr_4).1, (wi03n wr_4).2.1, (wi03n wr_4).2.2.1, (wi03n wr_4).2.2.2], ⟨((fs.set 0 (.int 0)).set 0 (.int 2)), 2, by simp only [List.length_set]; exact hfs, List.getElem?_set_self (by simp only [List.length_set, hfs]; decide), by simp [th_on, vl_on, ← wr_1, ← wr_4, (wi03n wr_4).1, (wi03n wr_4).2.1, (wi03n wr_4).2.2.1, (wi03n wr_4).2.2.2], by rw [ht]; exact hP9, hD9⟩⟩, hS.F ht⟩) hS.2.2 dX12_on_34
    · have hF := va_free (wc := [(h0, .inr (12, (fs.set 0 (.int 0))))]) hD hS hA [3] rfl
      refine va_calli (va_runV (As := [.int 1, .int 2]) (rest := []) ⟨hx, hb, hml, hown, hts⟩ (c_X12_may_1 l D cT h0 2 (fs.set 0 (.int 0)) _ (by simp only [List.length_set]; exact hfs) (List.getElem?_set_self (by simp only [List.length_set, hfs]; decide))) (cwV 2 hts gX12_on_X12_may rfl rfl rfl (by decide +kernel) ⟨Nat.le_of_ble_eq_true rfl, Nat.le_of_ble_eq_true rfl⟩) (pv_w hP hD hK hG [3] rfl rfl rfl 3 rfl rfl) rfl rfl hl.1 rfl (lv_room (Nat.le_of_ble_eq_true rfl)) dX12_on_27 ⟨Nat.le_of_ble_eq_true rfl, Nat.le_of_ble_eq_true rfl⟩) hS (fun q _ h => hF q h) hF (fun r_6 uu9 tt9 H locs ht hvm wr_6 hB hz1 hk1 hS => ?_)
      obtain ⟨hP1, hD1⟩ := hB
      rw [ht] at hP1
      obtain ⟨hP, hD⟩ := va_join (wr := [(m_onNow, .inl (cT 0, 3, .inl mon)), (m_dressing, .inl (cT 0, 3, .inl mdi)), (m_queued, .inl (cT 0, 3, .inl (fun _ => 0)))]) (w1 := [(h0, .inr (12, (fs.set 0 (.int 0))))]) hP hD [3] [0, 1, 2] rfl rfl (by decide) (by decide) hk1 hF hP1 hD1
      have hP : va_P D vwCl [(m_onNow, .inl (cT 0, 3, .inl mon)), (m_dressing, .inl (cT 0, 3, .inl mdi)), (m_queued, .inl (cT 0, 3, .inl (fun _ => 0))), (h0, .inr (12, (fs.set 0 (.int 0))))] _ := hP
      have hD : va_D A [(m_onNow, .inl (cT 0, 3, .inl mon)), (m_dressing, .inl (cT 0, 3, .inl mdi)), (m_queued, .inl (cT 0, 3, .inl (fun _ => 0))), (h0, .inr (12, (fs.set 0 (.int 0))))] := hD
      obtain rfl : r_6 = 1 := wr_6.trans (rfl)
      refine lv_if_ne (tgt := 35) hx hb dX12_on_30 (by decide) (fun _ => ?_) (fun c9 => absurd c9 (by decide))
      refine lv_iload_n hx hb dX12_on_35 rfl (lv_at hl 2 rfl) ?_
      rcases wi03 wr_4 with c_w0 | c_w1 | c_w2 | c_w3
      · refine lv_tableIn (off := 28) (tgt := 64) hx hb dX12_on_36 (by rw [c_w0]; decide) (by rw [c_w0]; decide) (by rw [c_w0]; rfl) (by decide) ?_
        refine lv_aload_n hx hb dX12_on_64 rfl (lv_at hl 0 rfl) ?_
        refine va_get (D := D) (ci := 12) (v := .ref m_onNow) (C := RX12) (T := TX12) (N := 109) hx hb hts (fun _ h => List.mem_cons_of_mem _ (List.mem_append_right _ h)) hown hK hP 3 rfl rfl 95 (by decide) (hts (.fieldLink RX12 225 "PuppetFilmModel" "onNow" "[I") (List.mem_of_getElem? (i := 2) (by decide +kernel))) (fun _ h9 => h9) ((List.getElem?_set_ne (by decide)).trans (hfs_95)) dX12_on_65 ?_
        refine lv_iload_n hx hb dX12_on_68 rfl (lv_at hl 1 rfl) ?_
        refine va_iald hx hb hK hP 0 0 rfl rfl (wi_vin (hi := 2) (by decide) wr_1) dX12_on_69 ?_
        refine lv_topi (fun x_7 ex_7 => ?_)
        obtain rfl : x_7 = (-1) := ex_7.trans (hmon _ (vin_n (wi_vin (hi := 2) (by decide) wr_1)))
        have hP9 := hP.sub (ws' := [(h0, .inr (12, (fs.set 0 (.int 0))))]) [3] rfl
        have hD9 := hD.sub (ws' := [(h0, .inr (12, (fs.set 0 (.int 0))))]) [3] (by decide) rfl
        exact W.iret (v := (-1)) hx hb hr (fun t ht hW => ⟨⟨(-1), (), rfl, by simp [th_on, vl_on, ← wr_1, ← wr_4, c_w0], ⟨(fs.set 0 (.int 0)), 0, by simp only [List.length_set]; exact hfs, List.getElem?_set_self (by simp only [List.length_set, hfs]; decide), by simp [th_on, vl_on, ← wr_1, ← wr_4, c_w0], by rw [ht]; exact hP9, hD9⟩⟩, hS.F ht⟩) hS.2.2 dX12_on_70
      · refine lv_tableIn (off := 35) (tgt := 71) hx hb dX12_on_36 (by rw [c_w1]; decide) (by rw [c_w1]; decide) (by rw [c_w1]; rfl) (by decide) ?_
        refine lv_aload_n hx hb dX12_on_71 rfl (lv_at hl 0 rfl) ?_
        refine va_get (D := D) (ci := 12) (v := .ref m_dressing) (C := RX12) (T := TX12) (N := 109) hx hb hts (fun _ h => List.mem_cons_of_mem _ (List.mem_append_right _ h)) hown hK hP 3 rfl rfl 96 (by decide) (hts (.fieldLink RX12 228 "PuppetFilmModel" "dressing" "[I") (List.mem_of_getElem? (i := 3) (by decide +kernel))) (fun _ h9 => h9) ((List.getElem?_set_ne (by decide)).trans (hfs_96)) dX12_on_72 ?_
        refine lv_iload_n hx hb dX12_on_75 rfl (lv_at hl 1 rfl) ?_
        refine va_iald hx hb hK hP 1 0 rfl rfl (wi_vin (hi := 2) (by decide) wr_1) dX12_on_76 ?_
        refine lv_topi (fun x_8 ex_8 => ?_)
        obtain rfl : x_8 = (-1) := ex_8.trans (hmdi _ (vin_n (wi_vin (hi := 2) (by decide) wr_1)))
        refine lv_iconst (v := (-1)) hx hb dX12_on_77 (by decide) ?_
        refine lv_icmp_ne (tgt := 85) hx hb dX12_on_78 (by decide) (fun c9 => absurd c9 (by decide)) (fun _ => ?_)
        refine lv_iconst (v := (-1)) hx hb dX12_on_81 (by decide) ?_
        refine lv_goto (tgt := 91) hx hb dX12_on_82 (by decide) ?_
        have hP9 := hP.sub (ws' := [(h0, .inr (12, (fs.set 0 (.int 0))))]) [3] rfl
        have hD9 := hD.sub (ws' := [(h0, .inr (12, (fs.set 0 (.int 0))))]) [3] (by decide) rfl
        exact W.iret (v := (-1)) hx hb hr (fun t ht hW => ⟨⟨(-1), (), rfl, by simp [th_on, vl_on, ← wr_1, ← wr_4, c_w1], ⟨(fs.set 0 (.int 0)), 0, by simp only [List.length_set]; exact hfs, List.getElem?_set_self (by simp only [List.length_set, hfs]; decide), by simp [th_on, vl_on, ← wr_1, ← wr_4, c_w1], by rw [ht]; exact hP9, hD9⟩⟩, hS.F ht⟩) hS.2.2 dX12_on_91
      · refine lv_tableIn (off := 56) (tgt := 92) hx hb dX12_on_36 (by rw [c_w2]; decide) (by rw [c_w2]; decide) (by rw [c_w2]; rfl) (by decide) ?_
        refine lv_aload_n hx hb dX12_on_92 rfl (lv_at hl 0 rfl) ?_
        refine va_get (D := D) (ci := 12) (v := .ref m_queued) (C := RX12) (T := TX12) (N := 109) hx hb hts (fun _ h => List.mem_cons_of_mem _ (List.mem_append_right _ h)) hown hK hP 3 rfl rfl 93 (by decide) (hts (.fieldLink RX12 219 "PuppetFilmModel" "queued" "[I") (List.mem_of_getElem? (i := 5) (by decide +kernel))) (fun _ h9 => h9) ((List.getElem?_set_ne (by decide)).trans (hfs_93)) dX12_on_93 ?_
        refine lv_iload_n hx hb dX12_on_96 rfl (lv_at hl 1 rfl) ?_
        refine va_iald hx hb hK hP 2 0 rfl rfl (wi_vin (hi := 2) (by decide) wr_1) dX12_on_97 ?_
        refine lv_topi (fun x_9 ex_9 => ?_)
        obtain rfl : x_9 = 0 := ex_9.trans (rfl)
        have hP9 := hP.sub (ws' := [(h0, .inr (12, (fs.set 0 (.int 0))))]) [3] rfl
        have hD9 := hD.sub (ws' := [(h0, .inr (12, (fs.set 0 (.int 0))))]) [3] (by decide) rfl
        exact W.iret (v := 0) hx hb hr (fun t ht hW => ⟨⟨0, (), rfl, by simp [th_on, vl_on, ← wr_1, ← wr_4, c_w2], ⟨(fs.set 0 (.int 0)), 0, by simp only [List.length_set]; exact hfs, List.getElem?_set_self (by simp only [List.length_set, hfs]; decide), by simp [th_on, vl_on, ← wr_1, ← wr_4, c_w2], by rw [ht]; exact hP9, hD9⟩⟩, hS.F ht⟩) hS.2.2 dX12_on_98
      · refine lv_tableOut (tgt := 99) hx hb dX12_on_36 (by rw [c_w3]; decide) (by decide) ?_
        refine lv_aload_n hx hb dX12_on_99 rfl (lv_at hl 0 rfl) ?_
        refine va_get (D := D) (ci := 12) (v := .ref m_queued) (C := RX12) (T := TX12) (N := 109) hx hb hts (fun _ h => List.mem_cons_of_mem _ (List.mem_append_right _ h)) hown hK hP 3 rfl rfl 93 (by decide) (hts (.fieldLink RX12 219 "PuppetFilmModel" "queued" "[I") (List.mem_of_getElem? (i := 5) (by decide +kernel))) (fun _ h9 => h9) ((List.getElem?_set_ne (by decide)).trans (hfs_93)) dX12_on_100 ?_
        refine lv_iload_n hx hb dX12_on_103 rfl (lv_at hl 1 rfl) ?_
        refine va_iald hx hb hK hP 2 0 rfl rfl (wi_vin (hi := 2) (by decide) wr_1) dX12_on_104 ?_
        refine lv_topi (fun x_10 ex_10 => ?_)
        obtain rfl : x_10 = 0 := ex_10.trans (rfl)
        refine lv_if_ne (tgt := 112) hx hb dX12_on_105 (by decide) (fun c9 => absurd c9 (by decide)) (fun _ => ?_)
        refine lv_iconst (v := (-1)) hx hb dX12_on_108 (by decide) ?_
        refine lv_goto (tgt := 121) hx hb dX12_on_109 (by decide) ?_
        have hP9 := hP.sub (ws' := [(h0, .inr (12, (fs.set 0 (.int 0))))]) [3] rfl
        have hD9 := hD.sub (ws' := [(h0, .inr (12, (fs.set 0 (.int 0))))]) [3] (by decide) rfl
        exact W.iret (v := (-1)) hx hb hr (fun t ht hW => ⟨⟨(-1), (), rfl, by simp [th_on, vl_on, ← wr_1, ← wr_4, c_w3], ⟨(fs.set 0 (.int 0)), 0, by simp only [List.length_set]; exact hfs, List.getElem?_set_self (by simp only [List.length_set, hfs]; decide), by simp [th_on, vl_on, ← wr_1, ← wr_4, c_w3], by rw [ht]; exact hP9, hD9⟩⟩, hS.F ht⟩) hS.2.2 dX12_on_121
