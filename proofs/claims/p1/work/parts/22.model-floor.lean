theorem dX12_floor_0 : decode cX12_floor 0 = .ok (.aload_n 0, 1) := by decide +kernel
theorem dX12_floor_1 : decode cX12_floor 1 = .ok (.iconst 0, 1) := by decide +kernel
theorem dX12_floor_10 : decode cX12_floor 10 = .ok (.invokestatic 267, 3) := by decide +kernel
theorem dX12_floor_13 : decode cX12_floor 13 = .ok (.iconst 1, 1) := by decide +kernel
theorem dX12_floor_14 : decode cX12_floor 14 = .ok (.invokevirtual 271, 3) := by decide +kernel
theorem dX12_floor_17 : decode cX12_floor 17 = .ok (.ifCond .ne 5, 3) := by decide +kernel
theorem dX12_floor_2 : decode cX12_floor 2 = .ok (.putfield 1, 3) := by decide +kernel
theorem dX12_floor_20 : decode cX12_floor 20 = .ok (.iconst 0, 1) := by decide +kernel
theorem dX12_floor_21 : decode cX12_floor 21 = .ok (.ireturn, 1) := by decide +kernel
theorem dX12_floor_22 : decode cX12_floor 22 = .ok (.iconst 0, 1) := by decide +kernel
theorem dX12_floor_23 : decode cX12_floor 23 = .ok (.istore_n 2, 1) := by decide +kernel
theorem dX12_floor_24 : decode cX12_floor 24 = .ok (.iload_n 2, 1) := by decide +kernel
theorem dX12_floor_25 : decode cX12_floor 25 = .ok (.iload_n 1, 1) := by decide +kernel
theorem dX12_floor_26 : decode cX12_floor 26 = .ok (.if_icmp .ge 13, 3) := by decide +kernel
theorem dX12_floor_29 : decode cX12_floor 29 = .ok (.aload_n 0, 1) := by decide +kernel
theorem dX12_floor_30 : decode cX12_floor 30 = .ok (.invokevirtual 558, 3) := by decide +kernel
theorem dX12_floor_33 : decode cX12_floor 33 = .ok (.iinc 2 1, 3) := by decide +kernel
theorem dX12_floor_36 : decode cX12_floor 36 = .ok (.goto (-12), 3) := by decide +kernel
theorem dX12_floor_39 : decode cX12_floor 39 = .ok (.aload_n 0, 1) := by decide +kernel
theorem dX12_floor_40 : decode cX12_floor 40 = .ok (.getfield 513, 3) := by decide +kernel
theorem dX12_floor_43 : decode cX12_floor 43 = .ok (.ireturn, 1) := by decide +kernel
theorem dX12_floor_5 : decode cX12_floor 5 = .ok (.aload_n 0, 1) := by decide +kernel
theorem dX12_floor_6 : decode cX12_floor 6 = .ok (.iload_n 1, 1) := by decide +kernel
theorem dX12_floor_7 : decode cX12_floor 7 = .ok (.iconst 0, 1) := by decide +kernel
theorem dX12_floor_8 : decode cX12_floor 8 = .ok (.bipush 100, 2) := by decide +kernel
set_option maxRecDepth 20000 in
theorem ggX12_floor_X12_floorHalf : GoodIn wsX12_floor wsX12_floorHalf := goodIn_r _ [14, 2, 15, 16, 17, 5, 18, 19, 20, 21, 22, 23, 24, 25, 26, 27, 28, 29, 30, 31, 32, 33, 34, 35, 36, 37, 38, 39, 40, 41, 42, 43, 44, 45, 46, 47, 48, 49, 50, 51, 52, 53, 54, 55, 56, 57, 58, 59, 60, 61, 62, 63, 64, 65, 66, 67, 68, 69, 70, 71, 72, 73, 74, 75, 76, 77, 78, 79, 80, 81, 82, 83, 84, 85, 86, 87, 88, 89, 90, 91, 92, 93, 94, 95, 96, 97, 98, 99, 100, 101, 102, 103, 104, 105, 106, 107, 108, 109, 110, 111, 112, 113, 114, 115, 116, 117, 118, 119, 120, 121, 122, 123, 124, 125, 126, 127, 128, 129, 130, 131, 132, 133, 134, 135, 136, 137, 138, 139, 140, 141, 142, 143, 144, 145, 146, 147, 148, 149, 150, 151, 152, 153, 154, 155, 156, 157, 158, 159, 160, 161, 162, 163, 164, 165, 166, 167, 168, 169, 170, 171, 172, 173, 174, 175, 176, 177, 178, 179, 180, 181, 182, 183, 184, 185, 186, 187, 188, 189, 190, 191, 192, 193, 194, 195, 196, 197] (by decide +kernel) (by decide +kernel)
set_option maxRecDepth 20000 in
theorem gX12_floor_X12_floorHalf : GoodIn wsX12_floor (wsV RX12 558 RX12 yX12_floorHalf wsX12_floorHalf) := goodIn_app (goodIn_of _ (by decide +kernel)) ggX12_floor_X12_floorHalf
set_option maxRecDepth 20000 in
theorem ggX12_floor_X12_may : GoodIn wsX12_floor wsX12_may := goodIn_r _ [10, 1, 89, 90, 91, 92, 93, 94, 95, 96, 97, 98, 99, 100, 101, 102, 103, 104, 105, 106, 107, 108, 109, 110, 111, 112, 113, 114, 115, 116, 117, 118, 119, 120, 121, 122, 123, 124, 125, 126, 127, 128, 129, 130, 131, 132, 133, 134, 135, 136, 137, 138, 139, 140, 141, 142, 143, 144, 145, 146, 147, 148, 149, 150, 151, 152, 153, 154, 155, 156, 157, 158, 159, 160, 161, 162, 163, 164, 165, 166, 167, 168, 169, 170, 171, 172, 173, 174, 175, 176, 177, 178, 179, 180, 181, 182, 183, 184, 185, 186, 187, 188, 189, 190, 191, 192, 193, 194, 195, 196, 197] (by decide +kernel) (by decide +kernel)
set_option maxRecDepth 20000 in
theorem gX12_floor_X12_may : GoodIn wsX12_floor (wsV RX12 271 RX12 yX12_may wsX12_may) := goodIn_app (goodIn_of _ (by decide +kernel)) ggX12_floor_X12_may
set_option maxRecDepth 20000 in
theorem ggX12_floor_X12_within : GoodIn wsX12_floor wsX12_within := goodIn_r _ [6] (by decide +kernel) (by decide +kernel)
set_option maxRecDepth 20000 in
theorem gX12_floor_X12_within : GoodIn wsX12_floor (va_wsS RX12 267 yX12_within wsX12_within) := goodIn_app (goodIn_of _ (by decide +kernel)) ggX12_floor_X12_within
set_option maxHeartbeats 4000000 in
set_option maxRecDepth 100000 in
theorem c_X12_floor (l : Launch) (D : va_G) (cT : Nat → ClassId) (h0 : Nat) (p0 : Int32) (fs : List Value) (m_th : Int32) (m_queued : Nat) (m_onNow : Nat) (mon : Nat → Int32) (sz : Nat) (hmon : ∀ k, k < 3 → mon k = -1) (hfs : fs.length = 109) (hfs_0 : fs[0]? = some (.int m_th)) (hfs_82 : fs[82]? = some (.int 0)) (hfs_93 : fs[93]? = some (.ref m_queued)) (hfs_95 : fs[95]? = some (.ref m_onNow)) : Met l yX12_floor wsX12_floor ({ frames := 11, cells := 0, slots := 0, locals := 340 }) (va_Pc [.ref h0, .int p0] (PW D cT [(h0, .inr (12, fs)), (m_queued, .inl (cT 0, 3, .inl (fun _ => 0))), (m_onNow, .inl (cT 0, 3, .inl mon))] sz)) (va_Qi (fun (r : Int32) (_ : Unit) => th_floor p0 = 0 → r = p0) (fun (_ : Unit) (t : State) => ∃ (gs : List Value), ∃ (tt : Int32), (gs.length = 109) ∧ (gs[0]? = some (.int tt)) ∧ (tt = th_floor p0) ∧ va_P D vwCl [(h0, .inr (12, gs))] t.heap ∧ va_D (va_A [(h0, .inr (12, fs)), (m_queued, .inl (cT 0, 3, .inl (fun _ => 0))), (m_onNow, .inl (cT 0, 3, .inl mon))] sz) [(h0, .inr (12, gs))]) (va_A [(h0, .inr (12, fs)), (m_queued, .inl (cT 0, 3, .inl (fun _ => 0))), (m_onNow, .inl (cT 0, 3, .inl mon))] sz)) 0 0 (va_A [(h0, .inr (12, fs)), (m_queued, .inl (cT 0, 3, .inl (fun _ => 0))), (m_onNow, .inl (cT 0, 3, .inl mon))] sz) := by
  refine Met.ofW (cc := cX12_floor) (maxL := 3) (ret := (some .int)) (by decide) rfl ?_
  intro p e s m args below meth c s₁ B hml hv
  obtain ⟨rfl, hsz, hP, hK, hD0, hG⟩ := hv
  have hx := B.exec
  have hb := B.bytes
  have hr := B.returns
  have hts := atoms_spec (ws := wsX12_floor) B.pre
  have hown : s.vm.findClass RX12 = some m.cls := findClass_of_methodNamed B.named
  have hlocks := B.notSynchronized
  subst hsz
  have hD := hD0.self (sz := s.heap.size)
  generalize hAe : va_A [(h0, .inr (12, fs)), (m_queued, .inl (cT 0, 3, .inl (fun _ => 0))), (m_onNow, .inl (cT 0, 3, .inl mon))] s.heap.size = A at hD ⊢
  have hA : ∀ q : Nat, s.heap.size ≤ q → A q := fun q h => by rw [← hAe]; exact Or.inr h
  have hS : va_S A s.heap s.heap [] := va_S.rf
  have hP : va_P D vwCl [(h0, .inr (12, fs)), (m_queued, .inl (cT 0, 3, .inl (fun _ => 0))), (m_onNow, .inl (cT 0, 3, .inl mon))] s.heap := hP
  have hl := lv_entry ([.ref h0, .int p0]) (n := 3) (Nat.le_of_ble_eq_true rfl)
  rw [lg_entry_eq]
  generalize (lg_sl ([.ref h0, .int p0]) ++ List.replicate (3 - (lg_sl ([.ref h0, .int p0])).length) Slot.unset).toArray = ls at hl ⊢
  have hl : lv_has ls 3 [(0, .ref h0), (1, .int p0)] := hl
  refine lv_aload_n hx hb dX12_floor_0 rfl (lv_at hl 0 rfl) ?_
  refine lv_iconst (v := 0) hx hb dX12_floor_1 (by decide) ?_
  refine va_put (D := D) (ci := 12) (v := .int 0) (ty := .int) (C := RX12) (T := TX12) (N := 109) hx hb hts (fun _ h => List.mem_cons_of_mem _ (List.mem_append_right _ h)) tyX12 tyX12_ok nmX12 hown hK hP hD hS 0 rfl rfl 0 (by decide) (hts (.fieldLink RX12 1 "PuppetFilmModel" "thrown" "I") (List.mem_of_getElem? (i := 1) (by decide +kernel))) (fun _ h9 => h9) rfl (by decide +kernel) rfl rfl (by simp only [List.length_set, hfs]; decide) dX12_floor_2 (fun H locs hP hD hS => ?_)
  have hP : va_P D vwCl [(h0, .inr (12, (fs.set 0 (.int 0)))), (m_queued, .inl (cT 0, 3, .inl (fun _ => 0))), (m_onNow, .inl (cT 0, 3, .inl mon))] _ := hP
  have hD : va_D A [(h0, .inr (12, (fs.set 0 (.int 0)))), (m_queued, .inl (cT 0, 3, .inl (fun _ => 0))), (m_onNow, .inl (cT 0, 3, .inl mon))] := hD
  refine lv_aload_n hx hb dX12_floor_5 rfl (lv_at hl 0 rfl) ?_
  refine lv_iload_n hx hb dX12_floor_6 rfl (lv_at hl 1 rfl) ?_
  refine lv_iconst (v := 0) hx hb dX12_floor_7 (by decide) ?_
  refine lv_bipush (v := 100) hx hb dX12_floor_8 (by decide) ?_
  have hF := va_free (wc := []) hD hS hA [] rfl
  refine va_calli (va_runS (As := [.int p0, .int 0, .int 100]) (rest := [.ref h0]) ⟨hx, hb, hml, hown, hts⟩ (c_X12_within l D cT p0 0 100 _ ) (va_cwS 3 hts gX12_floor_X12_within rfl rfl rfl (by decide +kernel) ⟨Nat.le_of_ble_eq_true rfl, Nat.le_of_ble_eq_true rfl⟩) (ps_w hP hD hK hG [] rfl rfl rfl) rfl rfl hl.1 rfl (lv_room (Nat.le_of_ble_eq_true rfl)) dX12_floor_10 ⟨Nat.le_of_ble_eq_true rfl, Nat.le_of_ble_eq_true rfl⟩) hS (fun q _ h => hF q h) hF (fun r_1 uu9 tt9 H locs ht hvm wr_1 hB hz1 hk1 hS => ?_)
  obtain ⟨hP, hD⟩ := va_join (wr := [(h0, .inr (12, (fs.set 0 (.int 0)))), (m_queued, .inl (cT 0, 3, .inl (fun _ => 0))), (m_onNow, .inl (cT 0, 3, .inl mon))]) (w1 := []) hP hD [] [0, 1, 2] rfl rfl (by decide) (by decide) hk1 hF vp_nil vd_nil
  have hP : va_P D vwCl [(h0, .inr (12, (fs.set 0 (.int 0)))), (m_queued, .inl (cT 0, 3, .inl (fun _ => 0))), (m_onNow, .inl (cT 0, 3, .inl mon))] _ := hP
  have hD : va_D A [(h0, .inr (12, (fs.set 0 (.int 0)))), (m_queued, .inl (cT 0, 3, .inl (fun _ => 0))), (m_onNow, .inl (cT 0, 3, .inl mon))] := hD
  refine lv_iconst (v := 1) hx hb dX12_floor_13 (by decide) ?_
  have g9 := wi_01 p0 0 100
  rw [← wr_1] at g9
  rcases g9 with rfl | rfl
  · have hF := va_free (wc := [(h0, .inr (12, (fs.set 0 (.int 0))))]) hD hS hA [0] rfl
    refine va_calli (va_runV (As := [.int 0, .int 1]) (rest := []) ⟨hx, hb, hml, hown, hts⟩ (c_X12_may_0_1 l D cT h0 (fs.set 0 (.int 0)) _ (by simp only [List.length_set]; exact hfs) (List.getElem?_set_self (by simp only [List.length_set, hfs]; decide))) (cwV 2 hts gX12_floor_X12_may rfl rfl rfl (by decide +kernel) ⟨Nat.le_of_ble_eq_true rfl, Nat.le_of_ble_eq_true rfl⟩) (pv_w hP hD hK hG [0] rfl rfl rfl 0 rfl rfl) rfl rfl hl.1 rfl (lv_room (Nat.le_of_ble_eq_true rfl)) dX12_floor_14 ⟨Nat.le_of_ble_eq_true rfl, Nat.le_of_ble_eq_true rfl⟩) hS (fun q _ h => hF q h) hF (fun r_2 uu9 tt9 H locs ht hvm wr_2 hB hz1 hk1 hS => ?_)
    obtain ⟨hP1, hD1⟩ := hB
    rw [ht] at hP1
    obtain ⟨hP, hD⟩ := va_join (wr := [(m_queued, .inl (cT 0, 3, .inl (fun _ => 0))), (m_onNow, .inl (cT 0, 3, .inl mon))]) (w1 := [(h0, .inr (12, ((fs.set 0 (.int 0)).set 0 (.int 1))))]) hP hD [0] [1, 2] rfl rfl (by decide) (by decide) hk1 hF hP1 hD1
    have hP : va_P D vwCl [(m_queued, .inl (cT 0, 3, .inl (fun _ => 0))), (m_onNow, .inl (cT 0, 3, .inl mon)), (h0, .inr (12, ((fs.set 0 (.int 0)).set 0 (.int 1))))] _ := hP
    have hD : va_D A [(m_queued, .inl (cT 0, 3, .inl (fun _ => 0))), (m_onNow, .inl (cT 0, 3, .inl mon)), (h0, .inr (12, ((fs.set 0 (.int 0)).set 0 (.int 1))))] := hD
    obtain rfl : r_2 = 0 := wr_2.trans (rfl)
    refine lv_if_ne (tgt := 22) hx hb dX12_floor_17 (by decide) (fun c9 => absurd c9 (by decide)) (fun _ => ?_)
    refine lv_iconst (v := 0) hx hb dX12_floor_20 (by decide) ?_
    have hP9 := hP.sub (ws' := [(h0, .inr (12, ((fs.set 0 (.int 0)).set 0 (.int 1))))]) [2] rfl
    have hD9 := hD.sub (ws' := [(h0, .inr (12, ((fs.set 0 (.int 0)).set 0 (.int 1))))]) [2] (by decide) rfl
    exact W.iret (v := 0) hx hb hr (fun t ht hW => ⟨⟨0, (), rfl, fun h => absurd h (by simp [th_floor, ← wr_1]), ⟨((fs.set 0 (.int 0)).set 0 (.int 1)), 1, by simp only [List.length_set]; exact hfs, List.getElem?_set_self (by simp only [List.length_set, hfs]; decide), by simp [th_floor, ← wr_1], by rw [ht]; exact hP9, hD9⟩⟩, hS.F ht⟩) hS.2.2 dX12_floor_21
  · have hF := va_free (wc := [(h0, .inr (12, (fs.set 0 (.int 0))))]) hD hS hA [0] rfl
    refine va_calli (va_runV (As := [.int 1, .int 1]) (rest := []) ⟨hx, hb, hml, hown, hts⟩ (c_X12_may_1 l D cT h0 1 (fs.set 0 (.int 0)) _ (by simp only [List.length_set]; exact hfs) (List.getElem?_set_self (by simp only [List.length_set, hfs]; decide))) (cwV 2 hts gX12_floor_X12_may rfl rfl rfl (by decide +kernel) ⟨Nat.le_of_ble_eq_true rfl, Nat.le_of_ble_eq_true rfl⟩) (pv_w hP hD hK hG [0] rfl rfl rfl 0 rfl rfl) rfl rfl hl.1 rfl (lv_room (Nat.le_of_ble_eq_true rfl)) dX12_floor_14 ⟨Nat.le_of_ble_eq_true rfl, Nat.le_of_ble_eq_true rfl⟩) hS (fun q _ h => hF q h) hF (fun r_3 uu9 tt9 H locs ht hvm wr_3 hB hz1 hk1 hS => ?_)
    obtain ⟨hP1, hD1⟩ := hB
    rw [ht] at hP1
    obtain ⟨hP, hD⟩ := va_join (wr := [(m_queued, .inl (cT 0, 3, .inl (fun _ => 0))), (m_onNow, .inl (cT 0, 3, .inl mon))]) (w1 := [(h0, .inr (12, (fs.set 0 (.int 0))))]) hP hD [0] [1, 2] rfl rfl (by decide) (by decide) hk1 hF hP1 hD1
    have hP : va_P D vwCl [(m_queued, .inl (cT 0, 3, .inl (fun _ => 0))), (m_onNow, .inl (cT 0, 3, .inl mon)), (h0, .inr (12, (fs.set 0 (.int 0))))] _ := hP
    have hD : va_D A [(m_queued, .inl (cT 0, 3, .inl (fun _ => 0))), (m_onNow, .inl (cT 0, 3, .inl mon)), (h0, .inr (12, (fs.set 0 (.int 0))))] := hD
    obtain rfl : r_3 = 1 := wr_3.trans (rfl)
    refine lv_if_ne (tgt := 22) hx hb dX12_floor_17 (by decide) (fun _ => ?_) (fun c9 => absurd c9 (by decide))
    refine lv_iconst (v := 0) hx hb dX12_floor_22 (by decide) ?_
    refine lv_istore_n (lv' := [(2, .int 0), (0, .ref h0), (1, .int p0)]) hx hb dX12_floor_23 rfl hl (by decide) rfl (fun ls hl => ?_)
    obtain ⟨N, rfl, hN⟩ := wi_nat wr_1
    have hN : N ≤ 100 := hN
    have key : ∀ (n k : Nat) (x9 h9 : Int32) (gg : List Value) (H : Heap) (locs : List Loc) (ls : Array Slot), k + n = N → x9 = nI k → h9 = nI k → gg.length = 109 → gg[0]? = some (.int 0) → gg[82]? = some (.int h9) → gg[93]? = some (.ref m_queued) → gg[95]? = some (.ref m_onNow) → va_P D vwCl [(h0, .inr (12, gg)), (m_queued, .inl (cT 0, 3, .inl (fun _ => 0))), (m_onNow, .inl (cT 0, 3, .inl mon))] H → va_D A [(h0, .inr (12, gg)), (m_queued, .inl (cT 0, 3, .inl (fun _ => 0))), (m_onNow, .inl (cT 0, 3, .inl mon))] → va_S A s.heap H locs → lv_has ls 3 [(2, .int x9), (0, .ref h0), (1, .int (nI N))] → W p l e (headSpec wsX12_floor ({ frames := 11, cells := 0, slots := 0, locals := 340 })).room s m #[.ref h0, .int (nI N)] below meth c H locs 0 0 (MQ below (va_Qi (fun (r : Int32) (_ : Unit) => th_floor (nI N) = 0 → r = (nI N)) (fun (_ : Unit) (t : State) => ∃ (gs : List Value), ∃ (tt : Int32), (gs.length = 109) ∧ (gs[0]? = some (.int tt)) ∧ (tt = th_floor (nI N)) ∧ va_P D vwCl [(h0, .inr (12, gs))] t.heap ∧ va_D A [(h0, .inr (12, gs))]) A) #[.ref h0, .int (nI N)] s 0 0 A) (F0 m 24 ls []) := by
      intro n
      induction n with
      | zero => 
          intro k x9 h9 gg H locs ls hk ex9 eh9 hgg hgg_0 hgg_82 hgg_93 hgg_95 hP hD hS hl
          refine lv_iload_n hx hb dX12_floor_24 rfl (lv_at hl 0 rfl) ?_
          refine lv_iload_n hx hb dX12_floor_25 rfl (lv_at hl 2 rfl) ?_
          refine lv_icmp_ge (tgt := 39) hx hb dX12_floor_26 (by decide) (fun c_4 => ?_) (fun c_4 => ((c_4 (by rw [ex9, show k = N by omega]; exact Int32.le_refl _) : False)).elim)
          refine lv_aload_n hx hb dX12_floor_39 rfl (lv_at hl 1 rfl) ?_
          refine va_get (D := D) (ci := 12) (v := .int h9) (C := RX12) (T := TX12) (N := 109) hx hb hts (fun _ h => List.mem_cons_of_mem _ (List.mem_append_right _ h)) hown hK hP 0 rfl rfl 82 (by decide) (hts (.fieldLink RX12 513 "PuppetFilmModel" "half" "I") (List.mem_of_getElem? (i := 2) (by decide +kernel))) (fun _ h9 => h9) (hgg_82) dX12_floor_40 ?_
          have hP9 := hP.sub (ws' := [(h0, .inr (12, gg))]) [0] rfl
          have hD9 := hD.sub (ws' := [(h0, .inr (12, gg))]) [0] (by decide) rfl
          exact W.iret (v := h9) hx hb hr (fun t ht hW => ⟨⟨h9, (), rfl, fun _ => by rw [eh9, show k = N by omega], ⟨gg, 0, hgg, hgg_0, by simp [th_floor, ← wr_1], by rw [ht]; exact hP9, hD9⟩⟩, hS.F ht⟩) hS.2.2 dX12_floor_43
      | succ n ih => 
          intro k x9 h9 gg H locs ls hk ex9 eh9 hgg hgg_0 hgg_82 hgg_93 hgg_95 hP hD hS hl
          refine lv_iload_n hx hb dX12_floor_24 rfl (lv_at hl 0 rfl) ?_
          refine lv_iload_n hx hb dX12_floor_25 rfl (lv_at hl 2 rfl) ?_
          refine lv_icmp_ge (tgt := 39) hx hb dX12_floor_26 (by decide) (fun c_5 => ((nI_ge (show k < N by omega) (by omega) (by rw [← ex9]; exact c_5) : False)).elim) (fun c_5 => ?_)
          refine lv_aload_n hx hb dX12_floor_29 rfl (lv_at hl 1 rfl) ?_
          have hF := va_free (wc := [(h0, .inr (12, gg)), (m_queued, .inl (cT 0, 3, .inl (fun _ => 0))), (m_onNow, .inl (cT 0, 3, .inl mon))]) hD hS hA [0, 1, 2] rfl
          refine va_callv (va_runV (As := []) (rest := []) ⟨hx, hb, hml, hown, hts⟩ (c_X12_floorHalf l D cT h0 gg 0 h9 m_queued m_onNow mon _ (by assumption) (hgg) (hgg_0) (hgg_82) (hgg_93) (hgg_95)) (cwV 0 hts gX12_floor_X12_floorHalf rfl rfl rfl (by decide +kernel) ⟨Nat.le_of_ble_eq_true rfl, Nat.le_of_ble_eq_true rfl⟩) (pv_w hP hD hK hG [0, 1, 2] rfl rfl rfl 0 rfl rfl) rfl rfl hl.1 rfl (lv_room (Nat.le_of_ble_eq_true rfl)) dX12_floor_30 ⟨Nat.le_of_ble_eq_true rfl, Nat.le_of_ble_eq_true rfl⟩) hS (fun q _ h => hF q h) hF (fun uu9 tt9 H locs ht hvm wr_6 hB hz1 hk1 hS => ?_)
          obtain ⟨gs_7, h2_8, hgs_7, hgs_7_0, hgs_7_82, hgs_7_93, hgs_7_95, k_14, hP1, hD1⟩ := hB
          rw [ht] at hP1
          obtain ⟨hP, hD⟩ := va_join (wr := []) (w1 := [(h0, .inr (12, gs_7)), (m_queued, .inl (cT 0, 3, .inl (fun _ => 0))), (m_onNow, .inl (cT 0, 3, .inl mon))]) hP hD [0, 1, 2] [] rfl rfl (by decide) (by decide) hk1 hF hP1 hD1
          have hP : va_P D vwCl [(h0, .inr (12, gs_7)), (m_queued, .inl (cT 0, 3, .inl (fun _ => 0))), (m_onNow, .inl (cT 0, 3, .inl mon))] _ := hP
          have hD : va_D A [(h0, .inr (12, gs_7)), (m_queued, .inl (cT 0, 3, .inl (fun _ => 0))), (m_onNow, .inl (cT 0, 3, .inl mon))] := hD
          obtain ⟨x_15, ex_15⟩ : ∃ y : Int32, y = x9 + 1 := ⟨_, rfl⟩
          refine lv_iinc (v := x_15) (lv' := [(2, .int x_15), (0, .ref h0), (1, .int (nI N))]) hx hb dX12_floor_33 hl (k := 0) rfl (by rw [ex_15]; rfl) (by decide) rfl (fun ls hl => ?_)
          refine lv_goto (tgt := 24) hx hb dX12_floor_36 (by decide) ?_
          exact ih (k + 1) x_15 h2_8 _ _ _ ls (by omega) (by rw [ex_15, ex9]; exact nI_1 k) (by rw [k_14, eh9]; exact nI_1 k) hgs_7 (hgs_7_0) (hgs_7_82) (hgs_7_93) (hgs_7_95) (hP.sub (ws' := [(h0, .inr (12, gs_7)), (m_queued, .inl (cT 0, 3, .inl (fun _ => 0))), (m_onNow, .inl (cT 0, 3, .inl mon))]) [0, 1, 2] rfl) (hD.sub (ws' := [(h0, .inr (12, gs_7)), (m_queued, .inl (cT 0, 3, .inl (fun _ => 0))), (m_onNow, .inl (cT 0, 3, .inl mon))]) [0, 1, 2] (by decide) rfl) hS (lv_sub hl [0, 1, 2] rfl)
    exact key N 0 0 0 _ _ _ ls (Nat.zero_add N) rfl rfl (by simp only [List.length_set]; exact hfs) (List.getElem?_set_self (by simp only [List.length_set, hfs]; decide)) ((List.getElem?_set_ne (by decide)).trans (hfs_82)) ((List.getElem?_set_ne (by decide)).trans (hfs_93)) ((List.getElem?_set_ne (by decide)).trans (hfs_95)) (hP.sub (ws' := [(h0, .inr (12, (fs.set 0 (.int 0)))), (m_queued, .inl (cT 0, 3, .inl (fun _ => 0))), (m_onNow, .inl (cT 0, 3, .inl mon))]) [2, 0, 1] rfl) (hD.sub (ws' := [(h0, .inr (12, (fs.set 0 (.int 0)))), (m_queued, .inl (cT 0, 3, .inl (fun _ => 0))), (m_onNow, .inl (cT 0, 3, .inl mon))]) [2, 0, 1] (by decide) rfl) hS (lv_sub hl [0, 1, 2] rfl)
