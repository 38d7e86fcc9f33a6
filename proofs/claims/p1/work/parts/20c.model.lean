theorem dX12_set_0 : decode cX12_set 0 = .ok (.aload_n 0, 1) := by decide +kernel
theorem dX12_set_1 : decode cX12_set 1 = .ok (.iconst 0, 1) := by decide +kernel
theorem dX12_set_10 : decode cX12_set 10 = .ok (.iconst 0, 1) := by decide +kernel
theorem dX12_set_100 : decode cX12_set 100 = .ok (.iconst 0, 1) := by decide +kernel
theorem dX12_set_101 : decode cX12_set 101 = .ok (.istore 6, 2) := by decide +kernel
theorem dX12_set_103 : decode cX12_set 103 = .ok (.aload_n 0, 1) := by decide +kernel
theorem dX12_set_104 : decode cX12_set 104 = .ok (.iload 4, 2) := by decide +kernel
theorem dX12_set_106 : decode cX12_set 106 = .ok (.ifCond .ne 13, 3) := by decide +kernel
theorem dX12_set_109 : decode cX12_set 109 = .ok (.iload 5, 2) := by decide +kernel
theorem dX12_set_11 : decode cX12_set 11 = .ok (.iconst 2, 1) := by decide +kernel
theorem dX12_set_111 : decode cX12_set 111 = .ok (.ifCond .ne 8, 3) := by decide +kernel
theorem dX12_set_114 : decode cX12_set 114 = .ok (.iload 6, 2) := by decide +kernel
theorem dX12_set_116 : decode cX12_set 116 = .ok (.ifCond .eq 7, 3) := by decide +kernel
theorem dX12_set_119 : decode cX12_set 119 = .ok (.iconst 1, 1) := by decide +kernel
theorem dX12_set_12 : decode cX12_set 12 = .ok (.invokestatic 267, 3) := by decide +kernel
theorem dX12_set_120 : decode cX12_set 120 = .ok (.goto 4, 3) := by decide +kernel
theorem dX12_set_123 : decode cX12_set 123 = .ok (.iconst 0, 1) := by decide +kernel
theorem dX12_set_124 : decode cX12_set 124 = .ok (.iconst 1, 1) := by decide +kernel
theorem dX12_set_125 : decode cX12_set 125 = .ok (.invokevirtual 271, 3) := by decide +kernel
theorem dX12_set_128 : decode cX12_set 128 = .ok (.ifCond .ne 5, 3) := by decide +kernel
theorem dX12_set_131 : decode cX12_set 131 = .ok (.iconst 0, 1) := by decide +kernel
theorem dX12_set_132 : decode cX12_set 132 = .ok (.ireturn, 1) := by decide +kernel
theorem dX12_set_133 : decode cX12_set 133 = .ok (.iload 4, 2) := by decide +kernel
theorem dX12_set_135 : decode cX12_set 135 = .ok (.ifCond .eq 12, 3) := by decide +kernel
theorem dX12_set_138 : decode cX12_set 138 = .ok (.aload_n 0, 1) := by decide +kernel
theorem dX12_set_139 : decode cX12_set 139 = .ok (.getfield 156, 3) := by decide +kernel
theorem dX12_set_142 : decode cX12_set 142 = .ok (.iload_n 2, 1) := by decide +kernel
theorem dX12_set_143 : decode cX12_set 143 = .ok (.iaload, 1) := by decide +kernel
theorem dX12_set_144 : decode cX12_set 144 = .ok (.goto 23, 3) := by decide +kernel
theorem dX12_set_147 : decode cX12_set 147 = .ok (.iload 5, 2) := by decide +kernel
theorem dX12_set_149 : decode cX12_set 149 = .ok (.ifCond .eq 12, 3) := by decide +kernel
theorem dX12_set_15 : decode cX12_set 15 = .ok (.ifCond .eq 17, 3) := by decide +kernel
theorem dX12_set_152 : decode cX12_set 152 = .ok (.aload_n 0, 1) := by decide +kernel
theorem dX12_set_153 : decode cX12_set 153 = .ok (.getfield 159, 3) := by decide +kernel
theorem dX12_set_156 : decode cX12_set 156 = .ok (.iload_n 2, 1) := by decide +kernel
theorem dX12_set_157 : decode cX12_set 157 = .ok (.iaload, 1) := by decide +kernel
theorem dX12_set_158 : decode cX12_set 158 = .ok (.goto 9, 3) := by decide +kernel
theorem dX12_set_167 : decode cX12_set 167 = .ok (.istore 7, 2) := by decide +kernel
theorem dX12_set_169 : decode cX12_set 169 = .ok (.iload 4, 2) := by decide +kernel
theorem dX12_set_171 : decode cX12_set 171 = .ok (.ifCond .eq 10, 3) := by decide +kernel
theorem dX12_set_174 : decode cX12_set 174 = .ok (.aload_n 0, 1) := by decide +kernel
theorem dX12_set_175 : decode cX12_set 175 = .ok (.getfield 156, 3) := by decide +kernel
theorem dX12_set_178 : decode cX12_set 178 = .ok (.iload_n 2, 1) := by decide +kernel
theorem dX12_set_179 : decode cX12_set 179 = .ok (.iload_n 3, 1) := by decide +kernel
theorem dX12_set_18 : decode cX12_set 18 = .ok (.iload_n 3, 1) := by decide +kernel
theorem dX12_set_180 : decode cX12_set 180 = .ok (.iastore, 1) := by decide +kernel
theorem dX12_set_181 : decode cX12_set 181 = .ok (.iload 5, 2) := by decide +kernel
theorem dX12_set_183 : decode cX12_set 183 = .ok (.ifCond .eq 10, 3) := by decide +kernel
theorem dX12_set_186 : decode cX12_set 186 = .ok (.aload_n 0, 1) := by decide +kernel
theorem dX12_set_187 : decode cX12_set 187 = .ok (.getfield 159, 3) := by decide +kernel
theorem dX12_set_19 : decode cX12_set 19 = .ok (.iconst 1, 1) := by decide +kernel
theorem dX12_set_190 : decode cX12_set 190 = .ok (.iload_n 2, 1) := by decide +kernel
theorem dX12_set_191 : decode cX12_set 191 = .ok (.iload_n 3, 1) := by decide +kernel
theorem dX12_set_192 : decode cX12_set 192 = .ok (.iastore, 1) := by decide +kernel
theorem dX12_set_193 : decode cX12_set 193 = .ok (.iload 6, 2) := by decide +kernel
theorem dX12_set_195 : decode cX12_set 195 = .ok (.ifCond .eq 10, 3) := by decide +kernel
theorem dX12_set_2 : decode cX12_set 2 = .ok (.putfield 1, 3) := by decide +kernel
theorem dX12_set_20 : decode cX12_set 20 = .ok (.bipush 100, 2) := by decide +kernel
theorem dX12_set_205 : decode cX12_set 205 = .ok (.iload 7, 2) := by decide +kernel
theorem dX12_set_207 : decode cX12_set 207 = .ok (.ireturn, 1) := by decide +kernel
theorem dX12_set_22 : decode cX12_set 22 = .ok (.invokestatic 267, 3) := by decide +kernel
theorem dX12_set_25 : decode cX12_set 25 = .ok (.ifCond .eq 7, 3) := by decide +kernel
theorem dX12_set_28 : decode cX12_set 28 = .ok (.iconst 1, 1) := by decide +kernel
theorem dX12_set_29 : decode cX12_set 29 = .ok (.goto 4, 3) := by decide +kernel
theorem dX12_set_32 : decode cX12_set 32 = .ok (.iconst 0, 1) := by decide +kernel
theorem dX12_set_33 : decode cX12_set 33 = .ok (.istore 4, 2) := by decide +kernel
theorem dX12_set_35 : decode cX12_set 35 = .ok (.iload_n 1, 1) := by decide +kernel
theorem dX12_set_36 : decode cX12_set 36 = .ok (.iconst 1, 1) := by decide +kernel
theorem dX12_set_37 : decode cX12_set 37 = .ok (.if_icmp .ne 27, 3) := by decide +kernel
theorem dX12_set_40 : decode cX12_set 40 = .ok (.iload_n 2, 1) := by decide +kernel
theorem dX12_set_41 : decode cX12_set 41 = .ok (.iconst 0, 1) := by decide +kernel
theorem dX12_set_42 : decode cX12_set 42 = .ok (.bipush 7, 2) := by decide +kernel
theorem dX12_set_44 : decode cX12_set 44 = .ok (.invokestatic 267, 3) := by decide +kernel
theorem dX12_set_47 : decode cX12_set 47 = .ok (.ifCond .eq 17, 3) := by decide +kernel
theorem dX12_set_5 : decode cX12_set 5 = .ok (.iload_n 1, 1) := by decide +kernel
theorem dX12_set_50 : decode cX12_set 50 = .ok (.iload_n 3, 1) := by decide +kernel
theorem dX12_set_51 : decode cX12_set 51 = .ok (.iconst 0, 1) := by decide +kernel
theorem dX12_set_52 : decode cX12_set 52 = .ok (.bipush 20, 2) := by decide +kernel
theorem dX12_set_54 : decode cX12_set 54 = .ok (.invokestatic 267, 3) := by decide +kernel
theorem dX12_set_57 : decode cX12_set 57 = .ok (.ifCond .eq 7, 3) := by decide +kernel
theorem dX12_set_6 : decode cX12_set 6 = .ok (.ifCond .ne 26, 3) := by decide +kernel
theorem dX12_set_60 : decode cX12_set 60 = .ok (.iconst 1, 1) := by decide +kernel
theorem dX12_set_61 : decode cX12_set 61 = .ok (.goto 4, 3) := by decide +kernel
theorem dX12_set_64 : decode cX12_set 64 = .ok (.iconst 0, 1) := by decide +kernel
theorem dX12_set_65 : decode cX12_set 65 = .ok (.istore 5, 2) := by decide +kernel
theorem dX12_set_67 : decode cX12_set 67 = .ok (.iload_n 1, 1) := by decide +kernel
theorem dX12_set_68 : decode cX12_set 68 = .ok (.iconst 2, 1) := by decide +kernel
theorem dX12_set_69 : decode cX12_set 69 = .ok (.if_icmp .ne 31, 3) := by decide +kernel
theorem dX12_set_72 : decode cX12_set 72 = .ok (.iload_n 2, 1) := by decide +kernel
theorem dX12_set_73 : decode cX12_set 73 = .ok (.iconst 0, 1) := by decide +kernel
theorem dX12_set_74 : decode cX12_set 74 = .ok (.aload_n 0, 1) := by decide +kernel
theorem dX12_set_75 : decode cX12_set 75 = .ok (.getfield 398, 3) := by decide +kernel
theorem dX12_set_78 : decode cX12_set 78 = .ok (.iconst 1, 1) := by decide +kernel
theorem dX12_set_79 : decode cX12_set 79 = .ok (.isub, 1) := by decide +kernel
theorem dX12_set_80 : decode cX12_set 80 = .ok (.invokestatic 267, 3) := by decide +kernel
theorem dX12_set_83 : decode cX12_set 83 = .ok (.ifCond .eq 17, 3) := by decide +kernel
theorem dX12_set_9 : decode cX12_set 9 = .ok (.iload_n 2, 1) := by decide +kernel
set_option maxRecDepth 20000 in
theorem ggX12_set_X12_may : GoodIn wsX12_set wsX12_may := goodIn_r _ [13, 1, 14, 15, 16, 17, 18, 19, 20, 21, 22, 23, 24, 25, 26, 27, 28, 29, 30, 31, 32, 33, 34, 35, 36, 37, 38, 39, 40, 41, 42, 43, 44, 45, 46, 47, 48, 49, 50, 51, 52, 53, 54, 55, 56, 57, 58, 59, 60, 61, 62, 63, 64, 65, 66, 67, 68, 69, 70, 71, 72, 73, 74, 75, 76, 77, 78, 79, 80, 81, 82, 83, 84, 85, 86, 87, 88, 89, 90, 91, 92, 93, 94, 95, 96, 97, 98, 99, 100, 101, 102, 103, 104, 105, 106, 107, 108, 109, 110, 111, 112, 113, 114, 115, 116, 117, 118, 119, 120, 121, 122] (by decide +kernel) (by decide +kernel)
set_option maxRecDepth 20000 in
theorem gX12_set_X12_may : GoodIn wsX12_set (wsV RX12 271 RX12 yX12_may wsX12_may) := goodIn_app (goodIn_of _ (by decide +kernel)) ggX12_set_X12_may
set_option maxRecDepth 20000 in
theorem ggX12_set_X12_within : GoodIn wsX12_set wsX12_within := goodIn_r _ [9] (by decide +kernel) (by decide +kernel)
set_option maxRecDepth 20000 in
theorem gX12_set_X12_within : GoodIn wsX12_set (va_wsS RX12 267 yX12_within wsX12_within) := goodIn_app (goodIn_of _ (by decide +kernel)) ggX12_set_X12_within
set_option maxHeartbeats 4000000 in
set_option maxRecDepth 100000 in
theorem c_X12_set (l : Launch) (D : va_G) (cT : Nat → ClassId) (h0 : Nat) (p0 : Int32) (p1 : Int32) (p2 : Int32) (fs : List Value) (m_th : Int32) (m_rate : Nat) (m_dress : Nat) (mra : Nat → Int32) (mdr : Nat → Int32) (sz : Nat) (hra : ∀ k, k < 3 → mra k = 10) (hdr : ∀ k, k < 8 → mdr k = 1) (hfs : fs.length = 109) (hfs_0 : fs[0]? = some (.int m_th)) (hfs_38 : fs[38]? = some (.int 0)) (hfs_64 : fs[64]? = some (.ref m_rate)) (hfs_65 : fs[65]? = some (.ref m_dress)) : Met l yX12_set wsX12_set ({ frames := 9, cells := 0, slots := 0, locals := 220 }) (va_Pc [.ref h0, .int p0, .int p1, .int p2] (PW D cT [(h0, .inr (12, fs)), (m_rate, .inl (cT 0, 3, .inl mra)), (m_dress, .inl (cT 0, 8, .inl mdr))] sz)) (va_Qi (fun (r : Int32) (_ : Unit) => th_set p0 p1 p2 = 0 → r = vl_set p0) (fun (_ : Unit) (t : State) => ∃ (gs : List Value), ∃ (tt : Int32), (gs.length = 109) ∧ (gs[0]? = some (.int tt)) ∧ (tt = th_set p0 p1 p2) ∧ va_P D vwCl [(h0, .inr (12, gs))] t.heap ∧ va_D (va_A [(h0, .inr (12, fs)), (m_rate, .inl (cT 0, 3, .inl mra)), (m_dress, .inl (cT 0, 8, .inl mdr))] sz) [(h0, .inr (12, gs))]) (va_A [(h0, .inr (12, fs)), (m_rate, .inl (cT 0, 3, .inl mra)), (m_dress, .inl (cT 0, 8, .inl mdr))] sz)) 0 0 (va_A [(h0, .inr (12, fs)), (m_rate, .inl (cT 0, 3, .inl mra)), (m_dress, .inl (cT 0, 8, .inl mdr))] sz) := by
  refine Met.ofW (cc := cX12_set) (maxL := 8) (ret := (some .int)) (by decide) rfl ?_
  intro p e s m args below meth c s₁ B hml hv
  obtain ⟨rfl, hsz, hP, hK, hD0, hG⟩ := hv
  have hx := B.exec
  have hb := B.bytes
  have hr := B.returns
  have hts := atoms_spec (ws := wsX12_set) B.pre
  have hown : s.vm.findClass RX12 = some m.cls := findClass_of_methodNamed B.named
  have hlocks := B.notSynchronized
  subst hsz
  have hD := hD0.self (sz := s.heap.size)
  generalize hAe : va_A [(h0, .inr (12, fs)), (m_rate, .inl (cT 0, 3, .inl mra)), (m_dress, .inl (cT 0, 8, .inl mdr))] s.heap.size = A at hD ⊢
  have hA : ∀ q : Nat, s.heap.size ≤ q → A q := fun q h => by rw [← hAe]; exact Or.inr h
  have hS : va_S A s.heap s.heap [] := va_S.rf
  have hP : va_P D vwCl [(h0, .inr (12, fs)), (m_rate, .inl (cT 0, 3, .inl mra)), (m_dress, .inl (cT 0, 8, .inl mdr))] s.heap := hP
  have hl := lv_entry ([.ref h0, .int p0, .int p1, .int p2]) (n := 8) (Nat.le_of_ble_eq_true rfl)
  rw [lg_entry_eq]
  generalize (lg_sl ([.ref h0, .int p0, .int p1, .int p2]) ++ List.replicate (8 - (lg_sl ([.ref h0, .int p0, .int p1, .int p2])).length) Slot.unset).toArray = ls at hl ⊢
  have hl : lv_has ls 8 [(0, .ref h0), (1, .int p0), (2, .int p1), (3, .int p2)] := hl
  refine lv_aload_n hx hb dX12_set_0 rfl (lv_at hl 0 rfl) ?_
  refine lv_iconst (v := 0) hx hb dX12_set_1 (by decide) ?_
  refine va_put (D := D) (ci := 12) (v := .int 0) (ty := .int) (C := RX12) (T := TX12) (N := 109) hx hb hts (fun _ h => List.mem_cons_of_mem _ (List.mem_append_right _ h)) tyX12 tyX12_ok nmX12 hown hK hP hD hS 0 rfl rfl 0 (by decide) (hts (.fieldLink RX12 1 "PuppetFilmModel" "thrown" "I") (List.mem_of_getElem? (i := 1) (by decide +kernel))) (fun _ h9 => h9) rfl (by decide +kernel) rfl rfl (by simp only [List.length_set, hfs]; decide) dX12_set_2 (fun H locs hP hD hS => ?_)
  have hP : va_P D vwCl [(h0, .inr (12, (fs.set 0 (.int 0)))), (m_rate, .inl (cT 0, 3, .inl mra)), (m_dress, .inl (cT 0, 8, .inl mdr))] _ := hP
  have hD : va_D A [(h0, .inr (12, (fs.set 0 (.int 0)))), (m_rate, .inl (cT 0, 3, .inl mra)), (m_dress, .inl (cT 0, 8, .inl mdr))] := hD
  refine lv_iload_n hx hb dX12_set_5 rfl (lv_at hl 1 rfl) ?_
  refine lv_if_ne (tgt := 32) hx hb dX12_set_6 (by decide) (fun c_1 => ?_) (fun c_1 => ?_)
  · refine lv_iconst (v := 0) hx hb dX12_set_32 (by decide) ?_
    refine lv_istore (lv' := [(4, .int 0), (0, .ref h0), (1, .int p0), (2, .int p1), (3, .int p2)]) hx hb dX12_set_33 hl (by decide) rfl (fun ls hl => ?_)
    refine lv_iload_n hx hb dX12_set_35 rfl (lv_at hl 2 rfl) ?_
    refine lv_iconst (v := 1) hx hb dX12_set_36 (by decide) ?_
    refine lv_icmp_ne (tgt := 64) hx hb dX12_set_37 (by decide) (fun c_2 => ?_) (fun c_2 => ?_)
    · refine lv_iconst (v := 0) hx hb dX12_set_64 (by decide) ?_
      refine lv_istore (lv' := [(5, .int 0), (4, .int 0), (0, .ref h0), (1, .int p0), (2, .int p1), (3, .int p2)]) hx hb dX12_set_65 hl (by decide) rfl (fun ls hl => ?_)
      refine lv_iload_n hx hb dX12_set_67 rfl (lv_at hl 3 rfl) ?_
      refine lv_iconst (v := 2) hx hb dX12_set_68 (by decide) ?_
      refine lv_icmp_ne (tgt := 100) hx hb dX12_set_69 (by decide) (fun c_3 => ?_) (fun c_3 => ?_)
      · refine lv_iconst (v := 0) hx hb dX12_set_100 (by decide) ?_
        refine lv_istore (lv' := [(6, .int 0), (5, .int 0), (4, .int 0), (0, .ref h0), (1, .int p0), (2, .int p1), (3, .int p2)]) hx hb dX12_set_101 hl (by decide) rfl (fun ls hl => ?_)
        refine lv_aload_n hx hb dX12_set_103 rfl (lv_at hl 3 rfl) ?_
        refine lv_iload hx hb dX12_set_104 (lv_at hl 2 rfl) ?_
        refine lv_if_ne (tgt := 119) hx hb dX12_set_106 (by decide) (fun c9 => absurd c9 (by decide)) (fun _ => ?_)
        refine lv_iload hx hb dX12_set_109 (lv_at hl 1 rfl) ?_
        refine lv_if_ne (tgt := 119) hx hb dX12_set_111 (by decide) (fun c9 => absurd c9 (by decide)) (fun _ => ?_)
        refine lv_iload hx hb dX12_set_114 (lv_at hl 0 rfl) ?_
        refine lv_if_eq (tgt := 123) hx hb dX12_set_116 (by decide) (fun _ => ?_) (fun c9 => absurd c9 (by decide))
        refine lv_iconst (v := 0) hx hb dX12_set_123 (by decide) ?_
        refine lv_iconst (v := 1) hx hb dX12_set_124 (by decide) ?_
        have hF := va_free (wc := [(h0, .inr (12, (fs.set 0 (.int 0))))]) hD hS hA [0] rfl
        refine va_calli (va_runV (As := [.int 0, .int 1]) (rest := []) ⟨hx, hb, hml, hown, hts⟩ (c_X12_may_0_1 l D cT h0 (fs.set 0 (.int 0)) _ (by simp only [List.length_set]; exact hfs) (List.getElem?_set_self (by simp only [List.length_set, hfs]; decide))) (cwV 2 hts gX12_set_X12_may rfl rfl rfl (by decide +kernel) ⟨Nat.le_of_ble_eq_true rfl, Nat.le_of_ble_eq_true rfl⟩) (pv_w hP hD hK hG [0] rfl rfl rfl 0 rfl rfl) rfl rfl hl.1 rfl (lv_room (Nat.le_of_ble_eq_true rfl)) dX12_set_125 ⟨Nat.le_of_ble_eq_true rfl, Nat.le_of_ble_eq_true rfl⟩) hS (fun q _ h => hF q h) hF (fun r_4 uu9 tt9 H locs ht hvm wr_4 hB hz1 hk1 hS => ?_)
        obtain ⟨hP1, hD1⟩ := hB
        rw [ht] at hP1
        obtain ⟨hP, hD⟩ := va_join (wr := [(m_rate, .inl (cT 0, 3, .inl mra)), (m_dress, .inl (cT 0, 8, .inl mdr))]) (w1 := [(h0, .inr (12, ((fs.set 0 (.int 0)).set 0 (.int 1))))]) hP hD [0] [1, 2] rfl rfl (by decide) (by decide) hk1 hF hP1 hD1
        have hP : va_P D vwCl [(m_rate, .inl (cT 0, 3, .inl mra)), (m_dress, .inl (cT 0, 8, .inl mdr)), (h0, .inr (12, ((fs.set 0 (.int 0)).set 0 (.int 1))))] _ := hP
        have hD : va_D A [(m_rate, .inl (cT 0, 3, .inl mra)), (m_dress, .inl (cT 0, 8, .inl mdr)), (h0, .inr (12, ((fs.set 0 (.int 0)).set 0 (.int 1))))] := hD
        obtain rfl : r_4 = 0 := wr_4.trans (rfl)
        refine lv_if_ne (tgt := 133) hx hb dX12_set_128 (by decide) (fun c9 => absurd c9 (by decide)) (fun _ => ?_)
        refine lv_iconst (v := 0) hx hb dX12_set_131 (by decide) ?_
        have hP9 := hP.sub (ws' := [(h0, .inr (12, ((fs.set 0 (.int 0)).set 0 (.int 1))))]) [2] rfl
        have hD9 := hD.sub (ws' := [(h0, .inr (12, ((fs.set 0 (.int 0)).set 0 (.int 1))))]) [2] (by decide) rfl
        exact W.iret (v := 0) hx hb hr (fun t ht hW => ⟨⟨0, (), rfl, by simp [th_set, vl_set, c_1, c_2, c_3], ⟨((fs.set 0 (.int 0)).set 0 (.int 1)), 1, by simp only [List.length_set]; exact hfs, List.getElem?_set_self (by simp only [List.length_set, hfs]; decide), by simp [th_set, c_1, c_2, c_3], by rw [ht]; exact hP9, hD9⟩⟩, hS.F ht⟩) hS.2.2 dX12_set_132
      · refine lv_iload_n hx hb dX12_set_72 rfl (lv_at hl 4 rfl) ?_
        refine lv_iconst (v := 0) hx hb dX12_set_73 (by decide) ?_
        refine lv_aload_n hx hb dX12_set_74 rfl (lv_at hl 2 rfl) ?_
        refine va_get (D := D) (ci := 12) (v := .int 0) (C := RX12) (T := TX12) (N := 109) hx hb hts (fun _ h => List.mem_cons_of_mem _ (List.mem_append_right _ h)) hown hK hP 0 rfl rfl 38 (by decide) (hts (.fieldLink RX12 398 "PuppetFilmModel" "shots" "I") (List.mem_of_getElem? (i := 2) (by decide +kernel))) (fun _ h9 => h9) ((List.getElem?_set_ne (by decide)).trans (hfs_38)) dX12_set_75 ?_
        refine lv_iconst (v := 1) hx hb dX12_set_78 (by decide) ?_
        refine lv_isub hx hb dX12_set_79 ?_
        refine lv_topi (fun z_5 ez_5 => ?_)
        obtain rfl : z_5 = (-1) := ez_5.trans (by decide)
        have hF := va_free (wc := []) hD hS hA [] rfl
        refine va_calli (va_runS (As := [.int p1, .int 0, .int (-1)]) (rest := []) ⟨hx, hb, hml, hown, hts⟩ (c_X12_within l D cT p1 0 (-1) _ ) (va_cwS 3 hts gX12_set_X12_within rfl rfl rfl (by decide +kernel) ⟨Nat.le_of_ble_eq_true rfl, Nat.le_of_ble_eq_true rfl⟩) (ps_w hP hD hK hG [] rfl rfl rfl) rfl rfl hl.1 rfl (lv_room (Nat.le_of_ble_eq_true rfl)) dX12_set_80 ⟨Nat.le_of_ble_eq_true rfl, Nat.le_of_ble_eq_true rfl⟩) hS (fun q _ h => hF q h) hF (fun r_6 uu9 tt9 H locs ht hvm wr_6 hB hz1 hk1 hS => ?_)
        obtain ⟨hP, hD⟩ := va_join (wr := [(h0, .inr (12, (fs.set 0 (.int 0)))), (m_rate, .inl (cT 0, 3, .inl mra)), (m_dress, .inl (cT 0, 8, .inl mdr))]) (w1 := []) hP hD [] [0, 1, 2] rfl rfl (by decide) (by decide) hk1 hF vp_nil vd_nil
        have hP : va_P D vwCl [(h0, .inr (12, (fs.set 0 (.int 0)))), (m_rate, .inl (cT 0, 3, .inl mra)), (m_dress, .inl (cT 0, 8, .inl mdr))] _ := hP
        have hD : va_D A [(h0, .inr (12, (fs.set 0 (.int 0)))), (m_rate, .inl (cT 0, 3, .inl mra)), (m_dress, .inl (cT 0, 8, .inl mdr))] := hD
        obtain rfl : r_6 = 0 := wr_6.trans (wi_no (by decide))
        refine lv_if_eq (tgt := 100) hx hb dX12_set_83 (by decide) (fun _ => ?_) (fun c9 => absurd c9 (by decide))
        refine lv_iconst (v := 0) hx hb dX12_set_100 (by decide) ?_
        refine lv_istore (lv' := [(6, .int 0), (5, .int 0), (4, .int 0), (0, .ref h0), (1, .int p0), (2, .int p1), (3, .int p2)]) hx hb dX12_set_101 hl (by decide) rfl (fun ls hl => ?_)
        refine lv_aload_n hx hb dX12_set_103 rfl (lv_at hl 3 rfl) ?_
        refine lv_iload hx hb dX12_set_104 (lv_at hl 2 rfl) ?_
        refine lv_if_ne (tgt := 119) hx hb dX12_set_106 (by decide) (fun c9 => absurd c9 (by decide)) (fun _ => ?_)
        refine lv_iload hx hb dX12_set_109 (lv_at hl 1 rfl) ?_
        refine lv_if_ne (tgt := 119) hx hb dX12_set_111 (by decide) (fun c9 => absurd c9 (by decide)) (fun _ => ?_)
        refine lv_iload hx hb dX12_set_114 (lv_at hl 0 rfl) ?_
        refine lv_if_eq (tgt := 123) hx hb dX12_set_116 (by decide) (fun _ => ?_) (fun c9 => absurd c9 (by decide))
        refine lv_iconst (v := 0) hx hb dX12_set_123 (by decide) ?_
        refine lv_iconst (v := 1) hx hb dX12_set_124 (by decide) ?_
        have hF := va_free (wc := [(h0, .inr (12, (fs.set 0 (.int 0))))]) hD hS hA [0] rfl
        refine va_calli (va_runV (As := [.int 0, .int 1]) (rest := []) ⟨hx, hb, hml, hown, hts⟩ (c_X12_may_0_1 l D cT h0 (fs.set 0 (.int 0)) _ (by simp only [List.length_set]; exact hfs) (List.getElem?_set_self (by simp only [List.length_set, hfs]; decide))) (cwV 2 hts gX12_set_X12_may rfl rfl rfl (by decide +kernel) ⟨Nat.le_of_ble_eq_true rfl, Nat.le_of_ble_eq_true rfl⟩) (pv_w hP hD hK hG [0] rfl rfl rfl 0 rfl rfl) rfl rfl hl.1 rfl (lv_room (Nat.le_of_ble_eq_true rfl)) dX12_set_125 ⟨Nat.le_of_ble_eq_true rfl, Nat.le_of_ble_eq_true rfl⟩) hS (fun q _ h => hF q h) hF (fun r_7 uu9 tt9 H locs ht hvm wr_7 hB hz1 hk1 hS => ?_)
        obtain ⟨hP1, hD1⟩ := hB
        rw [ht] at hP1
        obtain ⟨hP, hD⟩ := va_join (wr := [(m_rate, .inl (cT 0, 3, .inl mra)), (m_dress, .inl (cT 0, 8, .inl mdr))]) (w1 := [(h0, .inr (12, ((fs.set 0 (.int 0)).set 0 (.int 1))))]) hP hD [0] [1, 2] rfl rfl (by decide) (by decide) hk1 hF hP1 hD1
        have hP : va_P D vwCl [(m_rate, .inl (cT 0, 3, .inl mra)), (m_dress, .inl (cT 0, 8, .inl mdr)), (h0, .inr (12, ((fs.set 0 (.int 0)).set 0 (.int 1))))] _ := hP
        have hD : va_D A [(m_rate, .inl (cT 0, 3, .inl mra)), (m_dress, .inl (cT 0, 8, .inl mdr)), (h0, .inr (12, ((fs.set 0 (.int 0)).set 0 (.int 1))))] := hD
        obtain rfl : r_7 = 0 := wr_7.trans (rfl)
        refine lv_if_ne (tgt := 133) hx hb dX12_set_128 (by decide) (fun c9 => absurd c9 (by decide)) (fun _ => ?_)
        refine lv_iconst (v := 0) hx hb dX12_set_131 (by decide) ?_
        have hP9 := hP.sub (ws' := [(h0, .inr (12, ((fs.set 0 (.int 0)).set 0 (.int 1))))]) [2] rfl
        have hD9 := hD.sub (ws' := [(h0, .inr (12, ((fs.set 0 (.int 0)).set 0 (.int 1))))]) [2] (by decide) rfl
        exact W.iret (v := 0) hx hb hr (fun t ht hW => ⟨⟨0, (), rfl, by simp [th_set, vl_set, c_1, c_2, c_3], ⟨((fs.set 0 (.int 0)).set 0 (.int 1)), 1, by simp only [List.length_set]; exact hfs, List.getElem?_set_self (by simp only [List.length_set, hfs]; decide), by simp [th_set, c_1, c_2, c_3], by rw [ht]; exact hP9, hD9⟩⟩, hS.F ht⟩) hS.2.2 dX12_set_132
    · refine lv_iload_n hx hb dX12_set_40 rfl (lv_at hl 3 rfl) ?_
      refine lv_iconst (v := 0) hx hb dX12_set_41 (by decide) ?_
      refine lv_bipush (v := 7) hx hb dX12_set_42 (by decide) ?_
      have hF := va_free (wc := []) hD hS hA [] rfl
      refine va_calli (va_runS (As := [.int p1, .int 0, .int 7]) (rest := []) ⟨hx, hb, hml, hown, hts⟩ (c_X12_within l D cT p1 0 7 _ ) (va_cwS 3 hts gX12_set_X12_within rfl rfl rfl (by decide +kernel) ⟨Nat.le_of_ble_eq_true rfl, Nat.le_of_ble_eq_true rfl⟩) (ps_w hP hD hK hG [] rfl rfl rfl) rfl rfl hl.1 rfl (lv_room (Nat.le_of_ble_eq_true rfl)) dX12_set_44 ⟨Nat.le_of_ble_eq_true rfl, Nat.le_of_ble_eq_true rfl⟩) hS (fun q _ h => hF q h) hF (fun r_8 uu9 tt9 H locs ht hvm wr_8 hB hz1 hk1 hS => ?_)
      obtain ⟨hP, hD⟩ := va_join (wr := [(h0, .inr (12, (fs.set 0 (.int 0)))), (m_rate, .inl (cT 0, 3, .inl mra)), (m_dress, .inl (cT 0, 8, .inl mdr))]) (w1 := []) hP hD [] [0, 1, 2] rfl rfl (by decide) (by decide) hk1 hF vp_nil vd_nil
      have hP : va_P D vwCl [(h0, .inr (12, (fs.set 0 (.int 0)))), (m_rate, .inl (cT 0, 3, .inl mra)), (m_dress, .inl (cT 0, 8, .inl mdr))] _ := hP
      have hD : va_D A [(h0, .inr (12, (fs.set 0 (.int 0)))), (m_rate, .inl (cT 0, 3, .inl mra)), (m_dress, .inl (cT 0, 8, .inl mdr))] := hD
      have g9 := wi_01 p1 0 7
      rw [← wr_8] at g9
      rcases g9 with rfl | rfl
      · refine lv_if_eq (tgt := 64) hx hb dX12_set_47 (by decide) (fun _ => ?_) (fun c9 => absurd c9 (by decide))
        refine lv_iconst (v := 0) hx hb dX12_set_64 (by decide) ?_
        refine lv_istore (lv' := [(5, .int 0), (4, .int 0), (0, .ref h0), (1, .int p0), (2, .int p1), (3, .int p2)]) hx hb dX12_set_65 hl (by decide) rfl (fun ls hl => ?_)
        refine lv_iload_n hx hb dX12_set_67 rfl (lv_at hl 3 rfl) ?_
        refine lv_iconst (v := 2) hx hb dX12_set_68 (by decide) ?_
        refine lv_icmp_ne (tgt := 100) hx hb dX12_set_69 (by decide) (fun c_9 => ?_) (fun c_9 => ((absurd (Eq.trans (Eq.symm c_2) c_9) (by decide) : False)).elim)
        refine lv_iconst (v := 0) hx hb dX12_set_100 (by decide) ?_
        refine lv_istore (lv' := [(6, .int 0), (5, .int 0), (4, .int 0), (0, .ref h0), (1, .int p0), (2, .int p1), (3, .int p2)]) hx hb dX12_set_101 hl (by decide) rfl (fun ls hl => ?_)
        refine lv_aload_n hx hb dX12_set_103 rfl (lv_at hl 3 rfl) ?_
        refine lv_iload hx hb dX12_set_104 (lv_at hl 2 rfl) ?_
        refine lv_if_ne (tgt := 119) hx hb dX12_set_106 (by decide) (fun c9 => absurd c9 (by decide)) (fun _ => ?_)
        refine lv_iload hx hb dX12_set_109 (lv_at hl 1 rfl) ?_
        refine lv_if_ne (tgt := 119) hx hb dX12_set_111 (by decide) (fun c9 => absurd c9 (by decide)) (fun _ => ?_)
        refine lv_iload hx hb dX12_set_114 (lv_at hl 0 rfl) ?_
        refine lv_if_eq (tgt := 123) hx hb dX12_set_116 (by decide) (fun _ => ?_) (fun c9 => absurd c9 (by decide))
        refine lv_iconst (v := 0) hx hb dX12_set_123 (by decide) ?_
        refine lv_iconst (v := 1) hx hb dX12_set_124 (by decide) ?_
        have hF := va_free (wc := [(h0, .inr (12, (fs.set 0 (.int 0))))]) hD hS hA [0] rfl
        refine va_calli (va_runV (As := [.int 0, .int 1]) (rest := []) ⟨hx, hb, hml, hown, hts⟩ (c_X12_may_0_1 l D cT h0 (fs.set 0 (.int 0)) _ (by simp only [List.length_set]; exact hfs) (List.getElem?_set_self (by simp only [List.length_set, hfs]; decide))) (cwV 2 hts gX12_set_X12_may rfl rfl rfl (by decide +kernel) ⟨Nat.le_of_ble_eq_true rfl, Nat.le_of_ble_eq_true rfl⟩) (pv_w hP hD hK hG [0] rfl rfl rfl 0 rfl rfl) rfl rfl hl.1 rfl (lv_room (Nat.le_of_ble_eq_true rfl)) dX12_set_125 ⟨Nat.le_of_ble_eq_true rfl, Nat.le_of_ble_eq_true rfl⟩) hS (fun q _ h => hF q h) hF (fun r_10 uu9 tt9 H locs ht hvm wr_10 hB hz1 hk1 hS => ?_)
        obtain ⟨hP1, hD1⟩ := hB
        rw [ht] at hP1
        obtain ⟨hP, hD⟩ := va_join (wr := [(m_rate, .inl (cT 0, 3, .inl mra)), (m_dress, .inl (cT 0, 8, .inl mdr))]) (w1 := [(h0, .inr (12, ((fs.set 0 (.int 0)).set 0 (.int 1))))]) hP hD [0] [1, 2] rfl rfl (by decide) (by decide) hk1 hF hP1 hD1
        have hP : va_P D vwCl [(m_rate, .inl (cT 0, 3, .inl mra)), (m_dress, .inl (cT 0, 8, .inl mdr)), (h0, .inr (12, ((fs.set 0 (.int 0)).set 0 (.int 1))))] _ := hP
        have hD : va_D A [(m_rate, .inl (cT 0, 3, .inl mra)), (m_dress, .inl (cT 0, 8, .inl mdr)), (h0, .inr (12, ((fs.set 0 (.int 0)).set 0 (.int 1))))] := hD
        obtain rfl : r_10 = 0 := wr_10.trans (rfl)
        refine lv_if_ne (tgt := 133) hx hb dX12_set_128 (by decide) (fun c9 => absurd c9 (by decide)) (fun _ => ?_)
        refine lv_iconst (v := 0) hx hb dX12_set_131 (by decide) ?_
        have hP9 := hP.sub (ws' := [(h0, .inr (12, ((fs.set 0 (.int 0)).set 0 (.int 1))))]) [2] rfl
        have hD9 := hD.sub (ws' := [(h0, .inr (12, ((fs.set 0 (.int 0)).set 0 (.int 1))))]) [2] (by decide) rfl
        exact W.iret (v := 0) hx hb hr (fun t ht hW => ⟨⟨0, (), rfl, by simp [th_set, vl_set, c_1, c_2, ← wr_8], ⟨((fs.set 0 (.int 0)).set 0 (.int 1)), 1, by simp only [List.length_set]; exact hfs, List.getElem?_set_self (by simp only [List.length_set, hfs]; decide), by simp [th_set, c_1, c_2, ← wr_8], by rw [ht]; exact hP9, hD9⟩⟩, hS.F ht⟩) hS.2.2 dX12_set_132
      · refine lv_if_eq (tgt := 64) hx hb dX12_set_47 (by decide) (fun c9 => absurd c9 (by decide)) (fun _ => ?_)
        refine lv_iload_n hx hb dX12_set_50 rfl (lv_at hl 4 rfl) ?_
        refine lv_iconst (v := 0) hx hb dX12_set_51 (by decide) ?_
        refine lv_bipush (v := 20) hx hb dX12_set_52 (by decide) ?_
        have hF := va_free (wc := []) hD hS hA [] rfl
        refine va_calli (va_runS (As := [.int p2, .int 0, .int 20]) (rest := []) ⟨hx, hb, hml, hown, hts⟩ (c_X12_within l D cT p2 0 20 _ ) (va_cwS 3 hts gX12_set_X12_within rfl rfl rfl (by decide +kernel) ⟨Nat.le_of_ble_eq_true rfl, Nat.le_of_ble_eq_true rfl⟩) (ps_w hP hD hK hG [] rfl rfl rfl) rfl rfl hl.1 rfl (lv_room (Nat.le_of_ble_eq_true rfl)) dX12_set_54 ⟨Nat.le_of_ble_eq_true rfl, Nat.le_of_ble_eq_true rfl⟩) hS (fun q _ h => hF q h) hF (fun r_11 uu9 tt9 H locs ht hvm wr_11 hB hz1 hk1 hS => ?_)
        obtain ⟨hP, hD⟩ := va_join (wr := [(h0, .inr (12, (fs.set 0 (.int 0)))), (m_rate, .inl (cT 0, 3, .inl mra)), (m_dress, .inl (cT 0, 8, .inl mdr))]) (w1 := []) hP hD [] [0, 1, 2] rfl rfl (by decide) (by decide) hk1 hF vp_nil vd_nil
        have hP : va_P D vwCl [(h0, .inr (12, (fs.set 0 (.int 0)))), (m_rate, .inl (cT 0, 3, .inl mra)), (m_dress, .inl (cT 0, 8, .inl mdr))] _ := hP
        have hD : va_D A [(h0, .inr (12, (fs.set 0 (.int 0)))), (m_rate, .inl (cT 0, 3, .inl mra)), (m_dress, .inl (cT 0, 8, .inl mdr))] := hD
        have g9 := wi_01 p2 0 20
        rw [← wr_11] at g9
        rcases g9 with rfl | rfl
        · refine lv_if_eq (tgt := 64) hx hb dX12_set_57 (by decide) (fun _ => ?_) (fun c9 => absurd c9 (by decide))
          refine lv_iconst (v := 0) hx hb dX12_set_64 (by decide) ?_
          refine lv_istore (lv' := [(5, .int 0), (4, .int 0), (0, .ref h0), (1, .int p0), (2, .int p1), (3, .int p2)]) hx hb dX12_set_65 hl (by decide) rfl (fun ls hl => ?_)
          refine lv_iload_n hx hb dX12_set_67 rfl (lv_at hl 3 rfl) ?_
          refine lv_iconst (v := 2) hx hb dX12_set_68 (by decide) ?_
          refine lv_icmp_ne (tgt := 100) hx hb dX12_set_69 (by decide) (fun c_12 => ?_) (fun c_12 => ((absurd (Eq.trans (Eq.symm c_2) c_12) (by decide) : False)).elim)
          refine lv_iconst (v := 0) hx hb dX12_set_100 (by decide) ?_
          refine lv_istore (lv' := [(6, .int 0), (5, .int 0), (4, .int 0), (0, .ref h0), (1, .int p0), (2, .int p1), (3, .int p2)]) hx hb dX12_set_101 hl (by decide) rfl (fun ls hl => ?_)
          refine lv_aload_n hx hb dX12_set_103 rfl (lv_at hl 3 rfl) ?_
          refine lv_iload hx hb dX12_set_104 (lv_at hl 2 rfl) ?_
          refine lv_if_ne (tgt := 119) hx hb dX12_set_106 (by decide) (fun c9 => absurd c9 (by decide)) (fun _ => ?_)
          refine lv_iload hx hb dX12_set_109 (lv_at hl 1 rfl) ?_
          refine lv_if_ne (tgt := 119) hx hb dX12_set_111 (by decide) (fun c9 => absurd c9 (by decide)) (fun _ => ?_)
          refine lv_iload hx hb dX12_set_114 (lv_at hl 0 rfl) ?_
          refine lv_if_eq (tgt := 123) hx hb dX12_set_116 (by decide) (fun _ => ?_) (fun c9 => absurd c9 (by decide))
          refine lv_iconst (v := 0) hx hb dX12_set_123 (by decide) ?_
          refine lv_iconst (v := 1) hx hb dX12_set_124 (by decide) ?_
          have hF := va_free (wc := [(h0, .inr (12, (fs.set 0 (.int 0))))]) hD hS hA [0] rfl
          refine va_calli (va_runV (As := [.int 0, .int 1]) (rest := []) ⟨hx, hb, hml, hown, hts⟩ (c_X12_may_0_1 l D cT h0 (fs.set 0 (.int 0)) _ (by simp only [List.length_set]; exact hfs) (List.getElem?_set_self (by simp only [List.length_set, hfs]; decide))) (cwV 2 hts gX12_set_X12_may rfl rfl rfl (by decide +kernel) ⟨Nat.le_of_ble_eq_true rfl, Nat.le_of_ble_eq_true rfl⟩) (pv_w hP hD hK hG [0] rfl rfl rfl 0 rfl rfl) rfl rfl hl.1 rfl (lv_room (Nat.le_of_ble_eq_true rfl)) dX12_set_125 ⟨Nat.le_of_ble_eq_true rfl, Nat.le_of_ble_eq_true rfl⟩) hS (fun q _ h => hF q h) hF (fun r_13 uu9 tt9 H locs ht hvm wr_13 hB hz1 hk1 hS => ?_)
          obtain ⟨hP1, hD1⟩ := hB
          rw [ht] at hP1
          obtain ⟨hP, hD⟩ := va_join (wr := [(m_rate, .inl (cT 0, 3, .inl mra)), (m_dress, .inl (cT 0, 8, .inl mdr))]) (w1 := [(h0, .inr (12, ((fs.set 0 (.int 0)).set 0 (.int 1))))]) hP hD [0] [1, 2] rfl rfl (by decide) (by decide) hk1 hF hP1 hD1
          have hP : va_P D vwCl [(m_rate, .inl (cT 0, 3, .inl mra)), (m_dress, .inl (cT 0, 8, .inl mdr)), (h0, .inr (12, ((fs.set 0 (.int 0)).set 0 (.int 1))))] _ := hP
          have hD : va_D A [(m_rate, .inl (cT 0, 3, .inl mra)), (m_dress, .inl (cT 0, 8, .inl mdr)), (h0, .inr (12, ((fs.set 0 (.int 0)).set 0 (.int 1))))] := hD
          obtain rfl : r_13 = 0 := wr_13.trans (rfl)
          refine lv_if_ne (tgt := 133) hx hb dX12_set_128 (by decide) (fun c9 => absurd c9 (by decide)) (fun _ => ?_)
          refine lv_iconst (v := 0) hx hb dX12_set_131 (by decide) ?_
          have hP9 := hP.sub (ws' := [(h0, .inr (12, ((fs.set 0 (.int 0)).set 0 (.int 1))))]) [2] rfl
          have hD9 := hD.sub (ws' := [(h0, .inr (12, ((fs.set 0 (.int 0)).set 0 (.int 1))))]) [2] (by decide) rfl
          exact W.iret (v := 0) hx hb hr (fun t ht hW => ⟨⟨0, (), rfl, by simp [th_set, vl_set, c_1, c_2, ← wr_8, ← wr_11], ⟨((fs.set 0 (.int 0)).set 0 (.int 1)), 1, by simp only [List.length_set]; exact hfs, List.getElem?_set_self (by simp only [List.length_set, hfs]; decide), by simp [th_set, c_1, c_2, ← wr_8, ← wr_11], by rw [ht]; exact hP9, hD9⟩⟩, hS.F ht⟩) hS.2.2 dX12_set_132
        · refine lv_if_eq (tgt := 64) hx hb dX12_set_57 (by decide) (fun c9 => absurd c9 (by decide)) (fun _ => ?_)
          refine lv_iconst (v := 1) hx hb dX12_set_60 (by decide) ?_
          refine lv_goto (tgt := 65) hx hb dX12_set_61 (by decide) ?_
          refine lv_istore (lv' := [(5, .int 1), (4, .int 0), (0, .ref h0), (1, .int p0), (2, .int p1), (3, .int p2)]) hx hb dX12_set_65 hl (by decide) rfl (fun ls hl => ?_)
          refine lv_iload_n hx hb dX12_set_67 rfl (lv_at hl 3 rfl) ?_
          refine lv_iconst (v := 2) hx hb dX12_set_68 (by decide) ?_
          refine lv_icmp_ne (tgt := 100) hx hb dX12_set_69 (by decide) (fun c_14 => ?_) (fun c_14 => ((absurd (Eq.trans (Eq.symm c_2) c_14) (by decide) : False)).elim)
          refine lv_iconst (v := 0) hx hb dX12_set_100 (by decide) ?_
          refine lv_istore (lv' := [(6, .int 0), (5, .int 1), (4, .int 0), (0, .ref h0), (1, .int p0), (2, .int p1), (3, .int p2)]) hx hb dX12_set_101 hl (by decide) rfl (fun ls hl => ?_)
          refine lv_aload_n hx hb dX12_set_103 rfl (lv_at hl 3 rfl) ?_
          refine lv_iload hx hb dX12_set_104 (lv_at hl 2 rfl) ?_
          refine lv_if_ne (tgt := 119) hx hb dX12_set_106 (by decide) (fun c9 => absurd c9 (by decide)) (fun _ => ?_)
          refine lv_iload hx hb dX12_set_109 (lv_at hl 1 rfl) ?_
          refine lv_if_ne (tgt := 119) hx hb dX12_set_111 (by decide) (fun _ => ?_) (fun c9 => absurd c9 (by decide))
          refine lv_iconst (v := 1) hx hb dX12_set_119 (by decide) ?_
          refine lv_goto (tgt := 124) hx hb dX12_set_120 (by decide) ?_
          refine lv_iconst (v := 1) hx hb dX12_set_124 (by decide) ?_
          have hF := va_free (wc := [(h0, .inr (12, (fs.set 0 (.int 0))))]) hD hS hA [0] rfl
          refine va_calli (va_runV (As := [.int 1, .int 1]) (rest := []) ⟨hx, hb, hml, hown, hts⟩ (c_X12_may_1 l D cT h0 1 (fs.set 0 (.int 0)) _ (by simp only [List.length_set]; exact hfs) (List.getElem?_set_self (by simp only [List.length_set, hfs]; decide))) (cwV 2 hts gX12_set_X12_may rfl rfl rfl (by decide +kernel) ⟨Nat.le_of_ble_eq_true rfl, Nat.le_of_ble_eq_true rfl⟩) (pv_w hP hD hK hG [0] rfl rfl rfl 0 rfl rfl) rfl rfl hl.1 rfl (lv_room (Nat.le_of_ble_eq_true rfl)) dX12_set_125 ⟨Nat.le_of_ble_eq_true rfl, Nat.le_of_ble_eq_true rfl⟩) hS (fun q _ h => hF q h) hF (fun r_15 uu9 tt9 H locs ht hvm wr_15 hB hz1 hk1 hS => ?_)
          obtain ⟨hP1, hD1⟩ := hB
          rw [ht] at hP1
          obtain ⟨hP, hD⟩ := va_join (wr := [(m_rate, .inl (cT 0, 3, .inl mra)), (m_dress, .inl (cT 0, 8, .inl mdr))]) (w1 := [(h0, .inr (12, (fs.set 0 (.int 0))))]) hP hD [0] [1, 2] rfl rfl (by decide) (by decide) hk1 hF hP1 hD1
          have hP : va_P D vwCl [(m_rate, .inl (cT 0, 3, .inl mra)), (m_dress, .inl (cT 0, 8, .inl mdr)), (h0, .inr (12, (fs.set 0 (.int 0))))] _ := hP
          have hD : va_D A [(m_rate, .inl (cT 0, 3, .inl mra)), (m_dress, .inl (cT 0, 8, .inl mdr)), (h0, .inr (12, (fs.set 0 (.int 0))))] := hD
          obtain rfl : r_15 = 1 := wr_15.trans (rfl)
          refine lv_if_ne (tgt := 133) hx hb dX12_set_128 (by decide) (fun _ => ?_) (fun c9 => absurd c9 (by decide))
          refine lv_iload hx hb dX12_set_133 (lv_at hl 2 rfl) ?_
          refine lv_if_eq (tgt := 147) hx hb dX12_set_135 (by decide) (fun _ => ?_) (fun c9 => absurd c9 (by decide))
          refine lv_iload hx hb dX12_set_147 (lv_at hl 1 rfl) ?_
          refine lv_if_eq (tgt := 161) hx hb dX12_set_149 (by decide) (fun c9 => absurd c9 (by decide)) (fun _ => ?_)
          refine lv_aload_n hx hb dX12_set_152 rfl (lv_at hl 3 rfl) ?_
          refine va_get (D := D) (ci := 12) (v := .ref m_dress) (C := RX12) (T := TX12) (N := 109) hx hb hts (fun _ h => List.mem_cons_of_mem _ (List.mem_append_right _ h)) hown hK hP 2 rfl rfl 65 (by decide) (hts (.fieldLink RX12 159 "PuppetFilmModel" "dress" "[I") (List.mem_of_getElem? (i := 4) (by decide +kernel))) (fun _ h9 => h9) ((List.getElem?_set_ne (by decide)).trans (hfs_65)) dX12_set_153 ?_
          refine lv_iload_n hx hb dX12_set_156 rfl (lv_at hl 5 rfl) ?_
          refine va_iald hx hb hK hP 1 0 rfl rfl (wi_vin (hi := 7) (by decide) wr_8) dX12_set_157 ?_
          refine lv_topi (fun x_16 ex_16 => ?_)
          obtain rfl : x_16 = 1 := ex_16.trans (hdr _ (vin_n (wi_vin (hi := 7) (by decide) wr_8)))
          refine lv_goto (tgt := 167) hx hb dX12_set_158 (by decide) ?_
          refine lv_istore (lv' := [(7, .int 1), (6, .int 0), (5, .int 1), (4, .int 0), (0, .ref h0), (1, .int p0), (2, .int p1), (3, .int p2)]) hx hb dX12_set_167 hl (by decide) rfl (fun ls hl => ?_)
          refine lv_iload hx hb dX12_set_169 (lv_at hl 3 rfl) ?_
          refine lv_if_eq (tgt := 181) hx hb dX12_set_171 (by decide) (fun _ => ?_) (fun c9 => absurd c9 (by decide))
          refine lv_iload hx hb dX12_set_181 (lv_at hl 2 rfl) ?_
          refine lv_if_eq (tgt := 193) hx hb dX12_set_183 (by decide) (fun c9 => absurd c9 (by decide)) (fun _ => ?_)
          refine lv_aload_n hx hb dX12_set_186 rfl (lv_at hl 4 rfl) ?_
          refine va_get (D := D) (ci := 12) (v := .ref m_dress) (C := RX12) (T := TX12) (N := 109) hx hb hts (fun _ h => List.mem_cons_of_mem _ (List.mem_append_right _ h)) hown hK hP 2 rfl rfl 65 (by decide) (hts (.fieldLink RX12 159 "PuppetFilmModel" "dress" "[I") (List.mem_of_getElem? (i := 4) (by decide +kernel))) (fun _ h9 => h9) ((List.getElem?_set_ne (by decide)).trans (hfs_65)) dX12_set_187 ?_
          refine lv_iload_n hx hb dX12_set_190 rfl (lv_at hl 6 rfl) ?_
          refine lv_iload_n hx hb dX12_set_191 rfl (lv_at hl 7 rfl) ?_
          refine va_iast hx hb hK hP hD hS 1 0 rfl rfl (wi_vin (hi := 7) (by decide) wr_8) dX12_set_192 (fun H locs hP hD hS => ?_)
          have hP : va_P D vwCl [(m_rate, .inl (cT 0, 3, .inl mra)), (m_dress, .inl (cT 0, 8, .inl (upd mdr (p1.toNatClampNeg) p2))), (h0, .inr (12, (fs.set 0 (.int 0))))] _ := hP
          have hD : va_D A [(m_rate, .inl (cT 0, 3, .inl mra)), (m_dress, .inl (cT 0, 8, .inl (upd mdr (p1.toNatClampNeg) p2))), (h0, .inr (12, (fs.set 0 (.int 0))))] := hD
          refine lv_iload hx hb dX12_set_193 (lv_at hl 1 rfl) ?_
          refine lv_if_eq (tgt := 205) hx hb dX12_set_195 (by decide) (fun _ => ?_) (fun c9 => absurd c9 (by decide))
          refine lv_iload hx hb dX12_set_205 (lv_at hl 0 rfl) ?_
          have hP9 := hP.sub (ws' := [(h0, .inr (12, (fs.set 0 (.int 0))))]) [2] rfl
          have hD9 := hD.sub (ws' := [(h0, .inr (12, (fs.set 0 (.int 0))))]) [2] (by decide) rfl
          exact W.iret (v := 1) hx hb hr (fun t ht hW => ⟨⟨1, (), rfl, by simp [th_set, vl_set, c_1, c_2, ← wr_8, ← wr_11], ⟨(fs.set 0 (.int 0)), 0, by simp only [List.length_set]; exact hfs, List.getElem?_set_self (by simp only [List.length_set, hfs]; decide), by simp [th_set, c_1, c_2, ← wr_8, ← wr_11], by rw [ht]; exact hP9, hD9⟩⟩, hS.F ht⟩) hS.2.2 dX12_set_207
  · refine lv_iload_n hx hb dX12_set_9 rfl (lv_at hl 2 rfl) ?_
    refine lv_iconst (v := 0) hx hb dX12_set_10 (by decide) ?_
    refine lv_iconst (v := 2) hx hb dX12_set_11 (by decide) ?_
    have hF := va_free (wc := []) hD hS hA [] rfl
    refine va_calli (va_runS (As := [.int p1, .int 0, .int 2]) (rest := []) ⟨hx, hb, hml, hown, hts⟩ (c_X12_within l D cT p1 0 2 _ ) (va_cwS 3 hts gX12_set_X12_within rfl rfl rfl (by decide +kernel) ⟨Nat.le_of_ble_eq_true rfl, Nat.le_of_ble_eq_true rfl⟩) (ps_w hP hD hK hG [] rfl rfl rfl) rfl rfl hl.1 rfl (lv_room (Nat.le_of_ble_eq_true rfl)) dX12_set_12 ⟨Nat.le_of_ble_eq_true rfl, Nat.le_of_ble_eq_true rfl⟩) hS (fun q _ h => hF q h) hF (fun r_17 uu9 tt9 H locs ht hvm wr_17 hB hz1 hk1 hS => ?_)
    obtain ⟨hP, hD⟩ := va_join (wr := [(h0, .inr (12, (fs.set 0 (.int 0)))), (m_rate, .inl (cT 0, 3, .inl mra)), (m_dress, .inl (cT 0, 8, .inl mdr))]) (w1 := []) hP hD [] [0, 1, 2] rfl rfl (by decide) (by decide) hk1 hF vp_nil vd_nil
    have hP : va_P D vwCl [(h0, .inr (12, (fs.set 0 (.int 0)))), (m_rate, .inl (cT 0, 3, .inl mra)), (m_dress, .inl (cT 0, 8, .inl mdr))] _ := hP
    have hD : va_D A [(h0, .inr (12, (fs.set 0 (.int 0)))), (m_rate, .inl (cT 0, 3, .inl mra)), (m_dress, .inl (cT 0, 8, .inl mdr))] := hD
    have g9 := wi_01 p1 0 2
    rw [← wr_17] at g9
    rcases g9 with rfl | rfl
    · refine lv_if_eq (tgt := 32) hx hb dX12_set_15 (by decide) (fun _ => ?_) (fun c9 => absurd c9 (by decide))
      refine lv_iconst (v := 0) hx hb dX12_set_32 (by decide) ?_
      refine lv_istore (lv' := [(4, .int 0), (0, .ref h0), (1, .int p0), (2, .int p1), (3, .int p2)]) hx hb dX12_set_33 hl (by decide) rfl (fun ls hl => ?_)
      refine lv_iload_n hx hb dX12_set_35 rfl (lv_at hl 2 rfl) ?_
      refine lv_iconst (v := 1) hx hb dX12_set_36 (by decide) ?_
      refine lv_icmp_ne (tgt := 64) hx hb dX12_set_37 (by decide) (fun c_18 => ?_) (fun c_18 => ((absurd (Eq.trans (Eq.symm c_1) c_18) (by decide) : False)).elim)
      refine lv_iconst (v := 0) hx hb dX12_set_64 (by decide) ?_
      refine lv_istore (lv' := [(5, .int 0), (4, .int 0), (0, .ref h0), (1, .int p0), (2, .int p1), (3, .int p2)]) hx hb dX12_set_65 hl (by decide) rfl (fun ls hl => ?_)
      refine lv_iload_n hx hb dX12_set_67 rfl (lv_at hl 3 rfl) ?_
      refine lv_iconst (v := 2) hx hb dX12_set_68 (by decide) ?_
      refine lv_icmp_ne (tgt := 100) hx hb dX12_set_69 (by decide) (fun c_19 => ?_) (fun c_19 => ((absurd (Eq.trans (Eq.symm c_1) c_19) (by decide) : False)).elim)
      refine lv_iconst (v := 0) hx hb dX12_set_100 (by decide) ?_
      refine lv_istore (lv' := [(6, .int 0), (5, .int 0), (4, .int 0), (0, .ref h0), (1, .int p0), (2, .int p1), (3, .int p2)]) hx hb dX12_set_101 hl (by decide) rfl (fun ls hl => ?_)
      refine lv_aload_n hx hb dX12_set_103 rfl (lv_at hl 3 rfl) ?_
      refine lv_iload hx hb dX12_set_104 (lv_at hl 2 rfl) ?_
      refine lv_if_ne (tgt := 119) hx hb dX12_set_106 (by decide) (fun c9 => absurd c9 (by decide)) (fun _ => ?_)
      refine lv_iload hx hb dX12_set_109 (lv_at hl 1 rfl) ?_
      refine lv_if_ne (tgt := 119) hx hb dX12_set_111 (by decide) (fun c9 => absurd c9 (by decide)) (fun _ => ?_)
      refine lv_iload hx hb dX12_set_114 (lv_at hl 0 rfl) ?_
      refine lv_if_eq (tgt := 123) hx hb dX12_set_116 (by decide) (fun _ => ?_) (fun c9 => absurd c9 (by decide))
      refine lv_iconst (v := 0) hx hb dX12_set_123 (by decide) ?_
      refine lv_iconst (v := 1) hx hb dX12_set_124 (by decide) ?_
      have hF := va_free (wc := [(h0, .inr (12, (fs.set 0 (.int 0))))]) hD hS hA [0] rfl
      refine va_calli (va_runV (As := [.int 0, .int 1]) (rest := []) ⟨hx, hb, hml, hown, hts⟩ (c_X12_may_0_1 l D cT h0 (fs.set 0 (.int 0)) _ (by simp only [List.length_set]; exact hfs) (List.getElem?_set_self (by simp only [List.length_set, hfs]; decide))) (cwV 2 hts gX12_set_X12_may rfl rfl rfl (by decide +kernel) ⟨Nat.le_of_ble_eq_true rfl, Nat.le_of_ble_eq_true rfl⟩) (pv_w hP hD hK hG [0] rfl rfl rfl 0 rfl rfl) rfl rfl hl.1 rfl (lv_room (Nat.le_of_ble_eq_true rfl)) dX12_set_125 ⟨Nat.le_of_ble_eq_true rfl, Nat.le_of_ble_eq_true rfl⟩) hS (fun q _ h => hF q h) hF (fun r_20 uu9 tt9 H locs ht hvm wr_20 hB hz1 hk1 hS => ?_)
      obtain ⟨hP1, hD1⟩ := hB
      rw [ht] at hP1
      obtain ⟨hP, hD⟩ := va_join (wr := [(m_rate, .inl (cT 0, 3, .inl mra)), (m_dress, .inl (cT 0, 8, .inl mdr))]) (w1 := [(h0, .inr (12, ((fs.set 0 (.int 0)).set 0 (.int 1))))]) hP hD [0] [1, 2] rfl rfl (by decide) (by decide) hk1 hF hP1 hD1
      have hP : va_P D vwCl [(m_rate, .inl (cT 0, 3, .inl mra)), (m_dress, .inl (cT 0, 8, .inl mdr)), (h0, .inr (12, ((fs.set 0 (.int 0)).set 0 (.int 1))))] _ := hP
      have hD : va_D A [(m_rate, .inl (cT 0, 3, .inl mra)), (m_dress, .inl (cT 0, 8, .inl mdr)), (h0, .inr (12, ((fs.set 0 (.int 0)).set 0 (.int 1))))] := hD
      obtain rfl : r_20 = 0 := wr_20.trans (rfl)
      refine lv_if_ne (tgt := 133) hx hb dX12_set_128 (by decide) (fun c9 => absurd c9 (by decide)) (fun _ => ?_)
      refine lv_iconst (v := 0) hx hb dX12_set_131 (by decide) ?_
      have hP9 := hP.sub (ws' := [(h0, .inr (12, ((fs.set 0 (.int 0)).set 0 (.int 1))))]) [2] rfl
      have hD9 := hD.sub (ws' := [(h0, .inr (12, ((fs.set 0 (.int 0)).set 0 (.int 1))))]) [2] (by decide) rfl
      exact W.iret (v := 0) hx hb hr (fun t ht hW => ⟨⟨0, (), rfl, by simp [th_set, vl_set, c_1, ← wr_17], ⟨((fs.set 0 (.int 0)).set 0 (.int 1)), 1, by simp only [List.length_set]; exact hfs, List.getElem?_set_self (by simp only [List.length_set, hfs]; decide), by simp [th_set, c_1, ← wr_17], by rw [ht]; exact hP9, hD9⟩⟩, hS.F ht⟩) hS.2.2 dX12_set_132
    · refine lv_if_eq (tgt := 32) hx hb dX12_set_15 (by decide) (fun c9 => absurd c9 (by decide)) (fun _ => ?_)
      refine lv_iload_n hx hb dX12_set_18 rfl (lv_at hl 3 rfl) ?_
      refine lv_iconst (v := 1) hx hb dX12_set_19 (by decide) ?_
      refine lv_bipush (v := 100) hx hb dX12_set_20 (by decide) ?_
      have hF := va_free (wc := []) hD hS hA [] rfl
      refine va_calli (va_runS (As := [.int p2, .int 1, .int 100]) (rest := []) ⟨hx, hb, hml, hown, hts⟩ (c_X12_within l D cT p2 1 100 _ ) (va_cwS 3 hts gX12_set_X12_within rfl rfl rfl (by decide +kernel) ⟨Nat.le_of_ble_eq_true rfl, Nat.le_of_ble_eq_true rfl⟩) (ps_w hP hD hK hG [] rfl rfl rfl) rfl rfl hl.1 rfl (lv_room (Nat.le_of_ble_eq_true rfl)) dX12_set_22 ⟨Nat.le_of_ble_eq_true rfl, Nat.le_of_ble_eq_true rfl⟩) hS (fun q _ h => hF q h) hF (fun r_21 uu9 tt9 H locs ht hvm wr_21 hB hz1 hk1 hS => ?_)
      obtain ⟨hP, hD⟩ := va_join (wr := [(h0, .inr (12, (fs.set 0 (.int 0)))), (m_rate, .inl (cT 0, 3, .inl mra)), (m_dress, .inl (cT 0, 8, .inl mdr))]) (w1 := []) hP hD [] [0, 1, 2] rfl rfl (by decide) (by decide) hk1 hF vp_nil vd_nil
      have hP : va_P D vwCl [(h0, .inr (12, (fs.set 0 (.int 0)))), (m_rate, .inl (cT 0, 3, .inl mra)), (m_dress, .inl (cT 0, 8, .inl mdr))] _ := hP
      have hD : va_D A [(h0, .inr (12, (fs.set 0 (.int 0)))), (m_rate, .inl (cT 0, 3, .inl mra)), (m_dress, .inl (cT 0, 8, .inl mdr))] := hD
      have g9 := wi_01 p2 1 100
      rw [← wr_21] at g9
      rcases g9 with rfl | rfl
      · refine lv_if_eq (tgt := 32) hx hb dX12_set_25 (by decide) (fun _ => ?_) (fun c9 => absurd c9 (by decide))
        refine lv_iconst (v := 0) hx hb dX12_set_32 (by decide) ?_
        refine lv_istore (lv' := [(4, .int 0), (0, .ref h0), (1, .int p0), (2, .int p1), (3, .int p2)]) hx hb dX12_set_33 hl (by decide) rfl (fun ls hl => ?_)
        refine lv_iload_n hx hb dX12_set_35 rfl (lv_at hl 2 rfl) ?_
        refine lv_iconst (v := 1) hx hb dX12_set_36 (by decide) ?_
        refine lv_icmp_ne (tgt := 64) hx hb dX12_set_37 (by decide) (fun c_22 => ?_) (fun c_22 => ((absurd (Eq.trans (Eq.symm c_1) c_22) (by decide) : False)).elim)
        refine lv_iconst (v := 0) hx hb dX12_set_64 (by decide) ?_
        refine lv_istore (lv' := [(5, .int 0), (4, .int 0), (0, .ref h0), (1, .int p0), (2, .int p1), (3, .int p2)]) hx hb dX12_set_65 hl (by decide) rfl (fun ls hl => ?_)
        refine lv_iload_n hx hb dX12_set_67 rfl (lv_at hl 3 rfl) ?_
        refine lv_iconst (v := 2) hx hb dX12_set_68 (by decide) ?_
        refine lv_icmp_ne (tgt := 100) hx hb dX12_set_69 (by decide) (fun c_23 => ?_) (fun c_23 => ((absurd (Eq.trans (Eq.symm c_1) c_23) (by decide) : False)).elim)
        refine lv_iconst (v := 0) hx hb dX12_set_100 (by decide) ?_
        refine lv_istore (lv' := [(6, .int 0), (5, .int 0), (4, .int 0), (0, .ref h0), (1, .int p0), (2, .int p1), (3, .int p2)]) hx hb dX12_set_101 hl (by decide) rfl (fun ls hl => ?_)
        refine lv_aload_n hx hb dX12_set_103 rfl (lv_at hl 3 rfl) ?_
        refine lv_iload hx hb dX12_set_104 (lv_at hl 2 rfl) ?_
        refine lv_if_ne (tgt := 119) hx hb dX12_set_106 (by decide) (fun c9 => absurd c9 (by decide)) (fun _ => ?_)
        refine lv_iload hx hb dX12_set_109 (lv_at hl 1 rfl) ?_
        refine lv_if_ne (tgt := 119) hx hb dX12_set_111 (by decide) (fun c9 => absurd c9 (by decide)) (fun _ => ?_)
        refine lv_iload hx hb dX12_set_114 (lv_at hl 0 rfl) ?_
        refine lv_if_eq (tgt := 123) hx hb dX12_set_116 (by decide) (fun _ => ?_) (fun c9 => absurd c9 (by decide))
        refine lv_iconst (v := 0) hx hb dX12_set_123 (by decide) ?_
        refine lv_iconst (v := 1) hx hb dX12_set_124 (by decide) ?_
        have hF := va_free (wc := [(h0, .inr (12, (fs.set 0 (.int 0))))]) hD hS hA [0] rfl
        refine va_calli (va_runV (As := [.int 0, .int 1]) (rest := []) ⟨hx, hb, hml, hown, hts⟩ (c_X12_may_0_1 l D cT h0 (fs.set 0 (.int 0)) _ (by simp only [List.length_set]; exact hfs) (List.getElem?_set_self (by simp only [List.length_set, hfs]; decide))) (cwV 2 hts gX12_set_X12_may rfl rfl rfl (by decide +kernel) ⟨Nat.le_of_ble_eq_true rfl, Nat.le_of_ble_eq_true rfl⟩) (pv_w hP hD hK hG [0] rfl rfl rfl 0 rfl rfl) rfl rfl hl.1 rfl (lv_room (Nat.le_of_ble_eq_true rfl)) dX12_set_125 ⟨Nat.le_of_ble_eq_true rfl, Nat.le_of_ble_eq_true rfl⟩) hS (fun q _ h => hF q h) hF (fun r_24 uu9 tt9 H locs ht hvm wr_24 hB hz1 hk1 hS => ?_)
        obtain ⟨hP1, hD1⟩ := hB
        rw [ht] at hP1
        obtain ⟨hP, hD⟩ := va_join (wr := [(m_rate, .inl (cT 0, 3, .inl mra)), (m_dress, .inl (cT 0, 8, .inl mdr))]) (w1 := [(h0, .inr (12, ((fs.set 0 (.int 0)).set 0 (.int 1))))]) hP hD [0] [1, 2] rfl rfl (by decide) (by decide) hk1 hF hP1 hD1
        have hP : va_P D vwCl [(m_rate, .inl (cT 0, 3, .inl mra)), (m_dress, .inl (cT 0, 8, .inl mdr)), (h0, .inr (12, ((fs.set 0 (.int 0)).set 0 (.int 1))))] _ := hP
        have hD : va_D A [(m_rate, .inl (cT 0, 3, .inl mra)), (m_dress, .inl (cT 0, 8, .inl mdr)), (h0, .inr (12, ((fs.set 0 (.int 0)).set 0 (.int 1))))] := hD
        obtain rfl : r_24 = 0 := wr_24.trans (rfl)
        refine lv_if_ne (tgt := 133) hx hb dX12_set_128 (by decide) (fun c9 => absurd c9 (by decide)) (fun _ => ?_)
        refine lv_iconst (v := 0) hx hb dX12_set_131 (by decide) ?_
        have hP9 := hP.sub (ws' := [(h0, .inr (12, ((fs.set 0 (.int 0)).set 0 (.int 1))))]) [2] rfl
        have hD9 := hD.sub (ws' := [(h0, .inr (12, ((fs.set 0 (.int 0)).set 0 (.int 1))))]) [2] (by decide) rfl
        exact W.iret (v := 0) hx hb hr (fun t ht hW => ⟨⟨0, (), rfl, by simp [th_set, vl_set, c_1, ← wr_17, ← wr_21], ⟨((fs.set 0 (.int 0)).set 0 (.int 1)), 1, by simp only [List.length_set]; exact hfs, List.getElem?_set_self (by simp only [List.length_set, hfs]; decide), by simp [th_set, c_1, ← wr_17, ← wr_21], by rw [ht]; exact hP9, hD9⟩⟩, hS.F ht⟩) hS.2.2 dX12_set_132
      · refine lv_if_eq (tgt := 32) hx hb dX12_set_25 (by decide) (fun c9 => absurd c9 (by decide)) (fun _ => ?_)
        refine lv_iconst (v := 1) hx hb dX12_set_28 (by decide) ?_
        refine lv_goto (tgt := 33) hx hb dX12_set_29 (by decide) ?_
        refine lv_istore (lv' := [(4, .int 1), (0, .ref h0), (1, .int p0), (2, .int p1), (3, .int p2)]) hx hb dX12_set_33 hl (by decide) rfl (fun ls hl => ?_)
        refine lv_iload_n hx hb dX12_set_35 rfl (lv_at hl 2 rfl) ?_
        refine lv_iconst (v := 1) hx hb dX12_set_36 (by decide) ?_
        refine lv_icmp_ne (tgt := 64) hx hb dX12_set_37 (by decide) (fun c_25 => ?_) (fun c_25 => ((absurd (Eq.trans (Eq.symm c_1) c_25) (by decide) : False)).elim)
        refine lv_iconst (v := 0) hx hb dX12_set_64 (by decide) ?_
        refine lv_istore (lv' := [(5, .int 0), (4, .int 1), (0, .ref h0), (1, .int p0), (2, .int p1), (3, .int p2)]) hx hb dX12_set_65 hl (by decide) rfl (fun ls hl => ?_)
        refine lv_iload_n hx hb dX12_set_67 rfl (lv_at hl 3 rfl) ?_
        refine lv_iconst (v := 2) hx hb dX12_set_68 (by decide) ?_
        refine lv_icmp_ne (tgt := 100) hx hb dX12_set_69 (by decide) (fun c_26 => ?_) (fun c_26 => ((absurd (Eq.trans (Eq.symm c_1) c_26) (by decide) : False)).elim)
        refine lv_iconst (v := 0) hx hb dX12_set_100 (by decide) ?_
        refine lv_istore (lv' := [(6, .int 0), (5, .int 0), (4, .int 1), (0, .ref h0), (1, .int p0), (2, .int p1), (3, .int p2)]) hx hb dX12_set_101 hl (by decide) rfl (fun ls hl => ?_)
        refine lv_aload_n hx hb dX12_set_103 rfl (lv_at hl 3 rfl) ?_
        refine lv_iload hx hb dX12_set_104 (lv_at hl 2 rfl) ?_
        refine lv_if_ne (tgt := 119) hx hb dX12_set_106 (by decide) (fun _ => ?_) (fun c9 => absurd c9 (by decide))
        refine lv_iconst (v := 1) hx hb dX12_set_119 (by decide) ?_
        refine lv_goto (tgt := 124) hx hb dX12_set_120 (by decide) ?_
        refine lv_iconst (v := 1) hx hb dX12_set_124 (by decide) ?_
        have hF := va_free (wc := [(h0, .inr (12, (fs.set 0 (.int 0))))]) hD hS hA [0] rfl
        refine va_calli (va_runV (As := [.int 1, .int 1]) (rest := []) ⟨hx, hb, hml, hown, hts⟩ (c_X12_may_1 l D cT h0 1 (fs.set 0 (.int 0)) _ (by simp only [List.length_set]; exact hfs) (List.getElem?_set_self (by simp only [List.length_set, hfs]; decide))) (cwV 2 hts gX12_set_X12_may rfl rfl rfl (by decide +kernel) ⟨Nat.le_of_ble_eq_true rfl, Nat.le_of_ble_eq_true rfl⟩) (pv_w hP hD hK hG [0] rfl rfl rfl 0 rfl rfl) rfl rfl hl.1 rfl (lv_room (Nat.le_of_ble_eq_true rfl)) dX12_set_125 ⟨Nat.le_of_ble_eq_true rfl, Nat.le_of_ble_eq_true rfl⟩) hS (fun q _ h => hF q h) hF (fun r_27 uu9 tt9 H locs ht hvm wr_27 hB hz1 hk1 hS => ?_)
        obtain ⟨hP1, hD1⟩ := hB
        rw [ht] at hP1
        obtain ⟨hP, hD⟩ := va_join (wr := [(m_rate, .inl (cT 0, 3, .inl mra)), (m_dress, .inl (cT 0, 8, .inl mdr))]) (w1 := [(h0, .inr (12, (fs.set 0 (.int 0))))]) hP hD [0] [1, 2] rfl rfl (by decide) (by decide) hk1 hF hP1 hD1
        have hP : va_P D vwCl [(m_rate, .inl (cT 0, 3, .inl mra)), (m_dress, .inl (cT 0, 8, .inl mdr)), (h0, .inr (12, (fs.set 0 (.int 0))))] _ := hP
        have hD : va_D A [(m_rate, .inl (cT 0, 3, .inl mra)), (m_dress, .inl (cT 0, 8, .inl mdr)), (h0, .inr (12, (fs.set 0 (.int 0))))] := hD
        obtain rfl : r_27 = 1 := wr_27.trans (rfl)
        refine lv_if_ne (tgt := 133) hx hb dX12_set_128 (by decide) (fun _ => ?_) (fun c9 => absurd c9 (by decide))
        refine lv_iload hx hb dX12_set_133 (lv_at hl 2 rfl) ?_
        refine lv_if_eq (tgt := 147) hx hb dX12_set_135 (by decide) (fun c9 => absurd c9 (by decide)) (fun _ => ?_)
        refine lv_aload_n hx hb dX12_set_138 rfl (lv_at hl 3 rfl) ?_
        refine va_get (D := D) (ci := 12) (v := .ref m_rate) (C := RX12) (T := TX12) (N := 109) hx hb hts (fun _ h => List.mem_cons_of_mem _ (List.mem_append_right _ h)) hown hK hP 2 rfl rfl 64 (by decide) (hts (.fieldLink RX12 156 "PuppetFilmModel" "rate" "[I") (List.mem_of_getElem? (i := 3) (by decide +kernel))) (fun _ h9 => h9) ((List.getElem?_set_ne (by decide)).trans (hfs_64)) dX12_set_139 ?_
        refine lv_iload_n hx hb dX12_set_142 rfl (lv_at hl 5 rfl) ?_
        refine va_iald hx hb hK hP 0 0 rfl rfl (wi_vin (hi := 2) (by decide) wr_17) dX12_set_143 ?_
        refine lv_topi (fun x_28 ex_28 => ?_)
        obtain rfl : x_28 = 10 := ex_28.trans (hra _ (vin_n (wi_vin (hi := 2) (by decide) wr_17)))
        refine lv_goto (tgt := 167) hx hb dX12_set_144 (by decide) ?_
        refine lv_istore (lv' := [(7, .int 10), (6, .int 0), (5, .int 0), (4, .int 1), (0, .ref h0), (1, .int p0), (2, .int p1), (3, .int p2)]) hx hb dX12_set_167 hl (by decide) rfl (fun ls hl => ?_)
        refine lv_iload hx hb dX12_set_169 (lv_at hl 3 rfl) ?_
        refine lv_if_eq (tgt := 181) hx hb dX12_set_171 (by decide) (fun c9 => absurd c9 (by decide)) (fun _ => ?_)
        refine lv_aload_n hx hb dX12_set_174 rfl (lv_at hl 4 rfl) ?_
        refine va_get (D := D) (ci := 12) (v := .ref m_rate) (C := RX12) (T := TX12) (N := 109) hx hb hts (fun _ h => List.mem_cons_of_mem _ (List.mem_append_right _ h)) hown hK hP 2 rfl rfl 64 (by decide) (hts (.fieldLink RX12 156 "PuppetFilmModel" "rate" "[I") (List.mem_of_getElem? (i := 3) (by decide +kernel))) (fun _ h9 => h9) ((List.getElem?_set_ne (by decide)).trans (hfs_64)) dX12_set_175 ?_
        refine lv_iload_n hx hb dX12_set_178 rfl (lv_at hl 6 rfl) ?_
        refine lv_iload_n hx hb dX12_set_179 rfl (lv_at hl 7 rfl) ?_
        refine va_iast hx hb hK hP hD hS 0 0 rfl rfl (wi_vin (hi := 2) (by decide) wr_17) dX12_set_180 (fun H locs hP hD hS => ?_)
        have hP : va_P D vwCl [(m_rate, .inl (cT 0, 3, .inl (upd mra (p1.toNatClampNeg) p2))), (m_dress, .inl (cT 0, 8, .inl mdr)), (h0, .inr (12, (fs.set 0 (.int 0))))] _ := hP
        have hD : va_D A [(m_rate, .inl (cT 0, 3, .inl (upd mra (p1.toNatClampNeg) p2))), (m_dress, .inl (cT 0, 8, .inl mdr)), (h0, .inr (12, (fs.set 0 (.int 0))))] := hD
        refine lv_iload hx hb dX12_set_181 (lv_at hl 2 rfl) ?_
        refine lv_if_eq (tgt := 193) hx hb dX12_set_183 (by decide) (fun _ => ?_) (fun c9 => absurd c9 (by decide))
        refine lv_iload hx hb dX12_set_193 (lv_at hl 1 rfl) ?_
        refine lv_if_eq (tgt := 205) hx hb dX12_set_195 (by decide) (fun _ => ?_) (fun c9 => absurd c9 (by decide))
        refine lv_iload hx hb dX12_set_205 (lv_at hl 0 rfl) ?_
        have hP9 := hP.sub (ws' := [(h0, .inr (12, (fs.set 0 (.int 0))))]) [2] rfl
        have hD9 := hD.sub (ws' := [(h0, .inr (12, (fs.set 0 (.int 0))))]) [2] (by decide) rfl
        exact W.iret (v := 10) hx hb hr (fun t ht hW => ⟨⟨10, (), rfl, by simp [th_set, vl_set, c_1, ← wr_17, ← wr_21], ⟨(fs.set 0 (.int 0)), 0, by simp only [List.length_set]; exact hfs, List.getElem?_set_self (by simp only [List.length_set, hfs]; decide), by simp [th_set, c_1, ← wr_17, ← wr_21], by rw [ht]; exact hP9, hD9⟩⟩, hS.F ht⟩) hS.2.2 dX12_set_207
