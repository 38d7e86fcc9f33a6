/-! String's length and charAt, of the texts that Script compares with -/
noncomputable def q9SDF (z : q9ZZ) (U : State) : Prop := q9SD z (fun _ => False) U U.heap
theorem q9sd_blind {z : q9ZZ} {av : List Value} : FrameBlind (va_Pc av (q9SDF z)) := by
  intro a U g mk q
  obtain ⟨q0, q2, ⟨q3, q4⟩, q5, q6⟩ := q
  obtain ⟨q2, sw, x1⟩ := q2
  exact ⟨q0, ⟨va_Z.moved (u := U) (U := U.calling g mk a) (Vm.Alike.refl U.vm) q2, sw, va_T.moved (u := U) (U := U.calling g mk a) (Vm.Alike.refl U.vm) x1⟩, ⟨vk_S.moved (u := U) (U := U.calling g mk a) (Vm.Alike.refl U.vm) q3, fun k hk => vk_R.same (u := U) (U := U.calling g mk a) rfl (q4 k hk)⟩, va_Z.moved (u := U) (U := U.calling g mk a) (Vm.Alike.refl U.vm) q5, va_Zq.moved (u := U) (U := U.calling g mk a) (Vm.Alike.refl U.vm) q6⟩
theorem q9tt_blind {av : List Value} : FrameBlind (va_Pc av (fun _ => True)) := fun a U g mk h => ⟨h.1, trivial⟩
theorem q9gV {own C : String} {idx maxL : Nat} {y : MethodName} {cc : ByteArray} {ret : Option FieldType} (h1 : Cond.methodLink own idx y ∈ q9ALLW) (h2 : Cond.instanceMethod y ∈ q9ALLW) (h3 : Cond.selects C y y ∈ q9ALLW) (h4 : Cond.initialized C ∈ q9ALLW) (h5 : Cond.code y cc maxL ret ∈ q9ALLW) : GoodIn q9ALLW (wsV own idx C y (.code y cc maxL ret :: q9ALLW)) := q9goodW _ fun w hw => by
  unfold wsV at hw
  rcases List.mem_append.mp hw with hw | hw
  · simp only [List.mem_cons, List.not_mem_nil, or_false] at hw
    rcases hw with rfl | rfl | rfl | rfl
    · exact h1
    · exact h2
    · exact h3
    · exact h4
  · rcases List.mem_cons.mp hw with rfl | hw
    · exact h5
    · exact hw
theorem q9gS {own : String} {idx maxL : Nat} {y : MethodName} {cc : ByteArray} {ret : Option FieldType} (h1 : Cond.methodLink own idx y ∈ q9ALLW) (h2 : Cond.static y ∈ q9ALLW) (h4 : Cond.initialized y.cls ∈ q9ALLW) (h5 : Cond.code y cc maxL ret ∈ q9ALLW) : GoodIn q9ALLW (va_wsS own idx y (.code y cc maxL ret :: q9ALLW)) := q9goodW _ fun w hw => by
  unfold va_wsS at hw
  rcases List.mem_append.mp hw with hw | hw
  · simp only [List.mem_cons, List.not_mem_nil, or_false] at hw
    rcases hw with rfl | rfl | rfl
    · exact h1
    · exact h2
    · exact h4
  · rcases List.mem_cons.mp hw with rfl | hw
    · exact h5
    · exact hw
theorem q9sd_warm {z : q9ZZ} {A0 : Nat → Prop} {s : State} {H : Heap} {locs : List Loc} (h : q9SD z A0 s s.heap) (hS : va_S A0 s.heap H locs) : ∀ U : State, U.heap = H → s.WarmedH U.vm → q9SDF z U := fun U hU hW => by
  unfold q9SDF
  rw [hU]
  exact h.go hS hW fun _ h9 => h9.elim
theorem q9len_sk : ∀ i, i < 19 → q9skL.getD i 0 < 100 ∧ q9skL.getD i 0 = (q9skB.getD i []).length ∧ ∀ k, k < q9skL.getD i 0 → 0 ≤ ((q9skB.getD i []).getD k 0).toInt ∧ ((q9skB.getD i []).getD k 0).toInt ≤ 127 ∧ ((((q9skB.getD i []).getD k 0) &&& 255).toUInt32 % 65536).toInt32 = (q9skB.getD i []).getD k 0 := by decide +kernel
theorem q9dJ0_charAt_5068e_0 : decode cJ0_charAt_5068e 0 = .ok (.aload_n 0, 1) := by decide +kernel
theorem q9dJ0_charAt_5068e_1 : decode cJ0_charAt_5068e 1 = .ok (.invokevirtual 492, 3) := by decide +kernel
theorem q9dJ0_charAt_5068e_4 : decode cJ0_charAt_5068e 4 = .ok (.ifCond .eq 12, 3) := by decide +kernel
theorem q9dJ0_charAt_5068e_7 : decode cJ0_charAt_5068e 7 = .ok (.aload_n 0, 1) := by decide +kernel
theorem q9dJ0_charAt_5068e_8 : decode cJ0_charAt_5068e 8 = .ok (.getfield 9, 3) := by decide +kernel
theorem q9dJ0_charAt_5068e_11 : decode cJ0_charAt_5068e 11 = .ok (.iload_n 1, 1) := by decide +kernel
theorem q9dJ0_charAt_5068e_12 : decode cJ0_charAt_5068e 12 = .ok (.invokestatic 495, 3) := by decide +kernel
theorem q9dJ0_charAt_5068e_15 : decode cJ0_charAt_5068e 15 = .ok (.ireturn, 1) := by decide +kernel
theorem q9dJ0_checkIndex_df160_0 : decode cJ0_checkIndex_df160 0 = .ok (.iload_n 0, 1) := by decide +kernel
theorem q9dJ0_checkIndex_df160_1 : decode cJ0_checkIndex_df160 1 = .ok (.iload_n 1, 1) := by decide +kernel
theorem q9dJ0_checkIndex_df160_2 : decode cJ0_checkIndex_df160 2 = .ok (.getstatic 1053, 3) := by decide +kernel
theorem q9dJ0_checkIndex_df160_5 : decode cJ0_checkIndex_df160 5 = .ok (.invokestatic 1059, 3) := by decide +kernel
theorem q9dJ0_checkIndex_df160_8 : decode cJ0_checkIndex_df160 8 = .ok (.pop, 1) := by decide +kernel
theorem q9dJ0_checkIndex_df160_9 : decode cJ0_checkIndex_df160 9 = .ok (.return_, 1) := by decide +kernel
theorem q9dJ0_coder_7d493_0 : decode cJ0_coder_7d493 0 = .ok (.getstatic 38, 3) := by decide +kernel
theorem q9dJ0_coder_7d493_3 : decode cJ0_coder_7d493 3 = .ok (.ifCond .eq 10, 3) := by decide +kernel
theorem q9dJ0_coder_7d493_6 : decode cJ0_coder_7d493 6 = .ok (.aload_n 0, 1) := by decide +kernel
theorem q9dJ0_coder_7d493_7 : decode cJ0_coder_7d493 7 = .ok (.getfield 15, 3) := by decide +kernel
theorem q9dJ0_coder_7d493_10 : decode cJ0_coder_7d493 10 = .ok (.goto 4, 3) := by decide +kernel
theorem q9dJ0_coder_7d493_14 : decode cJ0_coder_7d493 14 = .ok (.ireturn, 1) := by decide +kernel
theorem q9dJ0_isLatin1_aae02_0 : decode cJ0_isLatin1_aae02 0 = .ok (.getstatic 38, 3) := by decide +kernel
theorem q9dJ0_isLatin1_aae02_3 : decode cJ0_isLatin1_aae02 3 = .ok (.ifCond .eq 14, 3) := by decide +kernel
theorem q9dJ0_isLatin1_aae02_6 : decode cJ0_isLatin1_aae02 6 = .ok (.aload_n 0, 1) := by decide +kernel
theorem q9dJ0_isLatin1_aae02_7 : decode cJ0_isLatin1_aae02 7 = .ok (.getfield 15, 3) := by decide +kernel
theorem q9dJ0_isLatin1_aae02_10 : decode cJ0_isLatin1_aae02 10 = .ok (.ifCond .ne 7, 3) := by decide +kernel
theorem q9dJ0_isLatin1_aae02_13 : decode cJ0_isLatin1_aae02 13 = .ok (.iconst 1, 1) := by decide +kernel
theorem q9dJ0_isLatin1_aae02_14 : decode cJ0_isLatin1_aae02 14 = .ok (.goto 4, 3) := by decide +kernel
theorem q9dJ0_isLatin1_aae02_18 : decode cJ0_isLatin1_aae02 18 = .ok (.ireturn, 1) := by decide +kernel
theorem q9dJ0_length_8abf5_0 : decode cJ0_length_8abf5 0 = .ok (.aload_n 0, 1) := by decide +kernel
theorem q9dJ0_length_8abf5_1 : decode cJ0_length_8abf5 1 = .ok (.getfield 9, 3) := by decide +kernel
theorem q9dJ0_length_8abf5_4 : decode cJ0_length_8abf5 4 = .ok (.arraylength, 1) := by decide +kernel
theorem q9dJ0_length_8abf5_5 : decode cJ0_length_8abf5 5 = .ok (.aload_n 0, 1) := by decide +kernel
theorem q9dJ0_length_8abf5_6 : decode cJ0_length_8abf5 6 = .ok (.invokevirtual 335, 3) := by decide +kernel
theorem q9dJ0_length_8abf5_9 : decode cJ0_length_8abf5 9 = .ok (.ishr, 1) := by decide +kernel
theorem q9dJ0_length_8abf5_10 : decode cJ0_length_8abf5 10 = .ok (.ireturn, 1) := by decide +kernel
theorem q9dJ1_charAt_3b067_0 : decode cJ1_charAt_3b067 0 = .ok (.iload_n 1, 1) := by decide +kernel
theorem q9dJ1_charAt_3b067_1 : decode cJ1_charAt_3b067 1 = .ok (.aload_n 0, 1) := by decide +kernel
theorem q9dJ1_charAt_3b067_2 : decode cJ1_charAt_3b067 2 = .ok (.arraylength, 1) := by decide +kernel
theorem q9dJ1_charAt_3b067_3 : decode cJ1_charAt_3b067 3 = .ok (.invokestatic 9, 3) := by decide +kernel
theorem q9dJ1_charAt_3b067_6 : decode cJ1_charAt_3b067 6 = .ok (.aload_n 0, 1) := by decide +kernel
theorem q9dJ1_charAt_3b067_7 : decode cJ1_charAt_3b067 7 = .ok (.iload_n 1, 1) := by decide +kernel
theorem q9dJ1_charAt_3b067_8 : decode cJ1_charAt_3b067 8 = .ok (.baload, 1) := by decide +kernel
theorem q9dJ1_charAt_3b067_9 : decode cJ1_charAt_3b067 9 = .ok (.sipush 255, 3) := by decide +kernel
theorem q9dJ1_charAt_3b067_12 : decode cJ1_charAt_3b067 12 = .ok (.iand, 1) := by decide +kernel
theorem q9dJ1_charAt_3b067_13 : decode cJ1_charAt_3b067 13 = .ok (.i2c, 1) := by decide +kernel
theorem q9dJ1_charAt_3b067_14 : decode cJ1_charAt_3b067 14 = .ok (.ireturn, 1) := by decide +kernel
theorem q9dJ3_checkIndex_8e157_0 : decode cJ3_checkIndex_8e157 0 = .ok (.iload_n 0, 1) := by decide +kernel
theorem q9dJ3_checkIndex_8e157_1 : decode cJ3_checkIndex_8e157 1 = .ok (.ifCond .lt 8, 3) := by decide +kernel
theorem q9dJ3_checkIndex_8e157_4 : decode cJ3_checkIndex_8e157 4 = .ok (.iload_n 0, 1) := by decide +kernel
theorem q9dJ3_checkIndex_8e157_5 : decode cJ3_checkIndex_8e157 5 = .ok (.iload_n 1, 1) := by decide +kernel
theorem q9dJ3_checkIndex_8e157_6 : decode cJ3_checkIndex_8e157 6 = .ok (.if_icmp .lt 10, 3) := by decide +kernel
theorem q9dJ3_checkIndex_8e157_16 : decode cJ3_checkIndex_8e157 16 = .ok (.iload_n 0, 1) := by decide +kernel
theorem q9dJ3_checkIndex_8e157_17 : decode cJ3_checkIndex_8e157 17 = .ok (.ireturn, 1) := by decide +kernel
set_option maxRecDepth 100000 in
set_option maxHeartbeats 4000000 in
theorem q9s_coder (l : Launch) (z : q9ZZ) (i : Nat) (hi : i < 19) : Met l yJ0_coder_7d493 (.code yJ0_coder_7d493 cJ0_coder_7d493 1 (some .byte) :: q9ALLW) ({ frames := 1, cells := 0, slots := 0, locals := 1 }) (va_Pc [.ref (z.2.1 i)] (q9SDF z)) (va_Qi (fun (r : Int32) (_ : Unit) => r = 0) (fun (_ : Unit) (_ : State) => True) (fun _ => False)) 0 0 (fun _ => False) := by
  refine q9ofWF (cc := cJ0_coder_7d493) (maxL := 1) (ret := (some .byte)) (by decide +kernel) rfl ?_
  intro p e s m args below meth c s₁ B hml hv
  obtain ⟨rfl, hZ⟩ := hv
  have hx := B.exec
  have hb := B.bytes
  have hr := B.returns
  have hts0 := atoms_spec (ws := .code yJ0_coder_7d493 cJ0_coder_7d493 1 (some .byte) :: q9ALLW) B.pre
  have hts : ∀ w ∈ q9ALLW, w.before _ s = true := fun w hw => hts0 w (List.mem_cons_of_mem _ hw)
  have hlocks := B.notSynchronized
  have hown : s.vm.findClass RJ0 = some m.cls := findClass_of_methodNamed B.named
  have hS : va_S (fun _ => False) s.heap s.heap [] := va_S.rf
  have hl := lv_entry ([.ref (z.2.1 i)]) (n := 1) (Nat.le_of_ble_eq_true rfl)
  rw [lg_entry_eq]
  generalize (lg_sl ([.ref (z.2.1 i)]) ++ List.replicate (1 - (lg_sl ([.ref (z.2.1 i)])).length) Slot.unset).toArray = ls at hl ⊢
  have hl : lv_has ls 1 [(0, .ref (z.2.1 i))] := hl
  refine va_gets hx hb hZ.2.2.1 hS hown (hts _ (q9inT4 234 rfl rfl)) (fun _ h9 => h9) q9dJ0_coder_7d493_0 ?_
  refine lv_if_eq (tgt := 13) hx hb q9dJ0_coder_7d493_3 (by decide) (fun h9 => absurd h9 (by decide)) (fun _ => ?_)
  refine lv_aload_n hx hb q9dJ0_coder_7d493_6 rfl (lv_at hl 0 rfl) ?_
  refine vk_getf hx hb (hZ.2.1.1.1 i hi).2.1 hS hown (hts _ (q9inT11 153 rfl rfl)) (fun _ h9 => h9) q9dJ0_coder_7d493_7 ?_
  refine lv_goto (tgt := 14) hx hb q9dJ0_coder_7d493_10 (by decide) ?_
  exact W.zret (ty := .byte) hx hb hr rfl (fun t ht hW => ⟨⟨_, (), rfl, rfl, trivial⟩, hS.F ht⟩) hS.2.2 q9dJ0_coder_7d493_14 hlocks
set_option maxRecDepth 100000 in
set_option maxHeartbeats 4000000 in
theorem q9s_isLatin1 (l : Launch) (z : q9ZZ) (i : Nat) (hi : i < 19) : Met l yJ0_isLatin1_aae02 (.code yJ0_isLatin1_aae02 cJ0_isLatin1_aae02 1 (some .boolean) :: q9ALLW) ({ frames := 1, cells := 0, slots := 0, locals := 1 }) (va_Pc [.ref (z.2.1 i)] (q9SDF z)) (va_Qi (fun (r : Int32) (_ : Unit) => r = 1) (fun (_ : Unit) (_ : State) => True) (fun _ => False)) 0 0 (fun _ => False) := by
  refine q9ofWF (cc := cJ0_isLatin1_aae02) (maxL := 1) (ret := (some .boolean)) (by decide +kernel) rfl ?_
  intro p e s m args below meth c s₁ B hml hv
  obtain ⟨rfl, hZ⟩ := hv
  have hx := B.exec
  have hb := B.bytes
  have hr := B.returns
  have hts0 := atoms_spec (ws := .code yJ0_isLatin1_aae02 cJ0_isLatin1_aae02 1 (some .boolean) :: q9ALLW) B.pre
  have hts : ∀ w ∈ q9ALLW, w.before _ s = true := fun w hw => hts0 w (List.mem_cons_of_mem _ hw)
  have hlocks := B.notSynchronized
  have hown : s.vm.findClass RJ0 = some m.cls := findClass_of_methodNamed B.named
  have hS : va_S (fun _ => False) s.heap s.heap [] := va_S.rf
  have hl := lv_entry ([.ref (z.2.1 i)]) (n := 1) (Nat.le_of_ble_eq_true rfl)
  rw [lg_entry_eq]
  generalize (lg_sl ([.ref (z.2.1 i)]) ++ List.replicate (1 - (lg_sl ([.ref (z.2.1 i)])).length) Slot.unset).toArray = ls at hl ⊢
  have hl : lv_has ls 1 [(0, .ref (z.2.1 i))] := hl
  refine va_gets hx hb hZ.2.2.1 hS hown (hts _ (q9inT4 234 rfl rfl)) (fun _ h9 => h9) q9dJ0_isLatin1_aae02_0 ?_
  refine lv_if_eq (tgt := 17) hx hb q9dJ0_isLatin1_aae02_3 (by decide) (fun h9 => absurd h9 (by decide)) (fun _ => ?_)
  refine lv_aload_n hx hb q9dJ0_isLatin1_aae02_6 rfl (lv_at hl 0 rfl) ?_
  refine vk_getf hx hb (hZ.2.1.1.1 i hi).2.1 hS hown (hts _ (q9inT11 153 rfl rfl)) (fun _ h9 => h9) q9dJ0_isLatin1_aae02_7 ?_
  refine lv_if_ne (tgt := 17) hx hb q9dJ0_isLatin1_aae02_10 (by decide) (fun h9 => absurd rfl h9) (fun _ => ?_)
  refine lv_iconst (v := 1) hx hb q9dJ0_isLatin1_aae02_13 (by decide) ?_
  refine lv_goto (tgt := 18) hx hb q9dJ0_isLatin1_aae02_14 (by decide) ?_
  exact W.zret (ty := .boolean) hx hb hr rfl (fun t ht hW => ⟨⟨_, (), rfl, rfl, trivial⟩, hS.F ht⟩) hS.2.2 q9dJ0_isLatin1_aae02_18 hlocks
set_option maxRecDepth 100000 in
set_option maxHeartbeats 4000000 in
theorem q9s_length (l : Launch) (z : q9ZZ) (i : Nat) (hi : i < 19) : Met l yJ0_length_8abf5 (.code yJ0_length_8abf5 cJ0_length_8abf5 1 (some .int) :: q9ALLW) ({ frames := 2, cells := 0, slots := 0, locals := 21 }) (va_Pc [.ref (z.2.1 i)] (q9SDF z)) (va_Qi (fun (r : Int32) (_ : Unit) => r = Int32.ofNat (q9skL.getD i 0)) (fun (_ : Unit) (_ : State) => True) (fun _ => False)) 0 0 (fun _ => False) := by
  refine q9ofWF (cc := cJ0_length_8abf5) (maxL := 1) (ret := (some .int)) (by decide +kernel) rfl ?_
  intro p e s m args below meth c s₁ B hml hv
  obtain ⟨rfl, hZ⟩ := hv
  have hx := B.exec
  have hb := B.bytes
  have hr := B.returns
  have hts0 := atoms_spec (ws := .code yJ0_length_8abf5 cJ0_length_8abf5 1 (some .int) :: q9ALLW) B.pre
  have hts : ∀ w ∈ q9ALLW, w.before _ s = true := fun w hw => hts0 w (List.mem_cons_of_mem _ hw)
  have hlocks := B.notSynchronized
  have hown : s.vm.findClass RJ0 = some m.cls := findClass_of_methodNamed B.named
  have hS : va_S (fun _ => False) s.heap s.heap [] := va_S.rf
  have hl := lv_entry ([.ref (z.2.1 i)]) (n := 1) (Nat.le_of_ble_eq_true rfl)
  rw [lg_entry_eq]
  generalize (lg_sl ([.ref (z.2.1 i)]) ++ List.replicate (1 - (lg_sl ([.ref (z.2.1 i)])).length) Slot.unset).toArray = ls at hl ⊢
  have hl : lv_has ls 1 [(0, .ref (z.2.1 i))] := hl
  have hZ0 := hZ
  refine lv_aload_n hx hb q9dJ0_length_8abf5_0 rfl (lv_at hl 0 rfl) ?_
  refine vk_getf hx hb (hZ.2.1.1.1 i hi).2.2.1 hS hown (hts _ (q9inT11 152 rfl rfl)) (fun _ h9 => h9) q9dJ0_length_8abf5_1 ?_
  refine va_tlen hx hb (hZ.2.1.1.1 i hi).2.2.2 hS rfl q9dJ0_length_8abf5_4 ?_
  refine lv_aload_n hx hb q9dJ0_length_8abf5_5 rfl (lv_at hl 0 rfl) ?_
  refine va_calli (A1 := fun _ => False) (va_runV (As := []) ⟨hx, hb, hml, hown, hts⟩ (q9s_coder l z i hi) (cwV 0 hts (q9gV (q9inT4 230 rfl rfl) (q9inT4 231 rfl rfl) (q9inT4 232 rfl rfl) (q9inT1 22 rfl rfl) (q9inT4 233 rfl rfl)) rfl rfl rfl (by decide +kernel) ⟨Nat.le_of_ble_eq_true rfl, Nat.le_of_ble_eq_true rfl⟩) ⟨q9sd_blind, vk_recv hZ.2.1.1 hi hS, fun U hU hW => ⟨rfl, q9sd_warm hZ0 hS U hU hW⟩⟩ rfl rfl hl.1 rfl (lv_room (Nat.le_of_ble_eq_true rfl)) q9dJ0_length_8abf5_6 ⟨Nat.le_refl _, Nat.le_refl _⟩) hS (fun _ _ h => h) (fun _ h => h) (fun r9 _ t H locs ht hvm hr9 _ hz hk hS => ?_)
  subst hr9
  refine lv_ishr hx hb q9dJ0_length_8abf5_9 ?_
  have e9 : Int32.ofNat (q9skL.getD i 0) >>> ((0 : Int32) &&& 31) = Int32.ofNat (q9skL.getD i 0) := by
    rw [show ((0 : Int32) &&& 31) = 0 from rfl]
    exact Int32.shiftRight_zero
  exact W.iret hx hb hr (fun t ht hW => ⟨⟨_, (), rfl, e9, trivial⟩, hS.F ht⟩) hS.2.2 q9dJ0_length_8abf5_10 hlocks
theorem q9s_in {i n : Int32} (h0 : 0 ≤ i.toInt) (h1 : i.toInt < n.toInt) : ¬ i < 0 ∧ i < n := ⟨by rw [Int32.lt_iff_toInt_lt, Int32.toInt_zero]; omega, Int32.lt_iff_toInt_lt.mpr h1⟩
set_option maxRecDepth 100000 in
set_option maxHeartbeats 4000000 in
theorem q9s_pre0 (l : Launch) (i n : Int32) (h0 : 0 ≤ i.toInt) (h1 : i.toInt < n.toInt) : Met l yJ3_checkIndex_8e157 (.code yJ3_checkIndex_8e157 cJ3_checkIndex_8e157 3 (some .int) :: q9ALLW) ({ frames := 1, cells := 0, slots := 0, locals := 1 }) (va_Pc [.int i, .int n, .null] (fun _ => True)) (va_Qi (fun (r : Int32) (_ : Unit) => True) (fun (_ : Unit) (_ : State) => True) (fun _ => False)) 0 0 (fun _ => False) := by
  refine q9ofWF (cc := cJ3_checkIndex_8e157) (maxL := 3) (ret := (some .int)) (by decide +kernel) rfl ?_
  intro p e s m args below meth c s₁ B hml hv
  obtain ⟨rfl, hZ⟩ := hv
  have hx := B.exec
  have hb := B.bytes
  have hr := B.returns
  have hts0 := atoms_spec (ws := .code yJ3_checkIndex_8e157 cJ3_checkIndex_8e157 3 (some .int) :: q9ALLW) B.pre
  have hts : ∀ w ∈ q9ALLW, w.before _ s = true := fun w hw => hts0 w (List.mem_cons_of_mem _ hw)
  have hlocks := B.notSynchronized
  have hown : s.vm.findClass RJ3 = some m.cls := findClass_of_methodNamed B.named
  have hS : va_S (fun _ => False) s.heap s.heap [] := va_S.rf
  have hl := lv_entry ([.int i, .int n, .null]) (n := 3) (Nat.le_of_ble_eq_true rfl)
  rw [lg_entry_eq]
  generalize (lg_sl ([.int i, .int n, .null]) ++ List.replicate (3 - (lg_sl ([.int i, .int n, .null])).length) Slot.unset).toArray = ls at hl ⊢
  have hl : lv_has ls 3 [(0, .int i), (1, .int n), (2, .null)] := hl
  obtain ⟨h2, h3⟩ := q9s_in h0 h1
  refine lv_iload_n hx hb q9dJ3_checkIndex_8e157_0 rfl (lv_at hl 0 rfl) ?_
  refine lv_if_lt (tgt := 9) hx hb q9dJ3_checkIndex_8e157_1 (by decide) (fun h9 => absurd h9 h2) (fun _ => ?_)
  refine lv_iload_n hx hb q9dJ3_checkIndex_8e157_4 rfl (lv_at hl 0 rfl) ?_
  refine lv_iload_n hx hb q9dJ3_checkIndex_8e157_5 rfl (lv_at hl 1 rfl) ?_
  refine lv_icmp_lt (tgt := 16) hx hb q9dJ3_checkIndex_8e157_6 (by decide) (fun _ => ?_) (fun h9 => absurd h3 h9)
  refine lv_iload_n hx hb q9dJ3_checkIndex_8e157_16 rfl (lv_at hl 0 rfl) ?_
  exact W.iret hx hb hr (fun t ht hW => ⟨⟨_, (), rfl, trivial, trivial⟩, hS.F ht⟩) hS.2.2 q9dJ3_checkIndex_8e157_17 hlocks
set_option maxRecDepth 100000 in
set_option maxHeartbeats 4000000 in
theorem q9s_pre1 (l : Launch) (a : Nat) (i n : Int32) (h0 : 0 ≤ i.toInt) (h1 : i.toInt < n.toInt) : Met l yJ3_checkIndex_8e157 (.code yJ3_checkIndex_8e157 cJ3_checkIndex_8e157 3 (some .int) :: q9ALLW) ({ frames := 1, cells := 0, slots := 0, locals := 1 }) (va_Pc [.int i, .int n, .ref a] (fun _ => True)) (va_Qi (fun (r : Int32) (_ : Unit) => True) (fun (_ : Unit) (_ : State) => True) (fun _ => False)) 0 0 (fun _ => False) := by
  refine q9ofWF (cc := cJ3_checkIndex_8e157) (maxL := 3) (ret := (some .int)) (by decide +kernel) rfl ?_
  intro p e s m args below meth c s₁ B hml hv
  obtain ⟨rfl, hZ⟩ := hv
  have hx := B.exec
  have hb := B.bytes
  have hr := B.returns
  have hts0 := atoms_spec (ws := .code yJ3_checkIndex_8e157 cJ3_checkIndex_8e157 3 (some .int) :: q9ALLW) B.pre
  have hts : ∀ w ∈ q9ALLW, w.before _ s = true := fun w hw => hts0 w (List.mem_cons_of_mem _ hw)
  have hlocks := B.notSynchronized
  have hown : s.vm.findClass RJ3 = some m.cls := findClass_of_methodNamed B.named
  have hS : va_S (fun _ => False) s.heap s.heap [] := va_S.rf
  have hl := lv_entry ([.int i, .int n, .ref a]) (n := 3) (Nat.le_of_ble_eq_true rfl)
  rw [lg_entry_eq]
  generalize (lg_sl ([.int i, .int n, .ref a]) ++ List.replicate (3 - (lg_sl ([.int i, .int n, .ref a])).length) Slot.unset).toArray = ls at hl ⊢
  have hl : lv_has ls 3 [(0, .int i), (1, .int n), (2, .ref a)] := hl
  obtain ⟨h2, h3⟩ := q9s_in h0 h1
  refine lv_iload_n hx hb q9dJ3_checkIndex_8e157_0 rfl (lv_at hl 0 rfl) ?_
  refine lv_if_lt (tgt := 9) hx hb q9dJ3_checkIndex_8e157_1 (by decide) (fun h9 => absurd h9 h2) (fun _ => ?_)
  refine lv_iload_n hx hb q9dJ3_checkIndex_8e157_4 rfl (lv_at hl 0 rfl) ?_
  refine lv_iload_n hx hb q9dJ3_checkIndex_8e157_5 rfl (lv_at hl 1 rfl) ?_
  refine lv_icmp_lt (tgt := 16) hx hb q9dJ3_checkIndex_8e157_6 (by decide) (fun _ => ?_) (fun h9 => absurd h3 h9)
  refine lv_iload_n hx hb q9dJ3_checkIndex_8e157_16 rfl (lv_at hl 0 rfl) ?_
  exact W.iret hx hb hr (fun t ht hW => ⟨⟨_, (), rfl, trivial, trivial⟩, hS.F ht⟩) hS.2.2 q9dJ3_checkIndex_8e157_17 hlocks
set_option maxRecDepth 100000 in
set_option maxHeartbeats 4000000 in
theorem q9s_check (l : Launch) (z : q9ZZ) (i n : Int32) (h0 : 0 ≤ i.toInt) (h1 : i.toInt < n.toInt) : Met l yJ0_checkIndex_df160 (.code yJ0_checkIndex_df160 cJ0_checkIndex_df160 2 none :: q9ALLW) ({ frames := 2, cells := 0, slots := 0, locals := 23 }) (va_Pc [.int i, .int n] (q9SDF z)) (va_Qv (fun (_ : Unit) => True) (fun (_ : Unit) (_ : State) => True) (fun _ => False)) 0 0 (fun _ => False) := by
  refine q9ofWF (cc := cJ0_checkIndex_df160) (maxL := 2) (ret := none) (by decide +kernel) rfl ?_
  intro p e s m args below meth c s₁ B hml hv
  obtain ⟨rfl, hZ⟩ := hv
  have hx := B.exec
  have hb := B.bytes
  have hr := B.returns
  have hts0 := atoms_spec (ws := .code yJ0_checkIndex_df160 cJ0_checkIndex_df160 2 none :: q9ALLW) B.pre
  have hts : ∀ w ∈ q9ALLW, w.before _ s = true := fun w hw => hts0 w (List.mem_cons_of_mem _ hw)
  have hlocks := B.notSynchronized
  have hown : s.vm.findClass RJ0 = some m.cls := findClass_of_methodNamed B.named
  have hS : va_S (fun _ => False) s.heap s.heap [] := va_S.rf
  have hl := lv_entry ([.int i, .int n]) (n := 2) (Nat.le_of_ble_eq_true rfl)
  rw [lg_entry_eq]
  generalize (lg_sl ([.int i, .int n]) ++ List.replicate (2 - (lg_sl ([.int i, .int n])).length) Slot.unset).toArray = ls at hl ⊢
  have hl : lv_has ls 2 [(0, .int i), (1, .int n)] := hl
  refine lv_iload_n hx hb q9dJ0_checkIndex_df160_0 rfl (lv_at hl 0 rfl) ?_
  refine lv_iload_n hx hb q9dJ0_checkIndex_df160_1 rfl (lv_at hl 1 rfl) ?_
  rcases hZ.2.2.2 with hq | ⟨a, hq⟩
  · refine va_gets hx hb hq hS hown (hts _ (q9inT5 10 rfl rfl)) (fun _ h9 => h9) q9dJ0_checkIndex_df160_2 ?_
    refine va_calli (A1 := fun _ => False) (va_runS (As := [.int i, .int n, .null]) ⟨hx, hb, hml, hown, hts⟩ (q9s_pre0 l i n h0 h1) (va_cwS 3 hts (q9gS (q9inT5 12 rfl rfl) (q9inT5 13 rfl rfl) (q9inT1 24 rfl rfl) (q9inT5 14 rfl rfl)) rfl rfl rfl (by decide +kernel) ⟨Nat.le_of_ble_eq_true rfl, Nat.le_of_ble_eq_true rfl⟩) ⟨q9tt_blind, fun U hU hW => ⟨rfl, trivial⟩⟩ rfl rfl hl.1 rfl (lv_room (Nat.le_of_ble_eq_true rfl)) q9dJ0_checkIndex_df160_5 ⟨Nat.le_refl _, Nat.le_refl _⟩) hS (fun _ _ h => h) (fun _ h => h) (fun r9 _ t H locs ht hvm hr9 _ hz hk hS => ?_)
    refine lv_pop hx hb q9dJ0_checkIndex_df160_8 rfl ?_
    exact W.vret hx hb hr (fun t ht hW => ⟨⟨(), rfl, trivial, trivial⟩, hS.F ht⟩) hS.2.2 q9dJ0_checkIndex_df160_9 hlocks
  · refine va_gets hx hb hq hS hown (hts _ (q9inT5 10 rfl rfl)) (fun _ h9 => h9) q9dJ0_checkIndex_df160_2 ?_
    refine va_calli (A1 := fun _ => False) (va_runS (As := [.int i, .int n, .ref a]) ⟨hx, hb, hml, hown, hts⟩ (q9s_pre1 l a i n h0 h1) (va_cwS 3 hts (q9gS (q9inT5 12 rfl rfl) (q9inT5 13 rfl rfl) (q9inT1 24 rfl rfl) (q9inT5 14 rfl rfl)) rfl rfl rfl (by decide +kernel) ⟨Nat.le_of_ble_eq_true rfl, Nat.le_of_ble_eq_true rfl⟩) ⟨q9tt_blind, fun U hU hW => ⟨rfl, trivial⟩⟩ rfl rfl hl.1 rfl (lv_room (Nat.le_of_ble_eq_true rfl)) q9dJ0_checkIndex_df160_5 ⟨Nat.le_refl _, Nat.le_refl _⟩) hS (fun _ _ h => h) (fun _ h => h) (fun r9 _ t H locs ht hvm hr9 _ hz hk hS => ?_)
    refine lv_pop hx hb q9dJ0_checkIndex_df160_8 rfl ?_
    exact W.vret hx hb hr (fun t ht hW => ⟨⟨(), rfl, trivial, trivial⟩, hS.F ht⟩) hS.2.2 q9dJ0_checkIndex_df160_9 hlocks
theorem q9chr_nar {u : Int32} (h0 : 0 ≤ u.toInt) (h1 : u.toInt ≤ 127) : (u.toUInt32 % 65536).toInt32 = u := by
  apply Int32.toInt_inj.mp
  have h2 : u.toBitVec.toInt = u.toInt := rfl
  have h3 := BitVec.toInt_eq_toNat_cond u.toBitVec
  have h4 := u.toBitVec.isLt
  have h5 : u.toBitVec.toNat = u.toInt.toNat := by
    rw [h2] at h3
    split at h3 <;> omega
  have h6 : (u.toUInt32 % 65536).toNat = u.toInt.toNat := by
    rw [UInt32.toNat_mod]
    show u.toBitVec.toNat % 65536 = _
    rw [h5]
    omega
  have h7 : ((u.toUInt32 % 65536).toInt32).toBitVec.toNat = u.toInt.toNat := h6
  have h8 := BitVec.toInt_eq_toNat_cond ((u.toUInt32 % 65536).toInt32).toBitVec
  have h9 : ((u.toUInt32 % 65536).toInt32).toInt = ((u.toUInt32 % 65536).toInt32).toBitVec.toInt := rfl
  rw [h9, h8, h7]
  split <;> omega
set_option maxRecDepth 100000 in
set_option maxHeartbeats 4000000 in
theorem q9s_latin (l : Launch) (z : q9ZZ) (i : Nat) (hi : i < 19) (j : Int32) (h0 : 0 ≤ j.toInt) (h1 : j.toInt < (q9skL.getD i 0 : Nat)) : Met l yJ1_charAt_3b067 (.code yJ1_charAt_3b067 cJ1_charAt_3b067 2 (some .char) :: q9ALLW) ({ frames := 3, cells := 0, slots := 0, locals := 44 }) (va_Pc [.ref (z.2.2 i), .int j] (q9SDF z)) (va_Qi (fun (r : Int32) (_ : Unit) => r = (q9skB.getD i []).getD j.toNatClampNeg 0) (fun (_ : Unit) (_ : State) => True) (fun _ => False)) 0 0 (fun _ => False) := by
  refine q9ofWF (cc := cJ1_charAt_3b067) (maxL := 2) (ret := (some .char)) (by decide +kernel) rfl ?_
  intro p e s m args below meth c s₁ B hml hv
  obtain ⟨rfl, hZ⟩ := hv
  have hx := B.exec
  have hb := B.bytes
  have hr := B.returns
  have hts0 := atoms_spec (ws := .code yJ1_charAt_3b067 cJ1_charAt_3b067 2 (some .char) :: q9ALLW) B.pre
  have hts : ∀ w ∈ q9ALLW, w.before _ s = true := fun w hw => hts0 w (List.mem_cons_of_mem _ hw)
  have hlocks := B.notSynchronized
  have hown : s.vm.findClass RJ1 = some m.cls := findClass_of_methodNamed B.named
  have hS : va_S (fun _ => False) s.heap s.heap [] := va_S.rf
  have hl := lv_entry ([.ref (z.2.2 i), .int j]) (n := 2) (Nat.le_of_ble_eq_true rfl)
  rw [lg_entry_eq]
  generalize (lg_sl ([.ref (z.2.2 i), .int j]) ++ List.replicate (2 - (lg_sl ([.ref (z.2.2 i), .int j])).length) Slot.unset).toArray = ls at hl ⊢
  have hl : lv_has ls 2 [(0, .ref (z.2.2 i)), (1, .int j)] := hl
  have hZ0 := hZ
  obtain ⟨g1, g2, g3⟩ := q9len_sk i hi
  have en : (Int32.ofNat (q9skL.getD i 0)).toInt = (q9skL.getD i 0 : Nat) := by
    rw [Int32.toInt_ofNat_of_lt (by omega)]
  have hc : j.toNatClampNeg = j.toInt.toNat := rfl
  refine lv_iload_n hx hb q9dJ1_charAt_3b067_0 rfl (lv_at hl 1 rfl) ?_
  refine lv_aload_n hx hb q9dJ1_charAt_3b067_1 rfl (lv_at hl 0 rfl) ?_
  refine va_tlen hx hb (hZ.2.1.1.1 i hi).2.2.2 hS rfl q9dJ1_charAt_3b067_2 ?_
  refine va_callv (A1 := fun _ => False) (va_runS (As := [.int j, .int (Int32.ofNat (q9skL.getD i 0))]) ⟨hx, hb, hml, hown, hts⟩ (q9s_check l z j _ h0 (by rw [en]; exact h1)) (va_cwS 2 hts (q9gS (q9inT5 7 rfl rfl) (q9inT5 8 rfl rfl) (q9inT1 22 rfl rfl) (q9inT5 9 rfl rfl)) rfl rfl rfl (by decide +kernel) ⟨Nat.le_of_ble_eq_true rfl, Nat.le_of_ble_eq_true rfl⟩) ⟨q9sd_blind, fun U hU hW => ⟨rfl, q9sd_warm hZ0 hS U hU hW⟩⟩ rfl rfl hl.1 rfl (lv_room (Nat.le_of_ble_eq_true rfl)) q9dJ1_charAt_3b067_3 ⟨Nat.le_refl _, Nat.le_refl _⟩) hS (fun _ _ h => h) (fun _ h => h) (fun _ t H locs ht hvm _ _ hz hk hS => ?_)
  refine lv_aload_n hx hb q9dJ1_charAt_3b067_6 rfl (lv_at hl 0 rfl) ?_
  refine lv_iload_n hx hb q9dJ1_charAt_3b067_7 rfl (lv_at hl 1 rfl) ?_
  refine va_tb hx hb (hZ.2.1.1.1 i hi).2.2.2 hS (i := j) (by rintro (h | h); exact (q9s_in h0 (n := Int32.ofNat (q9skL.getD i 0)) (by rw [en]; exact h1)).1 h; omega) (v := .int ((q9skB.getD i []).getD j.toNatClampNeg 0)) rfl q9dJ1_charAt_3b067_8 ?_
  refine lv_sipush (v := 255) hx hb q9dJ1_charAt_3b067_9 (by decide) ?_
  refine lv_iand hx hb q9dJ1_charAt_3b067_12 ?_
  refine lv_i2c hx hb q9dJ1_charAt_3b067_13 rfl ?_
  rw [(g3 j.toNatClampNeg (by omega)).2.2]
  refine W.zret (ty := .char) hx hb hr ?_ (fun t ht hW => ⟨⟨_, (), rfl, rfl, trivial⟩, hS.F ht⟩) hS.2.2 q9dJ1_charAt_3b067_14 hlocks
  show Value.int _ = _
  exact congrArg Value.int (q9chr_nar (g3 j.toNatClampNeg (by omega)).1 (g3 j.toNatClampNeg (by omega)).2.1)
set_option maxRecDepth 100000 in
set_option maxHeartbeats 4000000 in
theorem q9s_charAt (l : Launch) (z : q9ZZ) (i : Nat) (hi : i < 19) (j : Int32) (h0 : 0 ≤ j.toInt) (h1 : j.toInt < (q9skL.getD i 0 : Nat)) : Met l yJ0_charAt_5068e (.code yJ0_charAt_5068e cJ0_charAt_5068e 2 (some .char) :: q9ALLW) ({ frames := 4, cells := 0, slots := 0, locals := 65 }) (va_Pc [.ref (z.2.1 i), .int j] (q9SDF z)) (va_Qi (fun (r : Int32) (_ : Unit) => r = (q9skB.getD i []).getD j.toNatClampNeg 0) (fun (_ : Unit) (_ : State) => True) (fun _ => False)) 0 0 (fun _ => False) := by
  refine q9ofWF (cc := cJ0_charAt_5068e) (maxL := 2) (ret := (some .char)) (by decide +kernel) rfl ?_
  intro p e s m args below meth c s₁ B hml hv
  obtain ⟨rfl, hZ⟩ := hv
  have hx := B.exec
  have hb := B.bytes
  have hr := B.returns
  have hts0 := atoms_spec (ws := .code yJ0_charAt_5068e cJ0_charAt_5068e 2 (some .char) :: q9ALLW) B.pre
  have hts : ∀ w ∈ q9ALLW, w.before _ s = true := fun w hw => hts0 w (List.mem_cons_of_mem _ hw)
  have hlocks := B.notSynchronized
  have hown : s.vm.findClass RJ0 = some m.cls := findClass_of_methodNamed B.named
  have hS : va_S (fun _ => False) s.heap s.heap [] := va_S.rf
  have hl := lv_entry ([.ref (z.2.1 i), .int j]) (n := 2) (Nat.le_of_ble_eq_true rfl)
  rw [lg_entry_eq]
  generalize (lg_sl ([.ref (z.2.1 i), .int j]) ++ List.replicate (2 - (lg_sl ([.ref (z.2.1 i), .int j])).length) Slot.unset).toArray = ls at hl ⊢
  have hl : lv_has ls 2 [(0, .ref (z.2.1 i)), (1, .int j)] := hl
  have hZ0 := hZ
  obtain ⟨g1, g2, g3⟩ := q9len_sk i hi
  have hc : j.toNatClampNeg = j.toInt.toNat := rfl
  refine lv_aload_n hx hb q9dJ0_charAt_5068e_0 rfl (lv_at hl 0 rfl) ?_
  refine va_calli (A1 := fun _ => False) (va_runV (As := []) ⟨hx, hb, hml, hown, hts⟩ (q9s_isLatin1 l z i hi) (cwV 0 hts (q9gV (q9inT5 0 rfl rfl) (q9inT5 1 rfl rfl) (q9inT5 2 rfl rfl) (q9inT1 22 rfl rfl) (q9inT5 3 rfl rfl)) rfl rfl rfl (by decide +kernel) ⟨Nat.le_of_ble_eq_true rfl, Nat.le_of_ble_eq_true rfl⟩) ⟨q9sd_blind, vk_recv hZ.2.1.1 hi hS, fun U hU hW => ⟨rfl, q9sd_warm hZ0 hS U hU hW⟩⟩ rfl rfl hl.1 rfl (lv_room (Nat.le_of_ble_eq_true rfl)) q9dJ0_charAt_5068e_1 ⟨Nat.le_refl _, Nat.le_refl _⟩) hS (fun _ _ h => h) (fun _ h => h) (fun r9 _ t H locs ht hvm hr9 _ hz hk hS => ?_)
  subst hr9
  refine lv_if_eq (tgt := 16) hx hb q9dJ0_charAt_5068e_4 (by decide) (fun h9 => absurd h9 (by decide)) (fun _ => ?_)
  refine lv_aload_n hx hb q9dJ0_charAt_5068e_7 rfl (lv_at hl 0 rfl) ?_
  refine vk_getf hx hb (hZ.2.1.1.1 i hi).2.2.1 hS hown (hts _ (q9inT11 152 rfl rfl)) (fun _ h9 => h9) q9dJ0_charAt_5068e_8 ?_
  refine lv_iload_n hx hb q9dJ0_charAt_5068e_11 rfl (lv_at hl 1 rfl) ?_
  refine va_calli (A1 := fun _ => False) (va_runS (As := [.ref (z.2.2 i), .int j]) ⟨hx, hb, hml, hown, hts⟩ (q9s_latin l z i hi j h0 h1) (va_cwS 2 hts (q9gS (q9inT5 4 rfl rfl) (q9inT5 5 rfl rfl) (q9inT1 23 rfl rfl) (q9inT5 6 rfl rfl)) rfl rfl rfl (by decide +kernel) ⟨Nat.le_of_ble_eq_true rfl, Nat.le_of_ble_eq_true rfl⟩) ⟨q9sd_blind, fun U hU hW => ⟨rfl, q9sd_warm hZ0 hS U hU hW⟩⟩ rfl rfl hl.1 rfl (lv_room (Nat.le_of_ble_eq_true rfl)) q9dJ0_charAt_5068e_12 ⟨Nat.le_refl _, Nat.le_refl _⟩) hS (fun _ _ h => h) (fun _ h => h) (fun r9 _ t H locs ht hvm hr9 _ hz hk hS => ?_)
  subst hr9
  refine W.zret (ty := .char) hx hb hr ?_ (fun t ht hW => ⟨⟨_, (), rfl, rfl, trivial⟩, hS.F ht⟩) hS.2.2 q9dJ0_charAt_5068e_15 hlocks
  exact congrArg Value.int (q9chr_nar (g3 j.toNatClampNeg (by omega)).1 (g3 j.toNatClampNeg (by omega)).2.1)
