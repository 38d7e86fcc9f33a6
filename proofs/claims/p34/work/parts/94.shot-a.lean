variable {O : ORC}
set_option maxRecDepth 100000 in
theorem q9wk_X8_addPuppet : GoodIn q9ALLW [.code yX8_addPuppet cX8_addPuppet 3 (some .int), .initialized (yX8_addPuppet).cls] := q9goodW _ (List.forall_mem_cons.mpr ⟨(q9inT3 43 rfl rfl), (List.forall_mem_cons.mpr ⟨(q9inT1 2 rfl rfl), (fun _ h => absurd h List.not_mem_nil)⟩)⟩)
set_option maxRecDepth 100000 in
theorem q9wv_X8_addPuppet : ∀ w ∈ ([.instanceMethod yX8_addPuppet, .selects (yX8_addPuppet).cls yX8_addPuppet yX8_addPuppet] : List Cond), w ∈ q9ALLW := (List.forall_mem_cons.mpr ⟨(q9inT3 41 rfl rfl), (List.forall_mem_cons.mpr ⟨(q9inT3 42 rfl rfl), (fun _ h => absurd h List.not_mem_nil)⟩)⟩)
set_option maxRecDepth 100000 in
theorem q9lki_X11_80_X5_init : q9LKi RX11 (80, 2, 5, q9i_X5_init) := ⟨q9goodW _ (List.forall_mem_cons.mpr ⟨(q9inT2 239 rfl rfl), (List.forall_mem_cons.mpr ⟨(q9inT1 13 rfl rfl), (List.forall_mem_cons.mpr ⟨(q9inT2 238 rfl rfl), (fun _ h => absurd h List.not_mem_nil)⟩)⟩)⟩), rfl, rfl, ⟨by decide, by decide, by decide +kernel⟩, List.mem_of_getElem? (i := 3) rfl⟩
theorem q9dfl_5 : ∀ F, q9TBL.1[20 + 5]? = some F → ∀ j, j < 11 → ∃ t, F[j]? = some t ∧ defaultValue (tyX5 j) = q9dflV t := fun F h => q9dfl_ok (by cases h; rfl)
noncomputable def q9i_X12_F1_puppet : q9INST := (yX12_puppet, cX12_puppet, 1, (some .int), (1, 1, 0, 0), q9dcQ 0x1010300000000000000050300000000000002010101000200010200000100010e000000180200000003, q9dcP 0x101030000000100000102000000020000000505000000020304020204010403000203010402000302060000040101010002000102000301001002000e00000e00000018020000000501, [], [768, 769], [])
noncomputable def q9e_X12_F1_puppet : q9EN := (q9TBL, q9fs_X12, q9ps_X12, [768, 769], [], [], (1, 1, 0, 0), 1, [], [], [])
noncomputable def q9cu_X12_F1_puppet : List q9CUT := []
set_option maxRecDepth 100000 in
set_option maxHeartbeats 4000000 in
theorem q9c_X12_F1_puppet (l : Launch) (hst : l.stackTraces = false) : q9CON O l q9TBL q9ALLW q9i_X12_F1_puppet := q9con_of (q := q9i_X12_F1_puppet) (n := q9e_X12_F1_puppet) (K := []) (K2 := []) (cuts := q9cu_X12_F1_puppet) (f := 23) hst (by decide +kernel) (fun h => absurd rfl h) ⟨q9goodA, q9fs_X12_ok, q9ps_X12_ok, (fun _ h => absurd h List.not_mem_nil), (fun _ h => absurd h List.not_mem_nil), q9kas_ok, (fun _ h => absurd h List.not_mem_nil), (fun _ h => absurd h List.not_mem_nil), (fun _ h => absurd h List.not_mem_nil)⟩ rfl rfl rfl (by decide +kernel)
noncomputable def q9i_X12_F2_puppet : q9INST := (yX12_puppet, cX12_puppet, 1, (some .int), (1, 1, 0, 0), q9dcQ 0x10103000000000000000503000000000000020101010002000102000001000110100000180200000003, q9dcP 0x1010300000102000000020000000504000000000000030101010002000102010001001010001010000018020000000401, [], [768], [])
noncomputable def q9e_X12_F2_puppet : q9EN := (q9TBL, q9fs_X12, q9ps_X12, [768], [], [], (1, 1, 0, 0), 1, [], [], [])
noncomputable def q9cu_X12_F2_puppet : List q9CUT := []
set_option maxRecDepth 100000 in
set_option maxHeartbeats 4000000 in
theorem q9c_X12_F2_puppet (l : Launch) (hst : l.stackTraces = false) : q9CON O l q9TBL q9ALLW q9i_X12_F2_puppet := q9con_of (q := q9i_X12_F2_puppet) (n := q9e_X12_F2_puppet) (K := []) (K2 := []) (cuts := q9cu_X12_F2_puppet) (f := 14) hst (by decide +kernel) (fun h => absurd rfl h) ⟨q9goodA, q9fs_X12_ok, q9ps_X12_ok, (fun _ h => absurd h List.not_mem_nil), (fun _ h => absurd h List.not_mem_nil), q9kas_ok, (fun _ h => absurd h List.not_mem_nil), (fun _ h => absurd h List.not_mem_nil), (fun _ h => absurd h List.not_mem_nil)⟩ rfl rfl rfl (by decide +kernel)
set_option maxRecDepth 100000 in
theorem q9wk_X9_isFirstAim : GoodIn q9ALLW [.code yX9_isFirstAim cX9_isFirstAim 3 (some .boolean), .initialized (yX9_isFirstAim).cls] := q9goodW _ (List.forall_mem_cons.mpr ⟨(q9inT5 119 rfl rfl), (List.forall_mem_cons.mpr ⟨(q9inT1 7 rfl rfl), (fun _ h => absurd h List.not_mem_nil)⟩)⟩)
set_option maxRecDepth 100000 in
theorem q9wv_X9_isFirstAim : ∀ w ∈ ([.instanceMethod yX9_isFirstAim, .selects (yX9_isFirstAim).cls yX9_isFirstAim yX9_isFirstAim] : List Cond), w ∈ q9ALLW := (List.forall_mem_cons.mpr ⟨(q9inT5 118 rfl rfl), (List.forall_mem_cons.mpr ⟨(q9inW 37 rfl rfl), (fun _ h => absurd h List.not_mem_nil)⟩)⟩)
set_option maxRecDepth 100000 in
theorem q9lk_X9_76_X9_isFirstAim : q9LKs q9ALLW RX9 (76, 0, 9, q9i_X9_isFirstAim) := ⟨q9wk_X9_isFirstAim, ⟨by decide, by decide, by decide +kernel⟩, q9goodW _ (List.forall_mem_cons.mpr ⟨(q9inT5 116 rfl rfl), q9wv_X9_isFirstAim⟩), _, rfl, rfl⟩
set_option maxRecDepth 100000 in
theorem q9wk_X6_frameCount : GoodIn q9ALLW [.code yX6_frameCount cX6_frameCount 1 (some .int), .initialized (yX6_frameCount).cls] := q9goodW _ (List.forall_mem_cons.mpr ⟨(q9inT5 125 rfl rfl), (List.forall_mem_cons.mpr ⟨(q9inT1 4 rfl rfl), (fun _ h => absurd h List.not_mem_nil)⟩)⟩)
set_option maxRecDepth 100000 in
theorem q9wv_X6_frameCount : ∀ w ∈ ([.instanceMethod yX6_frameCount, .selects (yX6_frameCount).cls yX6_frameCount yX6_frameCount] : List Cond), w ∈ q9ALLW := (List.forall_mem_cons.mpr ⟨(q9inT5 123 rfl rfl), (List.forall_mem_cons.mpr ⟨(q9inT5 124 rfl rfl), (fun _ h => absurd h List.not_mem_nil)⟩)⟩)
set_option maxRecDepth 100000 in
theorem q9lk_X9_89_J6_bitCount_0f7a4 : q9LKs q9ALLW RX9 (89, 1, 0, q9i_J6_bitCount_0f7a4) := ⟨q9wk_J6_bitCount_0f7a4, ⟨by decide, by decide, by decide +kernel⟩, q9goodW _ (List.forall_mem_cons.mpr ⟨(q9inT5 129 rfl rfl), q9wv_J6_bitCount_0f7a4⟩)⟩
set_option maxRecDepth 100000 in
theorem q9lk_X9_111_X11_swapIn_k143 : q9LKs q9ALLW RX9 (111, 2, 0, q9i_X11_swapIn_k143) := ⟨q9wk_X11_swapIn, ⟨by decide, by decide, by decide +kernel⟩, List.mem_of_getElem? (i := 11) rfl, q9goodW _ q9wv_X11_swapIn⟩
set_option maxRecDepth 100000 in
theorem q9lk_X9_115_X11_hasBit : q9LKs q9ALLW RX9 (115, 2, 0, q9i_X11_hasBit) := ⟨q9wk_X11_hasBit, ⟨by decide, by decide, by decide +kernel⟩, List.mem_of_getElem? (i := 12) rfl, q9goodW _ q9wv_X11_hasBit⟩
theorem q9dfl_7 : ∀ F, q9TBL.1[20 + 7]? = some F → ∀ j, j < 15 → ∃ t, F[j]? = some t ∧ defaultValue (tyX7 j) = q9dflV t := fun F h => q9dfl_ok (by cases h; rfl)
set_option maxRecDepth 100000 in
theorem q9wk_X9_bareShot : GoodIn q9ALLW [.code yX9_bareShot cX9_bareShot 6 (some (.object "PuppetFilm$Shot")), .initialized (yX9_bareShot).cls] := q9goodW _ (List.forall_mem_cons.mpr ⟨(q9inT5 115 rfl rfl), (List.forall_mem_cons.mpr ⟨(q9inT1 7 rfl rfl), (fun _ h => absurd h List.not_mem_nil)⟩)⟩)
set_option maxRecDepth 100000 in
theorem q9wv_X9_bareShot : ∀ w ∈ ([.instanceMethod yX9_bareShot, .selects (yX9_bareShot).cls yX9_bareShot yX9_bareShot] : List Cond), w ∈ q9ALLW := (List.forall_mem_cons.mpr ⟨(q9inT5 114 rfl rfl), (List.forall_mem_cons.mpr ⟨(q9inW 36 rfl rfl), (fun _ h => absurd h List.not_mem_nil)⟩)⟩)
set_option maxRecDepth 100000 in
theorem q9lk_X9_60_J7_fill_53178_k157 : q9LKs q9ALLW RX9 (60, 1, 0, q9i_J7_fill_53178_k157) := ⟨q9wk_J7_fill_53178, ⟨by decide, by decide, by decide +kernel⟩, q9goodW _ (List.forall_mem_cons.mpr ⟨(q9inT5 211 rfl rfl), q9wv_J7_fill_53178⟩)⟩
set_option maxRecDepth 100000 in
theorem q9lk_X9_60_J7_fill_53178_k159 : q9LKs q9ALLW RX9 (60, 1, 0, q9i_J7_fill_53178_k159) := ⟨q9wk_J7_fill_53178, ⟨by decide, by decide, by decide +kernel⟩, q9goodW _ (List.forall_mem_cons.mpr ⟨(q9inT5 211 rfl rfl), q9wv_J7_fill_53178⟩)⟩
set_option maxRecDepth 100000 in
theorem q9lk_X9_60_J7_fill_53178_k163 : q9LKs q9ALLW RX9 (60, 1, 0, q9i_J7_fill_53178_k163) := ⟨q9wk_J7_fill_53178, ⟨by decide, by decide, by decide +kernel⟩, q9goodW _ (List.forall_mem_cons.mpr ⟨(q9inT5 211 rfl rfl), q9wv_J7_fill_53178⟩)⟩
set_option maxRecDepth 100000 in
theorem q9lk_X9_69_X9_tellLines_d0 : q9LKs q9ALLW RX9 (69, 0, 9, q9i_X9_tellLines_d0) := ⟨q9wk_X9_tellLines, ⟨by decide, by decide, by decide +kernel⟩, q9goodW _ (List.forall_mem_cons.mpr ⟨(q9inT5 212 rfl rfl), q9wv_X9_tellLines⟩), _, rfl, rfl⟩
noncomputable def q9i_X11_F_within : q9INST := (yX11_within, cX11_within, 3, (some .boolean), (1, 1, 0, 0), q9dcQ 0x200000001000000000000000005040000000003010001020200000003000200010300000302000201000100030ffffffffe0fffffffff000ffffffffe0fffffffff000ffffffffe0fffffffff0000000004, q9dcP 0x2020000010200000002000000050400000000030200010200030103000000030002000103020001000ffffffffe0fffffffff000ffffffffe0fffffffff000ffffffffe0fffffffff000000000401, [], [], [])
noncomputable def q9e_X11_F_within : q9EN := (q9TBL, q9fs_X11, q9ps_X11, [], [], [], (1, 1, 0, 0), 3, [], [], [])
noncomputable def q9cu_X11_F_within : List q9CUT := []
set_option maxRecDepth 100000 in
set_option maxHeartbeats 4000000 in
theorem q9c_X11_F_within (l : Launch) (hst : l.stackTraces = false) : q9CON O l q9TBL q9ALLW q9i_X11_F_within := q9con_of (q := q9i_X11_F_within) (n := q9e_X11_F_within) (K := []) (K2 := []) (cuts := q9cu_X11_F_within) (f := 14) hst (by decide +kernel) (fun h => absurd rfl h) ⟨q9goodA, q9fs_X11_ok, q9ps_X11_ok, (fun _ h => absurd h List.not_mem_nil), (fun _ h => absurd h List.not_mem_nil), q9kas_ok, (fun _ h => absurd h List.not_mem_nil), (fun _ h => absurd h List.not_mem_nil), (fun _ h => absurd h List.not_mem_nil)⟩ rfl rfl rfl (by decide +kernel)
noncomputable def q9i_X11_F_need : q9INST := (yX11_need, cX11_need, 1, none, (1, 1, 0, 0), q9dcQ 0x502000000000000000101000001000102020000000002, q9dcP 0x2000000050200000000000000010100000202000000000201, [], [], [])
noncomputable def q9e_X11_F_need : q9EN := (q9TBL, q9fs_X11, q9ps_X11, [], [], [], (1, 1, 0, 0), 1, [], [], [])
noncomputable def q9cu_X11_F_need : List q9CUT := []
set_option maxRecDepth 100000 in
set_option maxHeartbeats 4000000 in
theorem q9c_X11_F_need (l : Launch) (hst : l.stackTraces = false) : q9CON O l q9TBL q9ALLW q9i_X11_F_need := q9con_of (q := q9i_X11_F_need) (n := q9e_X11_F_need) (K := []) (K2 := []) (cuts := q9cu_X11_F_need) (f := 8) hst (by decide +kernel) (fun h => absurd rfl h) ⟨q9goodA, q9fs_X11_ok, q9ps_X11_ok, (fun _ h => absurd h List.not_mem_nil), (fun _ h => absurd h List.not_mem_nil), q9kas_ok, (fun _ h => absurd h List.not_mem_nil), (fun _ h => absurd h List.not_mem_nil), (fun _ h => absurd h List.not_mem_nil)⟩ rfl rfl rfl (by decide +kernel)
set_option maxRecDepth 100000 in
theorem q9lk_X11_93_X11_F_need : q9LKs q9ALLW RX11 (93, 1, 0, q9i_X11_F_need) := ⟨q9wk_X11_need, ⟨by decide, by decide, by decide +kernel⟩, q9goodW _ (List.forall_mem_cons.mpr ⟨(q9inT4 97 rfl rfl), q9wv_X11_need⟩)⟩
set_option maxRecDepth 100000 in
theorem q9lk_X11_97_X11_F_within : q9LKs q9ALLW RX11 (97, 1, 0, q9i_X11_F_within) := ⟨q9wk_X11_within, ⟨by decide, by decide, by decide +kernel⟩, q9goodW _ (List.forall_mem_cons.mpr ⟨(q9inT4 116 rfl rfl), q9wv_X11_within⟩)⟩
set_option maxRecDepth 100000 in
theorem q9wk_X6_read : GoodIn q9ALLW [.code yX6_read cX6_read 4 none, .initialized (yX6_read).cls] := q9goodW _ (List.forall_mem_cons.mpr ⟨(q9inT4 170 rfl rfl), (List.forall_mem_cons.mpr ⟨(q9inT1 4 rfl rfl), (fun _ h => absurd h List.not_mem_nil)⟩)⟩)
set_option maxRecDepth 100000 in
theorem q9wv_X6_read : ∀ w ∈ ([.instanceMethod yX6_read, .selects (yX6_read).cls yX6_read yX6_read] : List Cond), w ∈ q9ALLW := (List.forall_mem_cons.mpr ⟨(q9inT4 168 rfl rfl), (List.forall_mem_cons.mpr ⟨(q9inT4 169 rfl rfl), (fun _ h => absurd h List.not_mem_nil)⟩)⟩)
set_option maxRecDepth 100000 in
theorem q9wk_X9_tell : GoodIn q9ALLW [.code yX9_tell cX9_tell 1 (some (.object "PuppetFilm$Shot")), .initialized (yX9_tell).cls] := q9goodW _ (List.forall_mem_cons.mpr ⟨(q9inT5 111 rfl rfl), (List.forall_mem_cons.mpr ⟨(q9inT1 7 rfl rfl), (fun _ h => absurd h List.not_mem_nil)⟩)⟩)
set_option maxRecDepth 100000 in
theorem q9wv_X9_tell : ∀ w ∈ ([.instanceMethod yX9_tell, .selects (yX9_tell).cls yX9_tell yX9_tell] : List Cond), w ∈ q9ALLW := (List.forall_mem_cons.mpr ⟨(q9inT5 109 rfl rfl), (List.forall_mem_cons.mpr ⟨(q9inT5 110 rfl rfl), (fun _ h => absurd h List.not_mem_nil)⟩)⟩)
set_option maxRecDepth 100000 in
theorem q9wk_X8_addShot : GoodIn q9ALLW [.code yX8_addShot cX8_addShot 3 (some .int), .initialized (yX8_addShot).cls] := q9goodW _ (List.forall_mem_cons.mpr ⟨(q9inT6 36 rfl rfl), (List.forall_mem_cons.mpr ⟨(q9inT1 2 rfl rfl), (fun _ h => absurd h List.not_mem_nil)⟩)⟩)
set_option maxRecDepth 100000 in
theorem q9wv_X8_addShot : ∀ w ∈ ([.instanceMethod yX8_addShot, .selects (yX8_addShot).cls yX8_addShot yX8_addShot] : List Cond), w ∈ q9ALLW := (List.forall_mem_cons.mpr ⟨(q9inT6 34 rfl rfl), (List.forall_mem_cons.mpr ⟨(q9inT6 35 rfl rfl), (fun _ h => absurd h List.not_mem_nil)⟩)⟩)
set_option maxRecDepth 100000 in
theorem q9wk_X11_shot : GoodIn q9ALLW [.code yX11_shot cX11_shot 2 (some .int), .initialized (yX11_shot).cls] := q9goodW _ (List.forall_mem_cons.mpr ⟨(q9inT4 150 rfl rfl), (List.forall_mem_cons.mpr ⟨(q9inT1 1 rfl rfl), (fun _ h => absurd h List.not_mem_nil)⟩)⟩)
set_option maxRecDepth 100000 in
theorem q9wv_X11_shot : ∀ w ∈ ([.instanceMethod yX11_shot, .selects (yX11_shot).cls yX11_shot yX11_shot] : List Cond), w ∈ q9ALLW := (List.forall_mem_cons.mpr ⟨(q9inT4 148 rfl rfl), (List.forall_mem_cons.mpr ⟨(q9inT4 149 rfl rfl), (fun _ h => absurd h List.not_mem_nil)⟩)⟩)
