variable {O : ORC}
set_option maxRecDepth 100000 in
theorem q9wk_X3_shotIn : GoodIn q9ALLW [.code yX3_shotIn cX3_shotIn 2 (some (.object "PuppetFilm$Shot")), .initialized (yX3_shotIn).cls] := q9goodW _ (List.forall_mem_cons.mpr ⟨(q9inT3 67 rfl rfl), (List.forall_mem_cons.mpr ⟨(q9inT1 9 rfl rfl), (fun _ h => absurd h List.not_mem_nil)⟩)⟩)
set_option maxRecDepth 100000 in
theorem q9wv_X3_shotIn : ∀ w ∈ ([.instanceMethod yX3_shotIn, .selects (yX3_shotIn).cls yX3_shotIn yX3_shotIn] : List Cond), w ∈ q9ALLW := (List.forall_mem_cons.mpr ⟨(q9inT3 66 rfl rfl), (List.forall_mem_cons.mpr ⟨(q9inW 1 rfl rfl), (fun _ h => absurd h List.not_mem_nil)⟩)⟩)
set_option maxRecDepth 100000 in
theorem q9lk_X3_29_X3_shotIn : q9LKs q9ALLW RX3 (29, 0, 3, q9i_X3_shotIn) := ⟨q9wk_X3_shotIn, ⟨by decide, by decide, by decide +kernel⟩, q9goodW _ (List.forall_mem_cons.mpr ⟨(q9inT3 64 rfl rfl), q9wv_X3_shotIn⟩), _, rfl, rfl⟩
set_option maxRecDepth 100000 in
theorem q9lk_X3_41_X11_entry_k116 : q9LKs q9ALLW RX3 (41, 2, 0, q9i_X11_entry_k116) := ⟨q9wk_X11_entry, ⟨by decide, by decide, by decide +kernel⟩, List.mem_of_getElem? (i := 4) rfl, q9goodW _ q9wv_X11_entry⟩
set_option maxRecDepth 100000 in
theorem q9lk_X3_41_X11_entry_k117 : q9LKs q9ALLW RX3 (41, 2, 0, q9i_X11_entry_k117) := ⟨q9wk_X11_entry, ⟨by decide, by decide, by decide +kernel⟩, List.mem_of_getElem? (i := 4) rfl, q9goodW _ q9wv_X11_entry⟩
set_option maxRecDepth 100000 in
theorem q9wk_X8_spanOf : GoodIn q9ALLW [.code yX8_spanOf cX8_spanOf 4 (some .int), .initialized (yX8_spanOf).cls] := q9goodW _ (List.forall_mem_cons.mpr ⟨(q9inT3 91 rfl rfl), (List.forall_mem_cons.mpr ⟨(q9inT1 2 rfl rfl), (fun _ h => absurd h List.not_mem_nil)⟩)⟩)
set_option maxRecDepth 100000 in
theorem q9wv_X8_spanOf : ∀ w ∈ ([.instanceMethod yX8_spanOf, .selects (yX8_spanOf).cls yX8_spanOf yX8_spanOf] : List Cond), w ∈ q9ALLW := (List.forall_mem_cons.mpr ⟨(q9inT3 89 rfl rfl), (List.forall_mem_cons.mpr ⟨(q9inT3 90 rfl rfl), (fun _ h => absurd h List.not_mem_nil)⟩)⟩)
set_option maxRecDepth 100000 in
theorem q9lk_X3_50_X8_spanOf : q9LKs q9ALLW RX3 (50, 0, 8, q9i_X8_spanOf) := ⟨q9wk_X8_spanOf, ⟨by decide, by decide, by decide +kernel⟩, q9goodW _ (List.forall_mem_cons.mpr ⟨(q9inT3 88 rfl rfl), q9wv_X8_spanOf⟩), _, rfl, rfl⟩
noncomputable def q9i_X3_endOf : q9INST := (yX3_endOf, cX3_endOf, 3, (some .int), (4, 70, 0, 0), q9dcQ 0x100000000000000000503000000000000000200010200000201000100020ffffffffe0fffffffff0000060200000003, q9dcP 0x1000001020000000200000005040000000000000002000102000301000ffffffffe0fffffffff000ffffffffe0fffffffff000006020000000401, [], [], [])
noncomputable def q9e_X3_endOf : q9EN := (q9TBL, q9fs_X3, q9ps_X3, [], [(29, 0, 3, q9i_X3_shotIn), (50, 0, 8, q9i_X8_spanOf)], [(41, 2, 0, q9i_X11_entry_k116), (41, 2, 0, q9i_X11_entry_k117)], (4, 70, 0, 0), 3, [], [], [])
noncomputable def q9cu_X3_endOf : List q9CUT := []
set_option maxRecDepth 100000 in
set_option maxHeartbeats 4000000 in
theorem q9c_X3_endOf (l : Launch) (hst : l.stackTraces = false) : q9CON O l q9TBL q9ALLW q9i_X3_endOf := q9con_of (q := q9i_X3_endOf) (n := q9e_X3_endOf) (K := []) (K2 := []) (cuts := q9cu_X3_endOf) (f := 36) hst (by decide +kernel) (fun h => absurd rfl h) ⟨q9goodA, q9fs_X3_ok, q9ps_X3_ok, (List.forall_mem_cons.mpr ⟨⟨⟨q9c_X3_shotIn l hst, q9lk_X3_29_X3_shotIn⟩, rfl⟩, (List.forall_mem_cons.mpr ⟨⟨⟨q9c_X8_spanOf l hst, q9lk_X3_50_X8_spanOf⟩, rfl⟩, (fun _ h => absurd h List.not_mem_nil)⟩)⟩), (List.forall_mem_cons.mpr ⟨⟨⟨q9c_X11_entry_k116 l hst, q9lk_X3_41_X11_entry_k116⟩, by decide⟩, (List.forall_mem_cons.mpr ⟨⟨⟨q9c_X11_entry_k117 l hst, q9lk_X3_41_X11_entry_k117⟩, by decide⟩, (fun _ h => absurd h List.not_mem_nil)⟩)⟩), q9kas_ok, (fun _ h => absurd h List.not_mem_nil), (fun _ h => absurd h List.not_mem_nil), (fun _ h => absurd h List.not_mem_nil)⟩ rfl rfl rfl (by decide +kernel)
set_option maxRecDepth 100000 in
theorem q9wk_X8_dressOf : GoodIn q9ALLW [.code yX8_dressOf cX8_dressOf 2 (some .int), .initialized (yX8_dressOf).cls] := q9goodW _ (List.forall_mem_cons.mpr ⟨(q9inT3 82 rfl rfl), (List.forall_mem_cons.mpr ⟨(q9inT1 2 rfl rfl), (fun _ h => absurd h List.not_mem_nil)⟩)⟩)
set_option maxRecDepth 100000 in
theorem q9wv_X8_dressOf : ∀ w ∈ ([.instanceMethod yX8_dressOf, .selects (yX8_dressOf).cls yX8_dressOf yX8_dressOf] : List Cond), w ∈ q9ALLW := (List.forall_mem_cons.mpr ⟨(q9inT3 80 rfl rfl), (List.forall_mem_cons.mpr ⟨(q9inT3 81 rfl rfl), (fun _ h => absurd h List.not_mem_nil)⟩)⟩)
set_option maxRecDepth 100000 in
theorem q9lk_X3_59_X8_dressOf : q9LKs q9ALLW RX3 (59, 0, 8, q9i_X8_dressOf) := ⟨q9wk_X8_dressOf, ⟨by decide, by decide, by decide +kernel⟩, q9goodW _ (List.forall_mem_cons.mpr ⟨(q9inT3 79 rfl rfl), q9wv_X8_dressOf⟩), _, rfl, rfl⟩
set_option maxRecDepth 100000 in
theorem q9wk_X3_endOf : GoodIn q9ALLW [.code yX3_endOf cX3_endOf 3 (some .int), .initialized (yX3_endOf).cls] := q9goodW _ (List.forall_mem_cons.mpr ⟨(q9inT3 87 rfl rfl), (List.forall_mem_cons.mpr ⟨(q9inT1 9 rfl rfl), (fun _ h => absurd h List.not_mem_nil)⟩)⟩)
set_option maxRecDepth 100000 in
theorem q9wv_X3_endOf : ∀ w ∈ ([.instanceMethod yX3_endOf, .selects (yX3_endOf).cls yX3_endOf yX3_endOf] : List Cond), w ∈ q9ALLW := (List.forall_mem_cons.mpr ⟨(q9inT3 86 rfl rfl), (List.forall_mem_cons.mpr ⟨(q9inW 3 rfl rfl), (fun _ h => absurd h List.not_mem_nil)⟩)⟩)
set_option maxRecDepth 100000 in
theorem q9lk_X3_63_X3_endOf : q9LKs q9ALLW RX3 (63, 0, 3, q9i_X3_endOf) := ⟨q9wk_X3_endOf, ⟨by decide, by decide, by decide +kernel⟩, q9goodW _ (List.forall_mem_cons.mpr ⟨(q9inT3 84 rfl rfl), q9wv_X3_endOf⟩), _, rfl, rfl⟩
noncomputable def q9i_X3_soonest : q9INST := (yX3_soonest, cX3_soonest, 6, (some .int), (5, 92, 0, 0), q9dcQ 0x20000000100000000000000000504000000000000000300020001030000030200020100010003000e020ffffffffe0fffffffff0000060200000004, q9dcP 0x1000002020000010200000002000000050500000000000000030002000103000401000ffffffffe0fffffffff00000e020ffffffffe0fffffffff000006020000000501, [], [], [])
noncomputable def q9e_X3_soonest : q9EN := (q9TBL, q9fs_X3, q9ps_X3, [], [(29, 0, 3, q9i_X3_shotIn), (59, 0, 8, q9i_X8_dressOf), (63, 0, 3, q9i_X3_endOf)], [(41, 2, 0, q9i_X11_entry_k116)], (5, 92, 0, 0), 6, [], [], [])
noncomputable def q9cu_X3_soonest : List q9CUT := q9dcKs 0xc9a9e0000108080808005010c9a9e000003000004000000030000000200000001000000000000000005060000000000000003000200010300000504000403000302000201000100050ffffffffe0fffffffff000ffffffffe0fffffffff00000e020ffffffffe0fffffffff00000602000000061101
set_option maxRecDepth 100000 in
set_option maxHeartbeats 4000000 in
theorem q9c_X3_soonest (l : Launch) (hst : l.stackTraces = false) : q9CON O l q9TBL q9ALLW q9i_X3_soonest := q9con_of (q := q9i_X3_soonest) (n := q9e_X3_soonest) (K := []) (K2 := []) (cuts := q9cu_X3_soonest) (f := 60) hst (by decide +kernel) (fun h => absurd rfl h) ⟨q9goodA, q9fs_X3_ok, q9ps_X3_ok, (List.forall_mem_cons.mpr ⟨⟨⟨q9c_X3_shotIn l hst, q9lk_X3_29_X3_shotIn⟩, rfl⟩, (List.forall_mem_cons.mpr ⟨⟨⟨q9c_X8_dressOf l hst, q9lk_X3_59_X8_dressOf⟩, rfl⟩, (List.forall_mem_cons.mpr ⟨⟨⟨q9c_X3_endOf l hst, q9lk_X3_63_X3_endOf⟩, rfl⟩, (fun _ h => absurd h List.not_mem_nil)⟩)⟩)⟩), (List.forall_mem_cons.mpr ⟨⟨⟨q9c_X11_entry_k116 l hst, q9lk_X3_41_X11_entry_k116⟩, by decide⟩, (fun _ h => absurd h List.not_mem_nil)⟩), q9kas_ok, (fun _ h => absurd h List.not_mem_nil), (fun _ h => absurd h List.not_mem_nil), (fun _ h => absurd h List.not_mem_nil)⟩ rfl rfl rfl (by decide +kernel)
set_option maxRecDepth 100000 in
theorem q9wk_X8_collide : GoodIn q9ALLW [.code yX8_collide cX8_collide 3 (some .boolean), .initialized (yX8_collide).cls] := q9goodW _ (List.forall_mem_cons.mpr ⟨(q9inT3 116 rfl rfl), (List.forall_mem_cons.mpr ⟨(q9inT1 2 rfl rfl), (fun _ h => absurd h List.not_mem_nil)⟩)⟩)
set_option maxRecDepth 100000 in
theorem q9wv_X8_collide : ∀ w ∈ ([.instanceMethod yX8_collide, .selects (yX8_collide).cls yX8_collide yX8_collide] : List Cond), w ∈ q9ALLW := (List.forall_mem_cons.mpr ⟨(q9inT3 114 rfl rfl), (List.forall_mem_cons.mpr ⟨(q9inT3 115 rfl rfl), (fun _ h => absurd h List.not_mem_nil)⟩)⟩)
set_option maxRecDepth 100000 in
theorem q9lk_X3_66_X8_collide : q9LKs q9ALLW RX3 (66, 0, 8, q9i_X8_collide) := ⟨q9wk_X8_collide, ⟨by decide, by decide, by decide +kernel⟩, q9goodW _ (List.forall_mem_cons.mpr ⟨(q9inT3 113 rfl rfl), q9wv_X8_collide⟩), _, rfl, rfl⟩
noncomputable def q9i_X3_meetsClash : q9INST := (yX3_meetsClash, cX3_meetsClash, 6, (some .boolean), (5, 92, 0, 0), q9dcQ 0x20000000100000000000000000504000000000000000300020001030000030200020100010003000e020ffffffffe0fffffffff0000060200000004, q9dcP 0x5030300000202000001020000000200000005050000000000000405030100030002000103020001000ffffffffe0fffffffff00000e020ffffffffe02000006020000000500000202000001020000000200000005040000000000000003000200010300000100000e020ffffffffe0fffffffff000006020000000402, [], [], [])
noncomputable def q9e_X3_meetsClash : q9EN := (q9TBL, q9fs_X3, q9ps_X3, [], [(29, 0, 3, q9i_X3_shotIn), (63, 0, 3, q9i_X3_endOf), (66, 0, 8, q9i_X8_collide)], [(41, 2, 0, q9i_X11_entry_k117)], (5, 92, 0, 0), 6, [], [], [])
noncomputable def q9cu_X3_meetsClash : List q9CUT := q9dcKs 0xc9abc00000ffffffffe04020c9abc0000030000030000000200000001000000000000000005050000000000000003000200010300000403000302000201000100040ffffffffe0000000e020ffffffffe0fffffffff00000602000000050201
set_option maxRecDepth 100000 in
set_option maxHeartbeats 4000000 in
theorem q9c_X3_meetsClash (l : Launch) (hst : l.stackTraces = false) : q9CON O l q9TBL q9ALLW q9i_X3_meetsClash := q9con_of (q := q9i_X3_meetsClash) (n := q9e_X3_meetsClash) (K := []) (K2 := []) (cuts := q9cu_X3_meetsClash) (f := 106) hst (by decide +kernel) (fun h => absurd rfl h) ⟨q9goodA, q9fs_X3_ok, q9ps_X3_ok, (List.forall_mem_cons.mpr ⟨⟨⟨q9c_X3_shotIn l hst, q9lk_X3_29_X3_shotIn⟩, rfl⟩, (List.forall_mem_cons.mpr ⟨⟨⟨q9c_X3_endOf l hst, q9lk_X3_63_X3_endOf⟩, rfl⟩, (List.forall_mem_cons.mpr ⟨⟨⟨q9c_X8_collide l hst, q9lk_X3_66_X8_collide⟩, rfl⟩, (fun _ h => absurd h List.not_mem_nil)⟩)⟩)⟩), (List.forall_mem_cons.mpr ⟨⟨⟨q9c_X11_entry_k117 l hst, q9lk_X3_41_X11_entry_k117⟩, by decide⟩, (fun _ h => absurd h List.not_mem_nil)⟩), q9kas_ok, (fun _ h => absurd h List.not_mem_nil), (fun _ h => absurd h List.not_mem_nil), (fun _ h => absurd h List.not_mem_nil)⟩ rfl rfl rfl (by decide +kernel)
set_option maxRecDepth 100000 in
theorem q9wk_X3_soonest : GoodIn q9ALLW [.code yX3_soonest cX3_soonest 6 (some .int), .initialized (yX3_soonest).cls] := q9goodW _ (List.forall_mem_cons.mpr ⟨(q9inT3 78 rfl rfl), (List.forall_mem_cons.mpr ⟨(q9inT1 9 rfl rfl), (fun _ h => absurd h List.not_mem_nil)⟩)⟩)
set_option maxRecDepth 100000 in
theorem q9wv_X3_soonest : ∀ w ∈ ([.instanceMethod yX3_soonest, .selects (yX3_soonest).cls yX3_soonest yX3_soonest] : List Cond), w ∈ q9ALLW := (List.forall_mem_cons.mpr ⟨(q9inT3 77 rfl rfl), (List.forall_mem_cons.mpr ⟨(q9inW 2 rfl rfl), (fun _ h => absurd h List.not_mem_nil)⟩)⟩)
set_option maxRecDepth 100000 in
theorem q9lk_X3_33_X3_soonest : q9LKs q9ALLW RX3 (33, 0, 3, q9i_X3_soonest) := ⟨q9wk_X3_soonest, ⟨by decide, by decide, by decide +kernel⟩, q9goodW _ (List.forall_mem_cons.mpr ⟨(q9inT3 75 rfl rfl), q9wv_X3_soonest⟩), _, rfl, rfl⟩
set_option maxRecDepth 100000 in
theorem q9wk_X3_meetsClash : GoodIn q9ALLW [.code yX3_meetsClash cX3_meetsClash 6 (some .boolean), .initialized (yX3_meetsClash).cls] := q9goodW _ (List.forall_mem_cons.mpr ⟨(q9inT3 112 rfl rfl), (List.forall_mem_cons.mpr ⟨(q9inT1 9 rfl rfl), (fun _ h => absurd h List.not_mem_nil)⟩)⟩)
set_option maxRecDepth 100000 in
theorem q9wv_X3_meetsClash : ∀ w ∈ ([.instanceMethod yX3_meetsClash, .selects (yX3_meetsClash).cls yX3_meetsClash yX3_meetsClash] : List Cond), w ∈ q9ALLW := (List.forall_mem_cons.mpr ⟨(q9inT3 111 rfl rfl), (List.forall_mem_cons.mpr ⟨(q9inW 4 rfl rfl), (fun _ h => absurd h List.not_mem_nil)⟩)⟩)
set_option maxRecDepth 100000 in
theorem q9lk_X3_37_X3_meetsClash : q9LKs q9ALLW RX3 (37, 0, 3, q9i_X3_meetsClash) := ⟨q9wk_X3_meetsClash, ⟨by decide, by decide, by decide +kernel⟩, q9goodW _ (List.forall_mem_cons.mpr ⟨(q9inT3 109 rfl rfl), q9wv_X3_meetsClash⟩), _, rfl, rfl⟩
noncomputable def q9i_X3_errorOf : q9INST := (yX3_errorOf, cX3_errorOf, 4, (some .int), (6, 117, 0, 0), q9dcQ 0x1000000000000000005030000000000000002000102000002010001000216000000060200000003, q9dcP 0x1000001020000000200000005040000000000000002000102000301000600001600000006020000000401, [], [], [])
noncomputable def q9e_X3_errorOf : q9EN := (q9TBL, q9fs_X3, q9ps_X3, [], [(29, 0, 3, q9i_X3_shotIn), (33, 0, 3, q9i_X3_soonest), (37, 0, 3, q9i_X3_meetsClash)], [], (6, 117, 0, 0), 4, [], [], [])
noncomputable def q9cu_X3_errorOf : List q9CUT := q9dcKs 0xc9aa400001604020c9aa400000300000300000002000000010000000000000000050500000000020401000000020001020000040300030200020100010004160000000e02160000000602000000050e01
set_option maxRecDepth 100000 in
set_option maxHeartbeats 4000000 in
theorem q9c_X3_errorOf (l : Launch) (hst : l.stackTraces = false) : q9CON O l q9TBL q9ALLW q9i_X3_errorOf := q9con_of (q := q9i_X3_errorOf) (n := q9e_X3_errorOf) (K := []) (K2 := []) (cuts := q9cu_X3_errorOf) (f := 61) hst (by decide +kernel) (fun h => absurd rfl h) ⟨q9goodA, q9fs_X3_ok, q9ps_X3_ok, (List.forall_mem_cons.mpr ⟨⟨⟨q9c_X3_shotIn l hst, q9lk_X3_29_X3_shotIn⟩, rfl⟩, (List.forall_mem_cons.mpr ⟨⟨⟨q9c_X3_soonest l hst, q9lk_X3_33_X3_soonest⟩, rfl⟩, (List.forall_mem_cons.mpr ⟨⟨⟨q9c_X3_meetsClash l hst, q9lk_X3_37_X3_meetsClash⟩, rfl⟩, (fun _ h => absurd h List.not_mem_nil)⟩)⟩)⟩), (fun _ h => absurd h List.not_mem_nil), q9kas_ok, (fun _ h => absurd h List.not_mem_nil), (fun _ h => absurd h List.not_mem_nil), (fun _ h => absurd h List.not_mem_nil)⟩ rfl rfl rfl (by decide +kernel)
noncomputable def q9i_J7_fill_53178_k114 : q9INST := (yJ7_fill_53178, cJ7_fill_53178, 4, none, (1, 1, 0, 0), q9dcQ 0x100000000000000000503000000000000000200010200000201000100020ffffffffe0fffffffff000001e40200000003, q9dcP 0x102000000020000000503000000000000000200010200000ffffffffe0fffffffff000001e4020000000301, [], [100114], [])
noncomputable def q9e_J7_fill_53178_k114 : q9EN := (q9TBL, q9fs_J7, q9ps_J7, [100114], [], [], (1, 1, 0, 0), 4, [], [], [])
noncomputable def q9cu_J7_fill_53178_k114 : List q9CUT := q9dcKs 0xc9ab600000c03020c9ab6000003000003000000020000000100000000000000000505000000000000000200010200000403000302000201000100040c0c000c00000ffffffffe0fffffffff000001e402000000050501
set_option maxRecDepth 100000 in
set_option maxHeartbeats 4000000 in
theorem q9c_J7_fill_53178_k114 (l : Launch) (hst : l.stackTraces = false) : q9CON O l q9TBL q9ALLW q9i_J7_fill_53178_k114 := q9con_of (q := q9i_J7_fill_53178_k114) (n := q9e_J7_fill_53178_k114) (K := []) (K2 := []) (cuts := q9cu_J7_fill_53178_k114) (f := 20) hst (by decide +kernel) (fun h => absurd rfl h) ⟨q9goodA, q9fs_J7_ok, q9ps_J7_ok, (fun _ h => absurd h List.not_mem_nil), (fun _ h => absurd h List.not_mem_nil), q9kas_ok, (fun _ h => absurd h List.not_mem_nil), (fun _ h => absurd h List.not_mem_nil), (fun _ h => absurd h List.not_mem_nil)⟩ rfl rfl rfl (by decide +kernel)
noncomputable def q9i_J7_fill_53178_k265 : q9INST := (yJ7_fill_53178, cJ7_fill_53178, 4, none, (1, 1, 0, 0), q9dcQ 0x100000000000000000503000000000000000200010200000201000100020ffffffffe0fffffffff000004920200000003, q9dcP 0x102000000020000000503000000000000000200010200000ffffffffe0fffffffff00000492020000000301, [], [100265], [])
noncomputable def q9e_J7_fill_53178_k265 : q9EN := (q9TBL, q9fs_J7, q9ps_J7, [100265], [], [], (1, 1, 0, 0), 4, [], [], [])
noncomputable def q9cu_J7_fill_53178_k265 : List q9CUT := q9dcKs 0xc9ab600000c03020c9ab6000003000003000000020000000100000000000000000505000000000000000200010200000403000302000201000100040c0c000c00000ffffffffe0fffffffff0000049202000000050501
set_option maxRecDepth 100000 in
set_option maxHeartbeats 4000000 in
theorem q9c_J7_fill_53178_k265 (l : Launch) (hst : l.stackTraces = false) : q9CON O l q9TBL q9ALLW q9i_J7_fill_53178_k265 := q9con_of (q := q9i_J7_fill_53178_k265) (n := q9e_J7_fill_53178_k265) (K := []) (K2 := []) (cuts := q9cu_J7_fill_53178_k265) (f := 20) hst (by decide +kernel) (fun h => absurd rfl h) ⟨q9goodA, q9fs_J7_ok, q9ps_J7_ok, (fun _ h => absurd h List.not_mem_nil), (fun _ h => absurd h List.not_mem_nil), q9kas_ok, (fun _ h => absurd h List.not_mem_nil), (fun _ h => absurd h List.not_mem_nil), (fun _ h => absurd h List.not_mem_nil)⟩ rfl rfl rfl (by decide +kernel)
noncomputable def q9i_J7_fill_53178_k125 : q9INST := (yJ7_fill_53178, cJ7_fill_53178, 4, none, (1, 1, 0, 0), q9dcQ 0x100000000000000000503000000000000000200010200000201000100020ffffffffe0fffffffff000001fa0200000003, q9dcP 0x102000000020000000503000000000000000200010200000ffffffffe0fffffffff000001fa020000000301, [], [100125], [])
noncomputable def q9e_J7_fill_53178_k125 : q9EN := (q9TBL, q9fs_J7, q9ps_J7, [100125], [], [], (1, 1, 0, 0), 4, [], [], [])
noncomputable def q9cu_J7_fill_53178_k125 : List q9CUT := q9dcKs 0xc9ab600000603020c9ab6000003000003000000020000000100000000000000000505000000000000000200010200000403000302000201000100040606000600000ffffffffe0fffffffff000001fa02000000050501
set_option maxRecDepth 100000 in
set_option maxHeartbeats 4000000 in
theorem q9c_J7_fill_53178_k125 (l : Launch) (hst : l.stackTraces = false) : q9CON O l q9TBL q9ALLW q9i_J7_fill_53178_k125 := q9con_of (q := q9i_J7_fill_53178_k125) (n := q9e_J7_fill_53178_k125) (K := []) (K2 := []) (cuts := q9cu_J7_fill_53178_k125) (f := 20) hst (by decide +kernel) (fun h => absurd rfl h) ⟨q9goodA, q9fs_J7_ok, q9ps_J7_ok, (fun _ h => absurd h List.not_mem_nil), (fun _ h => absurd h List.not_mem_nil), q9kas_ok, (fun _ h => absurd h List.not_mem_nil), (fun _ h => absurd h List.not_mem_nil), (fun _ h => absurd h List.not_mem_nil)⟩ rfl rfl rfl (by decide +kernel)
noncomputable def q9i_J7_fill_53178_k126 : q9INST := (yJ7_fill_53178, cJ7_fill_53178, 4, none, (1, 1, 0, 0), q9dcQ 0x100000000000000000503000000000000000200010200000201000100020ffffffffe0fffffffff000001fc0200000003, q9dcP 0x102000000020000000503000000000000000200010200000ffffffffe0fffffffff000001fc020000000301, [], [100126], [])
noncomputable def q9e_J7_fill_53178_k126 : q9EN := (q9TBL, q9fs_J7, q9ps_J7, [100126], [], [], (1, 1, 0, 0), 4, [], [], [])
noncomputable def q9cu_J7_fill_53178_k126 : List q9CUT := q9dcKs 0xc9ab600000603020c9ab6000003000003000000020000000100000000000000000505000000000000000200010200000403000302000201000100040606000600000ffffffffe0fffffffff000001fc02000000050501
set_option maxRecDepth 100000 in
set_option maxHeartbeats 4000000 in
theorem q9c_J7_fill_53178_k126 (l : Launch) (hst : l.stackTraces = false) : q9CON O l q9TBL q9ALLW q9i_J7_fill_53178_k126 := q9con_of (q := q9i_J7_fill_53178_k126) (n := q9e_J7_fill_53178_k126) (K := []) (K2 := []) (cuts := q9cu_J7_fill_53178_k126) (f := 20) hst (by decide +kernel) (fun h => absurd rfl h) ⟨q9goodA, q9fs_J7_ok, q9ps_J7_ok, (fun _ h => absurd h List.not_mem_nil), (fun _ h => absurd h List.not_mem_nil), q9kas_ok, (fun _ h => absurd h List.not_mem_nil), (fun _ h => absurd h List.not_mem_nil), (fun _ h => absurd h List.not_mem_nil)⟩ rfl rfl rfl (by decide +kernel)
noncomputable def q9i_J7_fill_53178_k157 : q9INST := (yJ7_fill_53178, cJ7_fill_53178, 4, none, (1, 1, 0, 0), q9dcQ 0x100000000000000000503000000000000000200010200000201000100020ffffffffe0fffffffff000002ba0200000003, q9dcP 0x102000000020000000503000000000000000200010200000ffffffffe0fffffffff000002ba020000000301, [], [100157], [])
noncomputable def q9e_J7_fill_53178_k157 : q9EN := (q9TBL, q9fs_J7, q9ps_J7, [100157], [], [], (1, 1, 0, 0), 4, [], [], [])
noncomputable def q9cu_J7_fill_53178_k157 : List q9CUT := q9dcKs 0xc9ab6000001c803020c9ab60000030000030000000200000001000000000000000005050000000000000002000102000004030003020002010001000401c801c80001c800000ffffffffe0fffffffff000002ba02000000050501
set_option maxRecDepth 100000 in
set_option maxHeartbeats 4000000 in
theorem q9c_J7_fill_53178_k157 (l : Launch) (hst : l.stackTraces = false) : q9CON O l q9TBL q9ALLW q9i_J7_fill_53178_k157 := q9con_of (q := q9i_J7_fill_53178_k157) (n := q9e_J7_fill_53178_k157) (K := []) (K2 := []) (cuts := q9cu_J7_fill_53178_k157) (f := 20) hst (by decide +kernel) (fun h => absurd rfl h) ⟨q9goodA, q9fs_J7_ok, q9ps_J7_ok, (fun _ h => absurd h List.not_mem_nil), (fun _ h => absurd h List.not_mem_nil), q9kas_ok, (fun _ h => absurd h List.not_mem_nil), (fun _ h => absurd h List.not_mem_nil), (fun _ h => absurd h List.not_mem_nil)⟩ rfl rfl rfl (by decide +kernel)
noncomputable def q9i_J7_fill_53178_k159 : q9INST := (yJ7_fill_53178, cJ7_fill_53178, 4, none, (1, 1, 0, 0), q9dcQ 0x100000000000000000503000000000000000200010200000201000100020ffffffffe0fffffffff000002be0200000003, q9dcP 0x102000000020000000503000000000000000200010200000ffffffffe0fffffffff000002be020000000301, [], [100159], [])
noncomputable def q9e_J7_fill_53178_k159 : q9EN := (q9TBL, q9fs_J7, q9ps_J7, [100159], [], [], (1, 1, 0, 0), 4, [], [], [])
noncomputable def q9cu_J7_fill_53178_k159 : List q9CUT := q9dcKs 0xc9ab600000603020c9ab6000003000003000000020000000100000000000000000505000000000000000200010200000403000302000201000100040606000600000ffffffffe0fffffffff000002be02000000050501
set_option maxRecDepth 100000 in
set_option maxHeartbeats 4000000 in
theorem q9c_J7_fill_53178_k159 (l : Launch) (hst : l.stackTraces = false) : q9CON O l q9TBL q9ALLW q9i_J7_fill_53178_k159 := q9con_of (q := q9i_J7_fill_53178_k159) (n := q9e_J7_fill_53178_k159) (K := []) (K2 := []) (cuts := q9cu_J7_fill_53178_k159) (f := 20) hst (by decide +kernel) (fun h => absurd rfl h) ⟨q9goodA, q9fs_J7_ok, q9ps_J7_ok, (fun _ h => absurd h List.not_mem_nil), (fun _ h => absurd h List.not_mem_nil), q9kas_ok, (fun _ h => absurd h List.not_mem_nil), (fun _ h => absurd h List.not_mem_nil), (fun _ h => absurd h List.not_mem_nil)⟩ rfl rfl rfl (by decide +kernel)
noncomputable def q9i_J7_fill_53178_k163 : q9INST := (yJ7_fill_53178, cJ7_fill_53178, 4, none, (1, 1, 0, 0), q9dcQ 0x100000000000000000503000000000000000200010200000201000100020ffffffffe0fffffffff000002c60200000003, q9dcP 0x102000000020000000503000000000000000200010200000ffffffffe0fffffffff000002c6020000000301, [], [100163], [])
noncomputable def q9e_J7_fill_53178_k163 : q9EN := (q9TBL, q9fs_J7, q9ps_J7, [100163], [], [], (1, 1, 0, 0), 4, [], [], [])
noncomputable def q9cu_J7_fill_53178_k163 : List q9CUT := q9dcKs 0xc9ab600000603020c9ab6000003000003000000020000000100000000000000000505000000000000000200010200000403000302000201000100040606000600000ffffffffe0fffffffff000002c602000000050501
set_option maxRecDepth 100000 in
set_option maxHeartbeats 4000000 in
theorem q9c_J7_fill_53178_k163 (l : Launch) (hst : l.stackTraces = false) : q9CON O l q9TBL q9ALLW q9i_J7_fill_53178_k163 := q9con_of (q := q9i_J7_fill_53178_k163) (n := q9e_J7_fill_53178_k163) (K := []) (K2 := []) (cuts := q9cu_J7_fill_53178_k163) (f := 20) hst (by decide +kernel) (fun h => absurd rfl h) ⟨q9goodA, q9fs_J7_ok, q9ps_J7_ok, (fun _ h => absurd h List.not_mem_nil), (fun _ h => absurd h List.not_mem_nil), q9kas_ok, (fun _ h => absurd h List.not_mem_nil), (fun _ h => absurd h List.not_mem_nil), (fun _ h => absurd h List.not_mem_nil)⟩ rfl rfl rfl (by decide +kernel)
set_option maxRecDepth 100000 in
theorem q9lk_X1_78_X11_entry_k104 : q9LKs q9ALLW RX1 (78, 2, 0, q9i_X11_entry_k104) := ⟨q9wk_X11_entry, ⟨by decide, by decide, by decide +kernel⟩, List.mem_of_getElem? (i := 7) rfl, q9goodW _ q9wv_X11_entry⟩
noncomputable def q9i_X1_takenOf : q9INST := (yX1_takenOf, cX1_takenOf, 2, (some .int), (2, 23, 0, 0), q9dcQ 0x100000000000000000503000000000000000200010200000201000100020ffffffffe0fffffffff0000020200000003, q9dcP 0x1000001020000000200000005040000000000000002000102000301000ffffffffe0fffffffff000ffffffffe0fffffffff000002020000000401, [], [], [])
noncomputable def q9e_X1_takenOf : q9EN := (q9TBL, q9fs_X1, q9ps_X1, [], [], [(78, 2, 0, q9i_X11_entry_k104)], (2, 23, 0, 0), 2, [], [], [])
noncomputable def q9cu_X1_takenOf : List q9CUT := []
set_option maxRecDepth 100000 in
set_option maxHeartbeats 4000000 in
theorem q9c_X1_takenOf (l : Launch) (hst : l.stackTraces = false) : q9CON O l q9TBL q9ALLW q9i_X1_takenOf := q9con_of (q := q9i_X1_takenOf) (n := q9e_X1_takenOf) (K := []) (K2 := []) (cuts := q9cu_X1_takenOf) (f := 11) hst (by decide +kernel) (fun h => absurd rfl h) ⟨q9goodA, q9fs_X1_ok, q9ps_X1_ok, (fun _ h => absurd h List.not_mem_nil), (List.forall_mem_cons.mpr ⟨⟨⟨q9c_X11_entry_k104 l hst, q9lk_X1_78_X11_entry_k104⟩, by decide⟩, (fun _ h => absurd h List.not_mem_nil)⟩), q9kas_ok, (fun _ h => absurd h List.not_mem_nil), (fun _ h => absurd h List.not_mem_nil), (fun _ h => absurd h List.not_mem_nil)⟩ rfl rfl rfl (by decide +kernel)
set_option maxRecDepth 100000 in
theorem q9lk_X1_78_X11_entry_k105 : q9LKs q9ALLW RX1 (78, 2, 0, q9i_X11_entry_k105) := ⟨q9wk_X11_entry, ⟨by decide, by decide, by decide +kernel⟩, List.mem_of_getElem? (i := 7) rfl, q9goodW _ q9wv_X11_entry⟩
noncomputable def q9i_X1_onIn : q9INST := (yX1_onIn, cX1_onIn, 2, (some .int), (2, 23, 0, 0), q9dcQ 0x100000000000000000503000000000000000200010200000201000100020ffffffffe0fffffffff0000020200000003, q9dcP 0x1000001020000000200000005040000000000000002000102000301000ffffffffe0fffffffff000ffffffffe0fffffffff000002020000000401, [], [], [])
noncomputable def q9e_X1_onIn : q9EN := (q9TBL, q9fs_X1, q9ps_X1, [], [], [(78, 2, 0, q9i_X11_entry_k105)], (2, 23, 0, 0), 2, [], [], [])
noncomputable def q9cu_X1_onIn : List q9CUT := []
set_option maxRecDepth 100000 in
set_option maxHeartbeats 4000000 in
theorem q9c_X1_onIn (l : Launch) (hst : l.stackTraces = false) : q9CON O l q9TBL q9ALLW q9i_X1_onIn := q9con_of (q := q9i_X1_onIn) (n := q9e_X1_onIn) (K := []) (K2 := []) (cuts := q9cu_X1_onIn) (f := 11) hst (by decide +kernel) (fun h => absurd rfl h) ⟨q9goodA, q9fs_X1_ok, q9ps_X1_ok, (fun _ h => absurd h List.not_mem_nil), (List.forall_mem_cons.mpr ⟨⟨⟨q9c_X11_entry_k105 l hst, q9lk_X1_78_X11_entry_k105⟩, by decide⟩, (fun _ h => absurd h List.not_mem_nil)⟩), q9kas_ok, (fun _ h => absurd h List.not_mem_nil), (fun _ h => absurd h List.not_mem_nil), (fun _ h => absurd h List.not_mem_nil)⟩ rfl rfl rfl (by decide +kernel)
set_option maxRecDepth 100000 in
theorem q9lk_X1_78_X11_entry_k107 : q9LKs q9ALLW RX1 (78, 2, 0, q9i_X11_entry_k107) := ⟨q9wk_X11_entry, ⟨by decide, by decide, by decide +kernel⟩, List.mem_of_getElem? (i := 7) rfl, q9goodW _ q9wv_X11_entry⟩
noncomputable def q9i_X1_queuedIn : q9INST := (yX1_queuedIn, cX1_queuedIn, 2, (some .int), (2, 23, 0, 0), q9dcQ 0x100000000000000000503000000000000000200010200000201000100020ffffffffe0fffffffff0000020200000003, q9dcP 0x1000001020000000200000005040000000000000002000102000301000ffffffffe0fffffffff000ffffffffe0fffffffff000002020000000401, [], [], [])
noncomputable def q9e_X1_queuedIn : q9EN := (q9TBL, q9fs_X1, q9ps_X1, [], [], [(78, 2, 0, q9i_X11_entry_k107)], (2, 23, 0, 0), 2, [], [], [])
noncomputable def q9cu_X1_queuedIn : List q9CUT := []
set_option maxRecDepth 100000 in
set_option maxHeartbeats 4000000 in
theorem q9c_X1_queuedIn (l : Launch) (hst : l.stackTraces = false) : q9CON O l q9TBL q9ALLW q9i_X1_queuedIn := q9con_of (q := q9i_X1_queuedIn) (n := q9e_X1_queuedIn) (K := []) (K2 := []) (cuts := q9cu_X1_queuedIn) (f := 11) hst (by decide +kernel) (fun h => absurd rfl h) ⟨q9goodA, q9fs_X1_ok, q9ps_X1_ok, (fun _ h => absurd h List.not_mem_nil), (List.forall_mem_cons.mpr ⟨⟨⟨q9c_X11_entry_k107 l hst, q9lk_X1_78_X11_entry_k107⟩, by decide⟩, (fun _ h => absurd h List.not_mem_nil)⟩), q9kas_ok, (fun _ h => absurd h List.not_mem_nil), (fun _ h => absurd h List.not_mem_nil), (fun _ h => absurd h List.not_mem_nil)⟩ rfl rfl rfl (by decide +kernel)
set_option maxRecDepth 100000 in
theorem q9lk_X1_78_X11_entry_k106 : q9LKs q9ALLW RX1 (78, 2, 0, q9i_X11_entry_k106) := ⟨q9wk_X11_entry, ⟨by decide, by decide, by decide +kernel⟩, List.mem_of_getElem? (i := 7) rfl, q9goodW _ q9wv_X11_entry⟩
set_option maxRecDepth 100000 in
theorem q9lk_X1_114_X11_within : q9LKs q9ALLW RX1 (114, 2, 0, q9i_X11_within) := ⟨q9wk_X11_within, ⟨by decide, by decide, by decide +kernel⟩, List.mem_of_getElem? (i := 6) rfl, q9goodW _ q9wv_X11_within⟩
noncomputable def q9i_X1_queuedShot : q9INST := (yX1_queuedShot, cX1_queuedShot, 3, (some .int), (2, 23, 0, 0), q9dcQ 0x200000001000000000000000005040000000000000003000200010300000302000201000100030ffffffffe0fffffffff000ffffffffe0fffffffff0000020200000004, q9dcP 0x1000002020000010200000002000000050500000000000000030002000103000401000ffffffffe0fffffffff000ffffffffe0fffffffff000ffffffffe0fffffffff000002020000000501, [], [], [])
noncomputable def q9e_X1_queuedShot : q9EN := (q9TBL, q9fs_X1, q9ps_X1, [], [], [(78, 2, 0, q9i_X11_entry_k106), (114, 2, 0, q9i_X11_within)], (2, 23, 0, 0), 3, [], [], [])
noncomputable def q9cu_X1_queuedShot : List q9CUT := []
set_option maxRecDepth 100000 in
set_option maxHeartbeats 4000000 in
theorem q9c_X1_queuedShot (l : Launch) (hst : l.stackTraces = false) : q9CON O l q9TBL q9ALLW q9i_X1_queuedShot := q9con_of (q := q9i_X1_queuedShot) (n := q9e_X1_queuedShot) (K := []) (K2 := []) (cuts := q9cu_X1_queuedShot) (f := 24) hst (by decide +kernel) (fun h => absurd rfl h) ⟨q9goodA, q9fs_X1_ok, q9ps_X1_ok, (fun _ h => absurd h List.not_mem_nil), (List.forall_mem_cons.mpr ⟨⟨⟨q9c_X11_entry_k106 l hst, q9lk_X1_78_X11_entry_k106⟩, by decide⟩, (List.forall_mem_cons.mpr ⟨⟨⟨q9c_X11_within l hst, q9lk_X1_114_X11_within⟩, by decide⟩, (fun _ h => absurd h List.not_mem_nil)⟩)⟩), q9kas_ok, (fun _ h => absurd h List.not_mem_nil), (fun _ h => absurd h List.not_mem_nil), (fun _ h => absurd h List.not_mem_nil)⟩ rfl rfl rfl (by decide +kernel)
set_option maxRecDepth 100000 in
theorem q9wk_X1_queuedIn : GoodIn q9ALLW [.code yX1_queuedIn cX1_queuedIn 2 (some .int), .initialized (yX1_queuedIn).cls] := q9goodW _ (List.forall_mem_cons.mpr ⟨(q9inT8 20 rfl rfl), (List.forall_mem_cons.mpr ⟨(q9inT1 11 rfl rfl), (fun _ h => absurd h List.not_mem_nil)⟩)⟩)
set_option maxRecDepth 100000 in
theorem q9wv_X1_queuedIn : ∀ w ∈ ([.instanceMethod yX1_queuedIn, .selects (yX1_queuedIn).cls yX1_queuedIn yX1_queuedIn] : List Cond), w ∈ q9ALLW := (List.forall_mem_cons.mpr ⟨(q9inT8 18 rfl rfl), (List.forall_mem_cons.mpr ⟨(q9inT8 19 rfl rfl), (fun _ h => absurd h List.not_mem_nil)⟩)⟩)
set_option maxRecDepth 100000 in
theorem q9lk_X1_82_X1_queuedIn : q9LKs q9ALLW RX1 (82, 0, 1, q9i_X1_queuedIn) := ⟨q9wk_X1_queuedIn, ⟨by decide, by decide, by decide +kernel⟩, q9goodW _ (List.forall_mem_cons.mpr ⟨(q9inT8 26 rfl rfl), q9wv_X1_queuedIn⟩), _, rfl, rfl⟩
set_option maxRecDepth 100000 in
theorem q9wk_X1_queuedShot : GoodIn q9ALLW [.code yX1_queuedShot cX1_queuedShot 3 (some .int), .initialized (yX1_queuedShot).cls] := q9goodW _ (List.forall_mem_cons.mpr ⟨(q9inT3 159 rfl rfl), (List.forall_mem_cons.mpr ⟨(q9inT1 11 rfl rfl), (fun _ h => absurd h List.not_mem_nil)⟩)⟩)
set_option maxRecDepth 100000 in
theorem q9wv_X1_queuedShot : ∀ w ∈ ([.instanceMethod yX1_queuedShot, .selects (yX1_queuedShot).cls yX1_queuedShot yX1_queuedShot] : List Cond), w ∈ q9ALLW := (List.forall_mem_cons.mpr ⟨(q9inT3 158 rfl rfl), (List.forall_mem_cons.mpr ⟨(q9inW 9 rfl rfl), (fun _ h => absurd h List.not_mem_nil)⟩)⟩)
set_option maxRecDepth 100000 in
theorem q9lk_X1_86_X1_queuedShot : q9LKs q9ALLW RX1 (86, 0, 1, q9i_X1_queuedShot) := ⟨q9wk_X1_queuedShot, ⟨by decide, by decide, by decide +kernel⟩, q9goodW _ (List.forall_mem_cons.mpr ⟨(q9inT3 156 rfl rfl), q9wv_X1_queuedShot⟩), _, rfl, rfl⟩
noncomputable def q9i_X1_firstIn : q9INST := (yX1_firstIn, cX1_firstIn, 2, (some .int), (3, 45, 0, 0), q9dcQ 0x100000000000000000503000000000000000200010200000201000100020ffffffffe0fffffffff0000020200000003, q9dcP 0x1000001020000000200000005040000000000000002000102000301000ffffffffe0fffffffff000ffffffffe0fffffffff000002020000000401, [], [], [])
noncomputable def q9e_X1_firstIn : q9EN := (q9TBL, q9fs_X1, q9ps_X1, [], [(82, 0, 1, q9i_X1_queuedIn), (86, 0, 1, q9i_X1_queuedShot)], [], (3, 45, 0, 0), 2, [], [], [])
noncomputable def q9cu_X1_firstIn : List q9CUT := []
set_option maxRecDepth 100000 in
set_option maxHeartbeats 4000000 in
theorem q9c_X1_firstIn (l : Launch) (hst : l.stackTraces = false) : q9CON O l q9TBL q9ALLW q9i_X1_firstIn := q9con_of (q := q9i_X1_firstIn) (n := q9e_X1_firstIn) (K := []) (K2 := []) (cuts := q9cu_X1_firstIn) (f := 17) hst (by decide +kernel) (fun h => absurd rfl h) ⟨q9goodA, q9fs_X1_ok, q9ps_X1_ok, (List.forall_mem_cons.mpr ⟨⟨⟨q9c_X1_queuedIn l hst, q9lk_X1_82_X1_queuedIn⟩, rfl⟩, (List.forall_mem_cons.mpr ⟨⟨⟨q9c_X1_queuedShot l hst, q9lk_X1_86_X1_queuedShot⟩, rfl⟩, (fun _ h => absurd h List.not_mem_nil)⟩)⟩), (fun _ h => absurd h List.not_mem_nil), q9kas_ok, (fun _ h => absurd h List.not_mem_nil), (fun _ h => absurd h List.not_mem_nil), (fun _ h => absurd h List.not_mem_nil)⟩ rfl rfl rfl (by decide +kernel)
