variable {O : ORC}
set_option maxRecDepth 100000 in
theorem q9lk_X1_78_X11_entry_k111 : q9LKs q9ALLW RX1 (78, 2, 0, q9i_X11_entry_k111) := ⟨q9wk_X11_entry, ⟨by decide, by decide, by decide +kernel⟩, List.mem_of_getElem? (i := 7) rfl, q9goodW _ q9wv_X11_entry⟩
noncomputable def q9i_X1_standsIn : q9INST := (yX1_standsIn, cX1_standsIn, 2, (some .int), (2, 23, 0, 0), q9dcQ 0x100000000000000000503000000000000000200010200000201000100020ffffffffe0fffffffff0000020200000003, q9dcP 0x1000001020000000200000005040000000000000002000102000301000ffffffffe0fffffffff000ffffffffe0fffffffff000002020000000401, [], [], [])
noncomputable def q9e_X1_standsIn : q9EN := (q9TBL, q9fs_X1, q9ps_X1, [], [], [(78, 2, 0, q9i_X11_entry_k111)], (2, 23, 0, 0), 2, [], [], [])
noncomputable def q9cu_X1_standsIn : List q9CUT := []
set_option maxRecDepth 100000 in
set_option maxHeartbeats 4000000 in
theorem q9c_X1_standsIn (l : Launch) (hst : l.stackTraces = false) : q9CON O l q9TBL q9ALLW q9i_X1_standsIn := q9con_of (q := q9i_X1_standsIn) (n := q9e_X1_standsIn) (K := []) (K2 := []) (cuts := q9cu_X1_standsIn) (f := 11) hst (by decide +kernel) (fun h => absurd rfl h) ⟨q9goodA, q9fs_X1_ok, q9ps_X1_ok, (fun _ h => absurd h List.not_mem_nil), (List.forall_mem_cons.mpr ⟨⟨⟨q9c_X11_entry_k111 l hst, q9lk_X1_78_X11_entry_k111⟩, by decide⟩, (fun _ h => absurd h List.not_mem_nil)⟩), q9kas_ok, (fun _ h => absurd h List.not_mem_nil), (fun _ h => absurd h List.not_mem_nil), (fun _ h => absurd h List.not_mem_nil)⟩ rfl rfl rfl (by decide +kernel)
set_option maxRecDepth 100000 in
theorem q9lk_X1_78_X11_entry_k109 : q9LKs q9ALLW RX1 (78, 2, 0, q9i_X11_entry_k109) := ⟨q9wk_X11_entry, ⟨by decide, by decide, by decide +kernel⟩, List.mem_of_getElem? (i := 7) rfl, q9goodW _ q9wv_X11_entry⟩
set_option maxRecDepth 100000 in
theorem q9lk_X1_78_X11_entry_k110 : q9LKs q9ALLW RX1 (78, 2, 0, q9i_X11_entry_k110) := ⟨q9wk_X11_entry, ⟨by decide, by decide, by decide +kernel⟩, List.mem_of_getElem? (i := 7) rfl, q9goodW _ q9wv_X11_entry⟩
set_option maxRecDepth 100000 in
theorem q9wk_X1_onIn : GoodIn q9ALLW [.code yX1_onIn cX1_onIn 2 (some .int), .initialized (yX1_onIn).cls] := q9goodW _ (List.forall_mem_cons.mpr ⟨(q9inT8 44 rfl rfl), (List.forall_mem_cons.mpr ⟨(q9inT1 11 rfl rfl), (fun _ h => absurd h List.not_mem_nil)⟩)⟩)
set_option maxRecDepth 100000 in
theorem q9wv_X1_onIn : ∀ w ∈ ([.instanceMethod yX1_onIn, .selects (yX1_onIn).cls yX1_onIn yX1_onIn] : List Cond), w ∈ q9ALLW := (List.forall_mem_cons.mpr ⟨(q9inT8 42 rfl rfl), (List.forall_mem_cons.mpr ⟨(q9inT8 43 rfl rfl), (fun _ h => absurd h List.not_mem_nil)⟩)⟩)
set_option maxRecDepth 100000 in
theorem q9lk_X1_90_X1_onIn : q9LKs q9ALLW RX1 (90, 0, 1, q9i_X1_onIn) := ⟨q9wk_X1_onIn, ⟨by decide, by decide, by decide +kernel⟩, q9goodW _ (List.forall_mem_cons.mpr ⟨(q9inT8 49 rfl rfl), q9wv_X1_onIn⟩), _, rfl, rfl⟩
set_option maxRecDepth 100000 in
theorem q9lk_X1_93_X8_shotAt : q9LKs q9ALLW RX1 (93, 0, 8, q9i_X8_shotAt) := ⟨q9wk_X8_shotAt, ⟨by decide, by decide, by decide +kernel⟩, q9goodW _ (List.forall_mem_cons.mpr ⟨(q9inT3 168 rfl rfl), q9wv_X8_shotAt⟩), _, rfl, rfl⟩
noncomputable def q9i_X1_dressedIn : q9INST := (yX1_dressedIn, cX1_dressedIn, 3, (some .int), (3, 44, 0, 0), q9dcQ 0x100000000000000000503000000000000000200010200000201000100020ffffffffe0fffffffff0000020200000003, q9dcP 0x1000001020000000200000005040000000000000002000102000301000ffffffffe0fffffffff000ffffffffe0fffffffff000002020000000401, [], [], [])
noncomputable def q9e_X1_dressedIn : q9EN := (q9TBL, q9fs_X1, q9ps_X1, [], [(90, 0, 1, q9i_X1_onIn), (93, 0, 8, q9i_X8_shotAt)], [(78, 2, 0, q9i_X11_entry_k109), (78, 2, 0, q9i_X11_entry_k110)], (3, 44, 0, 0), 3, [], [], [])
noncomputable def q9cu_X1_dressedIn : List q9CUT := []
set_option maxRecDepth 100000 in
set_option maxHeartbeats 4000000 in
theorem q9c_X1_dressedIn (l : Launch) (hst : l.stackTraces = false) : q9CON O l q9TBL q9ALLW q9i_X1_dressedIn := q9con_of (q := q9i_X1_dressedIn) (n := q9e_X1_dressedIn) (K := []) (K2 := []) (cuts := q9cu_X1_dressedIn) (f := 38) hst (by decide +kernel) (fun h => absurd rfl h) ⟨q9goodA, q9fs_X1_ok, q9ps_X1_ok, (List.forall_mem_cons.mpr ⟨⟨⟨q9c_X1_onIn l hst, q9lk_X1_90_X1_onIn⟩, rfl⟩, (List.forall_mem_cons.mpr ⟨⟨⟨q9c_X8_shotAt l hst, q9lk_X1_93_X8_shotAt⟩, rfl⟩, (fun _ h => absurd h List.not_mem_nil)⟩)⟩), (List.forall_mem_cons.mpr ⟨⟨⟨q9c_X11_entry_k109 l hst, q9lk_X1_78_X11_entry_k109⟩, by decide⟩, (List.forall_mem_cons.mpr ⟨⟨⟨q9c_X11_entry_k110 l hst, q9lk_X1_78_X11_entry_k110⟩, by decide⟩, (fun _ h => absurd h List.not_mem_nil)⟩)⟩), q9kas_ok, (fun _ h => absurd h List.not_mem_nil), (fun _ h => absurd h List.not_mem_nil), (fun _ h => absurd h List.not_mem_nil)⟩ rfl rfl rfl (by decide +kernel)
noncomputable def q9i_X1_addAnimator : q9INST := (yX1_addAnimator, cX1_addAnimator, 3, (some .int), (1, 1, 0, 0), q9dcQ 0x100000000000000000503000000000000000200010200000201000100020ffffffffe0fffffffff0000020200000003, q9dcP 0x1000001020000000200000005040000000000000002000102000301000a01000ffffffffe0fffffffff000002020000000401, [], [76, 100113], [])
noncomputable def q9e_X1_addAnimator : q9EN := (q9TBL, q9fs_X1, q9ps_X1, [76, 100113], [], [], (1, 1, 0, 0), 3, [], [], [])
noncomputable def q9cu_X1_addAnimator : List q9CUT := []
set_option maxRecDepth 100000 in
set_option maxHeartbeats 4000000 in
theorem q9c_X1_addAnimator (l : Launch) (hst : l.stackTraces = false) : q9CON O l q9TBL q9ALLW q9i_X1_addAnimator := q9con_of (q := q9i_X1_addAnimator) (n := q9e_X1_addAnimator) (K := []) (K2 := []) (cuts := q9cu_X1_addAnimator) (f := 26) hst (by decide +kernel) (fun h => absurd rfl h) ⟨q9goodA, q9fs_X1_ok, q9ps_X1_ok, (fun _ h => absurd h List.not_mem_nil), (fun _ h => absurd h List.not_mem_nil), q9kas_ok, (fun _ h => absurd h List.not_mem_nil), (fun _ h => absurd h List.not_mem_nil), (fun _ h => absurd h List.not_mem_nil)⟩ rfl rfl rfl (by decide +kernel)
set_option maxRecDepth 100000 in
theorem q9lk_X1_78_X11_entry_k108 : q9LKs q9ALLW RX1 (78, 2, 0, q9i_X11_entry_k108) := ⟨q9wk_X11_entry, ⟨by decide, by decide, by decide +kernel⟩, List.mem_of_getElem? (i := 7) rfl, q9goodW _ q9wv_X11_entry⟩
noncomputable def q9i_X1_isEngaged : q9INST := (yX1_isEngaged, cX1_isEngaged, 2, (some .boolean), (2, 23, 0, 0), q9dcQ 0x100000000000000000503000000000000000200010200000201000100020ffffffffe0fffffffff0000020200000003, q9dcP 0x1020000000200000005030000000000000002000102020001000ffffffffe0fffffffff0000020200000003000001020000000200000005030000000000000002000102000001000ffffffffe0fffffffff000002020000000302, [], [], [])
noncomputable def q9e_X1_isEngaged : q9EN := (q9TBL, q9fs_X1, q9ps_X1, [], [], [(78, 2, 0, q9i_X11_entry_k108)], (2, 23, 0, 0), 2, [], [], [])
noncomputable def q9cu_X1_isEngaged : List q9CUT := []
set_option maxRecDepth 100000 in
set_option maxHeartbeats 4000000 in
theorem q9c_X1_isEngaged (l : Launch) (hst : l.stackTraces = false) : q9CON O l q9TBL q9ALLW q9i_X1_isEngaged := q9con_of (q := q9i_X1_isEngaged) (n := q9e_X1_isEngaged) (K := []) (K2 := []) (cuts := q9cu_X1_isEngaged) (f := 16) hst (by decide +kernel) (fun h => absurd rfl h) ⟨q9goodA, q9fs_X1_ok, q9ps_X1_ok, (fun _ h => absurd h List.not_mem_nil), (List.forall_mem_cons.mpr ⟨⟨⟨q9c_X11_entry_k108 l hst, q9lk_X1_78_X11_entry_k108⟩, by decide⟩, (fun _ h => absurd h List.not_mem_nil)⟩), q9kas_ok, (fun _ h => absurd h List.not_mem_nil), (fun _ h => absurd h List.not_mem_nil), (fun _ h => absurd h List.not_mem_nil)⟩ rfl rfl rfl (by decide +kernel)
set_option maxRecDepth 100000 in
theorem q9lk_X1_111_X11_swapIn_k106 : q9LKs q9ALLW RX1 (111, 2, 0, q9i_X11_swapIn_k106) := ⟨q9wk_X11_swapIn, ⟨by decide, by decide, by decide +kernel⟩, List.mem_of_getElem? (i := 8) rfl, q9goodW _ q9wv_X11_swapIn⟩
noncomputable def q9i_X1_putQueued : q9INST := (yX1_putQueued, cX1_putQueued, 4, none, (2, 24, 0, 0), q9dcQ 0x300000002000000010000000000000000050500000000000000040003000200010400000403000302000201000100040ffffffffe0fffffffff000ffffffffe0fffffffff000ffffffffe0fffffffff0000020200000005, q9dcP 0x302000002020000010200000002000000050500000000000000040003000200010400000ffffffffe0fffffffff000ffffffffe0fffffffff000ffffffffe0fffffffff000002020000000501, [], [100106], [])
noncomputable def q9e_X1_putQueued : q9EN := (q9TBL, q9fs_X1, q9ps_X1, [100106], [], [(111, 2, 0, q9i_X11_swapIn_k106), (114, 2, 0, q9i_X11_within)], (2, 24, 0, 0), 4, [], [], [])
noncomputable def q9cu_X1_putQueued : List q9CUT := []
set_option maxRecDepth 100000 in
set_option maxHeartbeats 4000000 in
theorem q9c_X1_putQueued (l : Launch) (hst : l.stackTraces = false) : q9CON O l q9TBL q9ALLW q9i_X1_putQueued := q9con_of (q := q9i_X1_putQueued) (n := q9e_X1_putQueued) (K := []) (K2 := []) (cuts := q9cu_X1_putQueued) (f := 23) hst (by decide +kernel) (fun h => absurd rfl h) ⟨q9goodA, q9fs_X1_ok, q9ps_X1_ok, (fun _ h => absurd h List.not_mem_nil), (List.forall_mem_cons.mpr ⟨⟨⟨q9c_X11_swapIn_k106 l hst, q9lk_X1_111_X11_swapIn_k106⟩, by decide⟩, (List.forall_mem_cons.mpr ⟨⟨⟨q9c_X11_within l hst, q9lk_X1_114_X11_within⟩, by decide⟩, (fun _ h => absurd h List.not_mem_nil)⟩)⟩), q9kas_ok, (fun _ h => absurd h List.not_mem_nil), (fun _ h => absurd h List.not_mem_nil), (fun _ h => absurd h List.not_mem_nil)⟩ rfl rfl rfl (by decide +kernel)
set_option maxRecDepth 100000 in
theorem q9wk_X1_putQueued : GoodIn q9ALLW [.code yX1_putQueued cX1_putQueued 4 none, .initialized (yX1_putQueued).cls] := q9goodW _ (List.forall_mem_cons.mpr ⟨(q9inT3 179 rfl rfl), (List.forall_mem_cons.mpr ⟨(q9inT1 11 rfl rfl), (fun _ h => absurd h List.not_mem_nil)⟩)⟩)
set_option maxRecDepth 100000 in
theorem q9wv_X1_putQueued : ∀ w ∈ ([.instanceMethod yX1_putQueued, .selects (yX1_putQueued).cls yX1_putQueued yX1_putQueued] : List Cond), w ∈ q9ALLW := (List.forall_mem_cons.mpr ⟨(q9inT3 178 rfl rfl), (List.forall_mem_cons.mpr ⟨(q9inW 11 rfl rfl), (fun _ h => absurd h List.not_mem_nil)⟩)⟩)
set_option maxRecDepth 100000 in
theorem q9lk_X1_107_X1_putQueued : q9LKs q9ALLW RX1 (107, 0, 1, q9i_X1_putQueued) := ⟨q9wk_X1_putQueued, ⟨by decide, by decide, by decide +kernel⟩, q9goodW _ (List.forall_mem_cons.mpr ⟨(q9inT3 176 rfl rfl), q9wv_X1_putQueued⟩), _, rfl, rfl⟩
set_option maxRecDepth 100000 in
theorem q9lk_X1_111_X11_swapIn_k107 : q9LKs q9ALLW RX1 (111, 2, 0, q9i_X11_swapIn_k107) := ⟨q9wk_X11_swapIn, ⟨by decide, by decide, by decide +kernel⟩, List.mem_of_getElem? (i := 8) rfl, q9goodW _ q9wv_X11_swapIn⟩
set_option maxRecDepth 100000 in
theorem q9lk_X1_111_X11_swapIn_k108 : q9LKs q9ALLW RX1 (111, 2, 0, q9i_X11_swapIn_k108) := ⟨q9wk_X11_swapIn, ⟨by decide, by decide, by decide +kernel⟩, List.mem_of_getElem? (i := 8) rfl, q9goodW _ q9wv_X11_swapIn⟩
noncomputable def q9i_X1_enqueue : q9INST := (yX1_enqueue, cX1_enqueue, 4, (some .int), (3, 47, 0, 0), q9dcQ 0x200000001000000000000000005040000000000000003000200010300000302000201000100030ffffffffe0fffffffff000ffffffffe0fffffffff0000020200000004, q9dcP 0x1000002020000010200000002000000050500000000000000030002000103000401000ffffffffe0fffffffff000ffffffffe0fffffffff000ffffffffe0fffffffff000002020000000501, [], [100106, 100107, 100108], [])
noncomputable def q9e_X1_enqueue : q9EN := (q9TBL, q9fs_X1, q9ps_X1, [100106, 100107, 100108], [(82, 0, 1, q9i_X1_queuedIn), (107, 0, 1, q9i_X1_putQueued)], [(111, 2, 0, q9i_X11_swapIn_k107), (111, 2, 0, q9i_X11_swapIn_k108)], (3, 47, 0, 0), 4, [], [], [])
noncomputable def q9cu_X1_enqueue : List q9CUT := []
set_option maxRecDepth 100000 in
set_option maxHeartbeats 4000000 in
theorem q9c_X1_enqueue (l : Launch) (hst : l.stackTraces = false) : q9CON O l q9TBL q9ALLW q9i_X1_enqueue := q9con_of (q := q9i_X1_enqueue) (n := q9e_X1_enqueue) (K := []) (K2 := []) (cuts := q9cu_X1_enqueue) (f := 39) hst (by decide +kernel) (fun h => absurd rfl h) ⟨q9goodA, q9fs_X1_ok, q9ps_X1_ok, (List.forall_mem_cons.mpr ⟨⟨⟨q9c_X1_queuedIn l hst, q9lk_X1_82_X1_queuedIn⟩, rfl⟩, (List.forall_mem_cons.mpr ⟨⟨⟨q9c_X1_putQueued l hst, q9lk_X1_107_X1_putQueued⟩, rfl⟩, (fun _ h => absurd h List.not_mem_nil)⟩)⟩), (List.forall_mem_cons.mpr ⟨⟨⟨q9c_X11_swapIn_k107 l hst, q9lk_X1_111_X11_swapIn_k107⟩, by decide⟩, (List.forall_mem_cons.mpr ⟨⟨⟨q9c_X11_swapIn_k108 l hst, q9lk_X1_111_X11_swapIn_k108⟩, by decide⟩, (fun _ h => absurd h List.not_mem_nil)⟩)⟩), q9kas_ok, (fun _ h => absurd h List.not_mem_nil), (fun _ h => absurd h List.not_mem_nil), (fun _ h => absurd h List.not_mem_nil)⟩ rfl rfl rfl (by decide +kernel)
set_option maxRecDepth 100000 in
theorem q9lk_X1_111_X11_swapIn_k104 : q9LKs q9ALLW RX1 (111, 2, 0, q9i_X11_swapIn_k104) := ⟨q9wk_X11_swapIn, ⟨by decide, by decide, by decide +kernel⟩, List.mem_of_getElem? (i := 8) rfl, q9goodW _ q9wv_X11_swapIn⟩
set_option maxRecDepth 100000 in
theorem q9lk_X1_111_X11_swapIn_k150 : q9LKs q9ALLW RX1 (111, 2, 0, q9i_X11_swapIn_k150) := ⟨q9wk_X11_swapIn, ⟨by decide, by decide, by decide +kernel⟩, List.mem_of_getElem? (i := 8) rfl, q9goodW _ q9wv_X11_swapIn⟩
set_option maxRecDepth 100000 in
theorem q9wk_X1_takenOf : GoodIn q9ALLW [.code yX1_takenOf cX1_takenOf 2 (some .int), .initialized (yX1_takenOf).cls] := q9goodW _ (List.forall_mem_cons.mpr ⟨(q9inT3 172 rfl rfl), (List.forall_mem_cons.mpr ⟨(q9inT1 11 rfl rfl), (fun _ h => absurd h List.not_mem_nil)⟩)⟩)
set_option maxRecDepth 100000 in
theorem q9wv_X1_takenOf : ∀ w ∈ ([.instanceMethod yX1_takenOf, .selects (yX1_takenOf).cls yX1_takenOf yX1_takenOf] : List Cond), w ∈ q9ALLW := (List.forall_mem_cons.mpr ⟨(q9inT3 170 rfl rfl), (List.forall_mem_cons.mpr ⟨(q9inT3 171 rfl rfl), (fun _ h => absurd h List.not_mem_nil)⟩)⟩)
set_option maxRecDepth 100000 in
theorem q9lk_X1_118_X1_takenOf : q9LKs q9ALLW RX1 (118, 0, 1, q9i_X1_takenOf) := ⟨q9wk_X1_takenOf, ⟨by decide, by decide, by decide +kernel⟩, q9goodW _ (List.forall_mem_cons.mpr ⟨(q9inT3 169 rfl rfl), q9wv_X1_takenOf⟩), _, rfl, rfl⟩
noncomputable def q9i_X1_take : q9INST := (yX1_take, cX1_take, 6, none, (3, 44, 0, 0), q9dcQ 0x200000001000000000000000005040000000000000003000200010300000302000201000100030ffffffffe0fffffffff000ffffffffe0fffffffff0000020200000004, q9dcP 0x202000001020000000200000005040000000000000003000200010300000ffffffffe0fffffffff000ffffffffe0fffffffff000002020000000401, [], [100104, 100150], [])
noncomputable def q9e_X1_take : q9EN := (q9TBL, q9fs_X1, q9ps_X1, [100104, 100150], [(93, 0, 8, q9i_X8_shotAt), (118, 0, 1, q9i_X1_takenOf)], [(111, 2, 0, q9i_X11_swapIn_k104), (111, 2, 0, q9i_X11_swapIn_k150)], (3, 44, 0, 0), 6, [], [], [])
noncomputable def q9cu_X1_take : List q9CUT := q9dcKs 0xc9a8200000ffffffffe06020c9a8200000300000500000001020000040000000300000002000000000000000005070000000000000002000500010300000605000404000303000202000100050ffffffffe0fffffffff000ffffffffe0fffffffff00000e030ffffffffe0fffffffff000ffffffffe0fffffffff00000202000000071f01
set_option maxRecDepth 100000 in
set_option maxHeartbeats 4000000 in
theorem q9c_X1_take (l : Launch) (hst : l.stackTraces = false) : q9CON O l q9TBL q9ALLW q9i_X1_take := q9con_of (q := q9i_X1_take) (n := q9e_X1_take) (K := []) (K2 := []) (cuts := q9cu_X1_take) (f := 49) hst (by decide +kernel) (fun h => absurd rfl h) ⟨q9goodA, q9fs_X1_ok, q9ps_X1_ok, (List.forall_mem_cons.mpr ⟨⟨⟨q9c_X8_shotAt l hst, q9lk_X1_93_X8_shotAt⟩, rfl⟩, (List.forall_mem_cons.mpr ⟨⟨⟨q9c_X1_takenOf l hst, q9lk_X1_118_X1_takenOf⟩, rfl⟩, (fun _ h => absurd h List.not_mem_nil)⟩)⟩), (List.forall_mem_cons.mpr ⟨⟨⟨q9c_X11_swapIn_k104 l hst, q9lk_X1_111_X11_swapIn_k104⟩, by decide⟩, (List.forall_mem_cons.mpr ⟨⟨⟨q9c_X11_swapIn_k150 l hst, q9lk_X1_111_X11_swapIn_k150⟩, by decide⟩, (fun _ h => absurd h List.not_mem_nil)⟩)⟩), q9kas_ok, (fun _ h => absurd h List.not_mem_nil), (fun _ h => absurd h List.not_mem_nil), (fun _ h => absurd h List.not_mem_nil)⟩ rfl rfl rfl (by decide +kernel)
noncomputable def q9i_X1_isAllShot : q9INST := (yX1_isAllShot, cX1_isAllShot, 3, (some .boolean), (3, 44, 0, 0), q9dcQ 0x100000000000000000503000000000000000200010200000201000100020ffffffffe0fffffffff0000020200000003, q9dcP 0x1020000000200000005030000000000000002000102020001000ffffffffe0fffffffff0000020200000003000001020000000200000005030000000000000002000102000001001600000002020000000302, [], [], [])
noncomputable def q9e_X1_isAllShot : q9EN := (q9TBL, q9fs_X1, q9ps_X1, [], [(93, 0, 8, q9i_X8_shotAt), (118, 0, 1, q9i_X1_takenOf)], [], (3, 44, 0, 0), 3, [], [], [])
noncomputable def q9cu_X1_isAllShot : List q9CUT := []
set_option maxRecDepth 100000 in
set_option maxHeartbeats 4000000 in
theorem q9c_X1_isAllShot (l : Launch) (hst : l.stackTraces = false) : q9CON O l q9TBL q9ALLW q9i_X1_isAllShot := q9con_of (q := q9i_X1_isAllShot) (n := q9e_X1_isAllShot) (K := []) (K2 := []) (cuts := q9cu_X1_isAllShot) (f := 32) hst (by decide +kernel) (fun h => absurd rfl h) ⟨q9goodA, q9fs_X1_ok, q9ps_X1_ok, (List.forall_mem_cons.mpr ⟨⟨⟨q9c_X8_shotAt l hst, q9lk_X1_93_X8_shotAt⟩, rfl⟩, (List.forall_mem_cons.mpr ⟨⟨⟨q9c_X1_takenOf l hst, q9lk_X1_118_X1_takenOf⟩, rfl⟩, (fun _ h => absurd h List.not_mem_nil)⟩)⟩), (fun _ h => absurd h List.not_mem_nil), q9kas_ok, (fun _ h => absurd h List.not_mem_nil), (fun _ h => absurd h List.not_mem_nil), (fun _ h => absurd h List.not_mem_nil)⟩ rfl rfl rfl (by decide +kernel)
set_option maxRecDepth 100000 in
theorem q9wk_J7_fill_53178 : GoodIn q9ALLW [.code yJ7_fill_53178 cJ7_fill_53178 4 none, .initialized (yJ7_fill_53178).cls] := q9goodW _ (List.forall_mem_cons.mpr ⟨(q9inT1 49 rfl rfl), (List.forall_mem_cons.mpr ⟨(q9inT1 3 rfl rfl), (fun _ h => absurd h List.not_mem_nil)⟩)⟩)
set_option maxRecDepth 100000 in
theorem q9wv_J7_fill_53178 : ∀ w ∈ ([.static yJ7_fill_53178] : List Cond), w ∈ q9ALLW := (List.forall_mem_cons.mpr ⟨(q9inT1 48 rfl rfl), (fun _ h => absurd h List.not_mem_nil)⟩)
set_option maxRecDepth 100000 in
theorem q9lk_X1_53_J7_fill_53178_k114 : q9LKs q9ALLW RX1 (53, 1, 0, q9i_J7_fill_53178_k114) := ⟨q9wk_J7_fill_53178, ⟨by decide, by decide, by decide +kernel⟩, q9goodW _ (List.forall_mem_cons.mpr ⟨(q9inT2 138 rfl rfl), q9wv_J7_fill_53178⟩)⟩
noncomputable def q9i_X1_turnWeek : q9INST := (yX1_turnWeek, cX1_turnWeek, 2, none, (2, 24, 0, 0), q9dcQ 0x502000000000000000101000001000100020200000002, q9dcP 0x2000000050200000000000000010100000002020000000201, [], [79, 100114], [])
noncomputable def q9e_X1_turnWeek : q9EN := (q9TBL, q9fs_X1, q9ps_X1, [79, 100114], [], [(53, 1, 0, q9i_J7_fill_53178_k114)], (2, 24, 0, 0), 2, [], [], [])
noncomputable def q9cu_X1_turnWeek : List q9CUT := []
set_option maxRecDepth 100000 in
set_option maxHeartbeats 4000000 in
theorem q9c_X1_turnWeek (l : Launch) (hst : l.stackTraces = false) : q9CON O l q9TBL q9ALLW q9i_X1_turnWeek := q9con_of (q := q9i_X1_turnWeek) (n := q9e_X1_turnWeek) (K := []) (K2 := []) (cuts := q9cu_X1_turnWeek) (f := 23) hst (by decide +kernel) (fun h => absurd rfl h) ⟨q9goodA, q9fs_X1_ok, q9ps_X1_ok, (fun _ h => absurd h List.not_mem_nil), (List.forall_mem_cons.mpr ⟨⟨⟨q9c_J7_fill_53178_k114 l hst, q9lk_X1_53_J7_fill_53178_k114⟩, by decide⟩, (fun _ h => absurd h List.not_mem_nil)⟩), q9kas_ok, (fun _ h => absurd h List.not_mem_nil), (fun _ h => absurd h List.not_mem_nil), (fun _ h => absurd h List.not_mem_nil)⟩ rfl rfl rfl (by decide +kernel)
set_option maxRecDepth 100000 in
theorem q9lk_X1_78_X11_entry_k114 : q9LKs q9ALLW RX1 (78, 2, 0, q9i_X11_entry_k114) := ⟨q9wk_X11_entry, ⟨by decide, by decide, by decide +kernel⟩, List.mem_of_getElem? (i := 7) rfl, q9goodW _ q9wv_X11_entry⟩
set_option maxRecDepth 100000 in
theorem q9wk_X1_turnWeek : GoodIn q9ALLW [.code yX1_turnWeek cX1_turnWeek 2 none, .initialized (yX1_turnWeek).cls] := q9goodW _ (List.forall_mem_cons.mpr ⟨(q9inT3 147 rfl rfl), (List.forall_mem_cons.mpr ⟨(q9inT1 11 rfl rfl), (fun _ h => absurd h List.not_mem_nil)⟩)⟩)
set_option maxRecDepth 100000 in
theorem q9wv_X1_turnWeek : ∀ w ∈ ([.instanceMethod yX1_turnWeek, .selects (yX1_turnWeek).cls yX1_turnWeek yX1_turnWeek] : List Cond), w ∈ q9ALLW := (List.forall_mem_cons.mpr ⟨(q9inT3 146 rfl rfl), (List.forall_mem_cons.mpr ⟨(q9inW 6 rfl rfl), (fun _ h => absurd h List.not_mem_nil)⟩)⟩)
set_option maxRecDepth 100000 in
theorem q9lk_X1_104_X1_turnWeek : q9LKs q9ALLW RX1 (104, 0, 1, q9i_X1_turnWeek) := ⟨q9wk_X1_turnWeek, ⟨by decide, by decide, by decide +kernel⟩, q9goodW _ (List.forall_mem_cons.mpr ⟨(q9inT3 144 rfl rfl), q9wv_X1_turnWeek⟩), _, rfl, rfl⟩
noncomputable def q9i_X1_workedBy : q9INST := (yX1_workedBy, cX1_workedBy, 2, (some .int), (3, 45, 0, 0), q9dcQ 0x100000000000000000503000000000000000200010200000201000100020ffffffffe0fffffffff0000020200000003, q9dcP 0x1000001020000000200000005040000000000000002000102000301000ffffffffe0fffffffff000ffffffffe0fffffffff000002020000000401, [], [79, 100114], [])
noncomputable def q9e_X1_workedBy : q9EN := (q9TBL, q9fs_X1, q9ps_X1, [79, 100114], [(104, 0, 1, q9i_X1_turnWeek)], [(78, 2, 0, q9i_X11_entry_k114)], (3, 45, 0, 0), 2, [], [], [])
noncomputable def q9cu_X1_workedBy : List q9CUT := []
set_option maxRecDepth 100000 in
set_option maxHeartbeats 4000000 in
theorem q9c_X1_workedBy (l : Launch) (hst : l.stackTraces = false) : q9CON O l q9TBL q9ALLW q9i_X1_workedBy := q9con_of (q := q9i_X1_workedBy) (n := q9e_X1_workedBy) (K := []) (K2 := []) (cuts := q9cu_X1_workedBy) (f := 13) hst (by decide +kernel) (fun h => absurd rfl h) ⟨q9goodA, q9fs_X1_ok, q9ps_X1_ok, (List.forall_mem_cons.mpr ⟨⟨⟨q9c_X1_turnWeek l hst, q9lk_X1_104_X1_turnWeek⟩, rfl⟩, (fun _ h => absurd h List.not_mem_nil)⟩), (List.forall_mem_cons.mpr ⟨⟨⟨q9c_X11_entry_k114 l hst, q9lk_X1_78_X11_entry_k114⟩, by decide⟩, (fun _ h => absurd h List.not_mem_nil)⟩), q9kas_ok, (fun _ h => absurd h List.not_mem_nil), (fun _ h => absurd h List.not_mem_nil), (fun _ h => absurd h List.not_mem_nil)⟩ rfl rfl rfl (by decide +kernel)
set_option maxRecDepth 100000 in
theorem q9wk_X1_isAllShot : GoodIn q9ALLW [.code yX1_isAllShot cX1_isAllShot 3 (some .boolean), .initialized (yX1_isAllShot).cls] := q9goodW _ (List.forall_mem_cons.mpr ⟨(q9inT3 167 rfl rfl), (List.forall_mem_cons.mpr ⟨(q9inT1 11 rfl rfl), (fun _ h => absurd h List.not_mem_nil)⟩)⟩)
set_option maxRecDepth 100000 in
theorem q9wv_X1_isAllShot : ∀ w ∈ ([.instanceMethod yX1_isAllShot, .selects (yX1_isAllShot).cls yX1_isAllShot yX1_isAllShot] : List Cond), w ∈ q9ALLW := (List.forall_mem_cons.mpr ⟨(q9inT3 166 rfl rfl), (List.forall_mem_cons.mpr ⟨(q9inW 10 rfl rfl), (fun _ h => absurd h List.not_mem_nil)⟩)⟩)
set_option maxRecDepth 100000 in
theorem q9lk_X1_157_X1_isAllShot : q9LKs q9ALLW RX1 (157, 0, 1, q9i_X1_isAllShot) := ⟨q9wk_X1_isAllShot, ⟨by decide, by decide, by decide +kernel⟩, q9goodW _ (List.forall_mem_cons.mpr ⟨(q9inT3 164 rfl rfl), q9wv_X1_isAllShot⟩), _, rfl, rfl⟩
noncomputable def q9i_X1_dropAllShot : q9INST := (yX1_dropAllShot, cX1_dropAllShot, 5, none, (4, 66, 0, 0), q9dcQ 0x1000000000000000005030000000000000002000102000002010001000204000000020200000003, q9dcP 0x102000000020000000503000000000000000200010200000400000002020000000301, [], [80, 100106, 100107, 100108], [])
noncomputable def q9e_X1_dropAllShot : q9EN := (q9TBL, q9fs_X1, q9ps_X1, [80, 100106, 100107, 100108], [(86, 0, 1, q9i_X1_queuedShot), (107, 0, 1, q9i_X1_putQueued), (157, 0, 1, q9i_X1_isAllShot)], [(111, 2, 0, q9i_X11_swapIn_k108)], (4, 66, 0, 0), 5, [], [], [])
noncomputable def q9cu_X1_dropAllShot : List q9CUT := q9dcKs 0xc9ab800000ffffffffe04020c9ab8000003000003000000020000000100000000000000000505000000000403010000000200010200000403000302000201000100040ffffffffe00000ffffffffe0000040000000202000000050401
set_option maxRecDepth 100000 in
set_option maxHeartbeats 4000000 in
theorem q9c_X1_dropAllShot (l : Launch) (hst : l.stackTraces = false) : q9CON O l q9TBL q9ALLW q9i_X1_dropAllShot := q9con_of (q := q9i_X1_dropAllShot) (n := q9e_X1_dropAllShot) (K := []) (K2 := []) (cuts := q9cu_X1_dropAllShot) (f := 70) hst (by decide +kernel) (fun h => absurd rfl h) ⟨q9goodA, q9fs_X1_ok, q9ps_X1_ok, (List.forall_mem_cons.mpr ⟨⟨⟨q9c_X1_queuedShot l hst, q9lk_X1_86_X1_queuedShot⟩, rfl⟩, (List.forall_mem_cons.mpr ⟨⟨⟨q9c_X1_putQueued l hst, q9lk_X1_107_X1_putQueued⟩, rfl⟩, (List.forall_mem_cons.mpr ⟨⟨⟨q9c_X1_isAllShot l hst, q9lk_X1_157_X1_isAllShot⟩, rfl⟩, (fun _ h => absurd h List.not_mem_nil)⟩)⟩)⟩), (List.forall_mem_cons.mpr ⟨⟨⟨q9c_X11_swapIn_k108 l hst, q9lk_X1_111_X11_swapIn_k108⟩, by decide⟩, (fun _ h => absurd h List.not_mem_nil)⟩), q9kas_ok, (fun _ h => absurd h List.not_mem_nil), (fun _ h => absurd h List.not_mem_nil), (fun _ h => absurd h List.not_mem_nil)⟩ rfl rfl rfl (by decide +kernel)
noncomputable def q9i_X1_removeQueued : q9INST := (yX1_removeQueued, cX1_removeQueued, 4, none, (3, 47, 0, 0), q9dcQ 0x200000001000000000000000005040000000000000003000200010300000302000201000100030ffffffffe0fffffffff0004000000020200000004, q9dcP 0x202000001020000000200000005040000000000000003000200010300000ffffffffe0fffffffff000400000002020000000401, [], [100106, 100107], [])
noncomputable def q9e_X1_removeQueued : q9EN := (q9TBL, q9fs_X1, q9ps_X1, [100106, 100107], [(86, 0, 1, q9i_X1_queuedShot), (107, 0, 1, q9i_X1_putQueued)], [], (3, 47, 0, 0), 4, [], [], [])
noncomputable def q9cu_X1_removeQueued : List q9CUT := q9dcKs 0xc9ab800000ffffffffe03020c9ab80000030000020200000300000001000000000000000005050000000000000004000200010300000303000201000100030ffffffffe0fffffffff000ffffffffe0fffffffff00040000000202000000050401
set_option maxRecDepth 100000 in
set_option maxHeartbeats 4000000 in
theorem q9c_X1_removeQueued (l : Launch) (hst : l.stackTraces = false) : q9CON O l q9TBL q9ALLW q9i_X1_removeQueued := q9con_of (q := q9i_X1_removeQueued) (n := q9e_X1_removeQueued) (K := []) (K2 := []) (cuts := q9cu_X1_removeQueued) (f := 36) hst (by decide +kernel) (fun h => absurd rfl h) ⟨q9goodA, q9fs_X1_ok, q9ps_X1_ok, (List.forall_mem_cons.mpr ⟨⟨⟨q9c_X1_queuedShot l hst, q9lk_X1_86_X1_queuedShot⟩, rfl⟩, (List.forall_mem_cons.mpr ⟨⟨⟨q9c_X1_putQueued l hst, q9lk_X1_107_X1_putQueued⟩, rfl⟩, (fun _ h => absurd h List.not_mem_nil)⟩)⟩), (fun _ h => absurd h List.not_mem_nil), q9kas_ok, (fun _ h => absurd h List.not_mem_nil), (fun _ h => absurd h List.not_mem_nil), (fun _ h => absurd h List.not_mem_nil)⟩ rfl rfl rfl (by decide +kernel)
set_option maxRecDepth 100000 in
theorem q9wk_X1_standsIn : GoodIn q9ALLW [.code yX1_standsIn cX1_standsIn 2 (some .int), .initialized (yX1_standsIn).cls] := q9goodW _ (List.forall_mem_cons.mpr ⟨(q9inT3 191 rfl rfl), (List.forall_mem_cons.mpr ⟨(q9inT1 11 rfl rfl), (fun _ h => absurd h List.not_mem_nil)⟩)⟩)
set_option maxRecDepth 100000 in
theorem q9wv_X1_standsIn : ∀ w ∈ ([.instanceMethod yX1_standsIn, .selects (yX1_standsIn).cls yX1_standsIn yX1_standsIn] : List Cond), w ∈ q9ALLW := (List.forall_mem_cons.mpr ⟨(q9inT3 189 rfl rfl), (List.forall_mem_cons.mpr ⟨(q9inT3 190 rfl rfl), (fun _ h => absurd h List.not_mem_nil)⟩)⟩)
set_option maxRecDepth 100000 in
theorem q9lk_X1_143_X1_standsIn : q9LKs q9ALLW RX1 (143, 0, 1, q9i_X1_standsIn) := ⟨q9wk_X1_standsIn, ⟨by decide, by decide, by decide +kernel⟩, q9goodW _ (List.forall_mem_cons.mpr ⟨(q9inT3 188 rfl rfl), q9wv_X1_standsIn⟩), _, rfl, rfl⟩
set_option maxRecDepth 100000 in
theorem q9lk_X1_168_X8_collide : q9LKs q9ALLW RX1 (168, 0, 8, q9i_X8_collide) := ⟨q9wk_X8_collide, ⟨by decide, by decide, by decide +kernel⟩, q9goodW _ (List.forall_mem_cons.mpr ⟨(q9inT3 192 rfl rfl), q9wv_X8_collide⟩), _, rfl, rfl⟩
noncomputable def q9i_X1_mayBegin : q9INST := (yX1_mayBegin, cX1_mayBegin, 7, (some .boolean), (3, 47, 0, 0), q9dcQ 0x200000001000000000000000005040000000000000003000200010300000302000201000100030ffffffffe0fffffffff000ffffffffe0fffffffff0000020200000004, q9dcP 0x2020000010200000002000000050400000000000000030002000103020001001600000ffffffffe0fffffffff0000020200000004000002020000010200000002000000050400000000000000030002000103000001000ffffffffe0fffffffff000ffffffffe0fffffffff000002020000000402, [], [], [])
noncomputable def q9e_X1_mayBegin : q9EN := (q9TBL, q9fs_X1, q9ps_X1, [], [(93, 0, 8, q9i_X8_shotAt), (143, 0, 1, q9i_X1_standsIn), (168, 0, 8, q9i_X8_collide)], [], (3, 47, 0, 0), 7, [], [], [])
noncomputable def q9cu_X1_mayBegin : List q9CUT := q9dcKs 0xc99ec00000603020c99ec000003000002020000010200000500000003000000000000000005060000000000000005000400010300000305000203000100031600000ffffffffe0fffffffff00060000000e02000202000000062a01
set_option maxRecDepth 100000 in
set_option maxHeartbeats 4000000 in
theorem q9c_X1_mayBegin (l : Launch) (hst : l.stackTraces = false) : q9CON O l q9TBL q9ALLW q9i_X1_mayBegin := q9con_of (q := q9i_X1_mayBegin) (n := q9e_X1_mayBegin) (K := []) (K2 := []) (cuts := q9cu_X1_mayBegin) (f := 69) hst (by decide +kernel) (fun h => absurd rfl h) ⟨q9goodA, q9fs_X1_ok, q9ps_X1_ok, (List.forall_mem_cons.mpr ⟨⟨⟨q9c_X8_shotAt l hst, q9lk_X1_93_X8_shotAt⟩, rfl⟩, (List.forall_mem_cons.mpr ⟨⟨⟨q9c_X1_standsIn l hst, q9lk_X1_143_X1_standsIn⟩, rfl⟩, (List.forall_mem_cons.mpr ⟨⟨⟨q9c_X8_collide l hst, q9lk_X1_168_X8_collide⟩, rfl⟩, (fun _ h => absurd h List.not_mem_nil)⟩)⟩)⟩), (fun _ h => absurd h List.not_mem_nil), q9kas_ok, (fun _ h => absurd h List.not_mem_nil), (fun _ h => absurd h List.not_mem_nil), (fun _ h => absurd h List.not_mem_nil)⟩ rfl rfl rfl (by decide +kernel)
set_option maxRecDepth 100000 in
theorem q9wk_X1_mayBegin : GoodIn q9ALLW [.code yX1_mayBegin cX1_mayBegin 7 (some .boolean), .initialized (yX1_mayBegin).cls] := q9goodW _ (List.forall_mem_cons.mpr ⟨(q9inT3 187 rfl rfl), (List.forall_mem_cons.mpr ⟨(q9inT1 11 rfl rfl), (fun _ h => absurd h List.not_mem_nil)⟩)⟩)
set_option maxRecDepth 100000 in
theorem q9wv_X1_mayBegin : ∀ w ∈ ([.instanceMethod yX1_mayBegin, .selects (yX1_mayBegin).cls yX1_mayBegin yX1_mayBegin] : List Cond), w ∈ q9ALLW := (List.forall_mem_cons.mpr ⟨(q9inT3 186 rfl rfl), (List.forall_mem_cons.mpr ⟨(q9inW 13 rfl rfl), (fun _ h => absurd h List.not_mem_nil)⟩)⟩)
set_option maxRecDepth 100000 in
theorem q9lk_X1_161_X1_mayBegin : q9LKs q9ALLW RX1 (161, 0, 1, q9i_X1_mayBegin) := ⟨q9wk_X1_mayBegin, ⟨by decide, by decide, by decide +kernel⟩, q9goodW _ (List.forall_mem_cons.mpr ⟨(q9inT3 184 rfl rfl), q9wv_X1_mayBegin⟩), _, rfl, rfl⟩
set_option maxRecDepth 100000 in
theorem q9wk_X1_removeQueued : GoodIn q9ALLW [.code yX1_removeQueued cX1_removeQueued 4 none, .initialized (yX1_removeQueued).cls] := q9goodW _ (List.forall_mem_cons.mpr ⟨(q9inT3 196 rfl rfl), (List.forall_mem_cons.mpr ⟨(q9inT1 11 rfl rfl), (fun _ h => absurd h List.not_mem_nil)⟩)⟩)
set_option maxRecDepth 100000 in
theorem q9wv_X1_removeQueued : ∀ w ∈ ([.instanceMethod yX1_removeQueued, .selects (yX1_removeQueued).cls yX1_removeQueued yX1_removeQueued] : List Cond), w ∈ q9ALLW := (List.forall_mem_cons.mpr ⟨(q9inT3 195 rfl rfl), (List.forall_mem_cons.mpr ⟨(q9inW 14 rfl rfl), (fun _ h => absurd h List.not_mem_nil)⟩)⟩)
set_option maxRecDepth 100000 in
theorem q9lk_X1_164_X1_removeQueued : q9LKs q9ALLW RX1 (164, 0, 1, q9i_X1_removeQueued) := ⟨q9wk_X1_removeQueued, ⟨by decide, by decide, by decide +kernel⟩, q9goodW _ (List.forall_mem_cons.mpr ⟨(q9inT3 193 rfl rfl), q9wv_X1_removeQueued⟩), _, rfl, rfl⟩
noncomputable def q9i_X1_beginFirst : q9INST := (yX1_beginFirst, cX1_beginFirst, 4, none, (4, 73, 0, 0), q9dcQ 0x1000000000000000005030000000000000002000102000002010001000204000000020200000003, q9dcP 0x102000000020000000503000000000000000200010200000400000002020000000301, [], [80, 100105, 100106, 100107], [])
noncomputable def q9e_X1_beginFirst : q9EN := (q9TBL, q9fs_X1, q9ps_X1, [80, 100105, 100106, 100107], [(86, 0, 1, q9i_X1_queuedShot), (161, 0, 1, q9i_X1_mayBegin), (164, 0, 1, q9i_X1_removeQueued)], [], (4, 73, 0, 0), 4, [], [], [])
noncomputable def q9cu_X1_beginFirst : List q9CUT := q9dcKs 0xc9abc00000ffffffffe03020c9abc0000030000020000000100000000000000000504000000000000000200010200000302000201000100030ffffffffe0000040000000202000000040201
set_option maxRecDepth 100000 in
set_option maxHeartbeats 4000000 in
theorem q9c_X1_beginFirst (l : Launch) (hst : l.stackTraces = false) : q9CON O l q9TBL q9ALLW q9i_X1_beginFirst := q9con_of (q := q9i_X1_beginFirst) (n := q9e_X1_beginFirst) (K := []) (K2 := []) (cuts := q9cu_X1_beginFirst) (f := 40) hst (by decide +kernel) (fun h => absurd rfl h) ⟨q9goodA, q9fs_X1_ok, q9ps_X1_ok, (List.forall_mem_cons.mpr ⟨⟨⟨q9c_X1_queuedShot l hst, q9lk_X1_86_X1_queuedShot⟩, rfl⟩, (List.forall_mem_cons.mpr ⟨⟨⟨q9c_X1_mayBegin l hst, q9lk_X1_161_X1_mayBegin⟩, rfl⟩, (List.forall_mem_cons.mpr ⟨⟨⟨q9c_X1_removeQueued l hst, q9lk_X1_164_X1_removeQueued⟩, rfl⟩, (fun _ h => absurd h List.not_mem_nil)⟩)⟩)⟩), (fun _ h => absurd h List.not_mem_nil), q9kas_ok, (fun _ h => absurd h List.not_mem_nil), (fun _ h => absurd h List.not_mem_nil), (fun _ h => absurd h List.not_mem_nil)⟩ rfl rfl rfl (by decide +kernel)
noncomputable def q9i_X1_stopDressing : q9INST := (yX1_stopDressing, cX1_stopDressing, 2, none, (1, 1, 0, 0), q9dcQ 0x1000000000000000005030000000000000002000102000002010001000204000000020200000003, q9dcP 0x102000000020000000503000000000000000200010200000400000002020000000301, [], [80, 100109], [])
noncomputable def q9e_X1_stopDressing : q9EN := (q9TBL, q9fs_X1, q9ps_X1, [80, 100109], [], [], (1, 1, 0, 0), 2, [], [], [])
noncomputable def q9cu_X1_stopDressing : List q9CUT := []
set_option maxRecDepth 100000 in
set_option maxHeartbeats 4000000 in
theorem q9c_X1_stopDressing (l : Launch) (hst : l.stackTraces = false) : q9CON O l q9TBL q9ALLW q9i_X1_stopDressing := q9con_of (q := q9i_X1_stopDressing) (n := q9e_X1_stopDressing) (K := []) (K2 := []) (cuts := q9cu_X1_stopDressing) (f := 33) hst (by decide +kernel) (fun h => absurd rfl h) ⟨q9goodA, q9fs_X1_ok, q9ps_X1_ok, (fun _ h => absurd h List.not_mem_nil), (fun _ h => absurd h List.not_mem_nil), q9kas_ok, (fun _ h => absurd h List.not_mem_nil), (fun _ h => absurd h List.not_mem_nil), (fun _ h => absurd h List.not_mem_nil)⟩ rfl rfl rfl (by decide +kernel)
noncomputable def q9i_X1_busySets : q9INST := (yX1_busySets, cX1_busySets, 5, (some .int), (1, 1, 0, 0), q9dcQ 0x502000000000000000101000001000100020200000002, q9dcP 0x1000000020000000503000000000000000101000201001000000002020000000301, [], [], [])
noncomputable def q9e_X1_busySets : q9EN := (q9TBL, q9fs_X1, q9ps_X1, [], [], [], (1, 1, 0, 0), 5, [], [], [])
noncomputable def q9cu_X1_busySets : List q9CUT := q9dcKs 0xc9a8600000605020c9a8600001003020c9ab80000050000040000000300000002000000010000000000000000050600000000030201000000010100000504000403000302000201000100050600000200000e00000e0000000202000000061d0000000000000c9ab800001003020c9ab800000500000200000001000000000000000005040000000003020100000001010000030200020100010003100000100000000202000000040402
set_option maxRecDepth 100000 in
set_option maxHeartbeats 4000000 in
theorem q9c_X1_busySets (l : Launch) (hst : l.stackTraces = false) : q9CON O l q9TBL q9ALLW q9i_X1_busySets := q9con_of (q := q9i_X1_busySets) (n := q9e_X1_busySets) (K := []) (K2 := []) (cuts := q9cu_X1_busySets) (f := 64) hst (by decide +kernel) (fun h => absurd rfl h) ⟨q9goodA, q9fs_X1_ok, q9ps_X1_ok, (fun _ h => absurd h List.not_mem_nil), (fun _ h => absurd h List.not_mem_nil), q9kas_ok, (fun _ h => absurd h List.not_mem_nil), (fun _ h => absurd h List.not_mem_nil), (fun _ h => absurd h List.not_mem_nil)⟩ rfl rfl rfl (by decide +kernel)
set_option maxRecDepth 100000 in
theorem q9wk_X1_busySets : GoodIn q9ALLW [.code yX1_busySets cX1_busySets 5 (some .int), .initialized (yX1_busySets).cls] := q9goodW _ (List.forall_mem_cons.mpr ⟨(q9inT3 208 rfl rfl), (List.forall_mem_cons.mpr ⟨(q9inT1 11 rfl rfl), (fun _ h => absurd h List.not_mem_nil)⟩)⟩)
set_option maxRecDepth 100000 in
theorem q9wv_X1_busySets : ∀ w ∈ ([.instanceMethod yX1_busySets, .selects (yX1_busySets).cls yX1_busySets yX1_busySets] : List Cond), w ∈ q9ALLW := (List.forall_mem_cons.mpr ⟨(q9inT3 207 rfl rfl), (List.forall_mem_cons.mpr ⟨(q9inW 17 rfl rfl), (fun _ h => absurd h List.not_mem_nil)⟩)⟩)
set_option maxRecDepth 100000 in
theorem q9lk_X1_172_X1_busySets : q9LKs q9ALLW RX1 (172, 0, 1, q9i_X1_busySets) := ⟨q9wk_X1_busySets, ⟨by decide, by decide, by decide +kernel⟩, q9goodW _ (List.forall_mem_cons.mpr ⟨(q9inT3 205 rfl rfl), q9wv_X1_busySets⟩), _, rfl, rfl⟩
noncomputable def q9i_X1_startDressing : q9INST := (yX1_startDressing, cX1_startDressing, 3, (some .boolean), (2, 25, 0, 0), q9dcQ 0x200000001000000000000000005040000000000000003000200010300000302000201000100030ffffffffe0fffffffff0004000000020200000004, q9dcP 0x2020000010200000002000000050400000000000000030002000103020001000ffffffffe0fffffffff0004000000020200000004000002020000010200000002000000050400000000000000030002000103000001000ffffffffe0fffffffff000400000002020000000402, [], [80, 100109, 100110], [])
noncomputable def q9e_X1_startDressing : q9EN := (q9TBL, q9fs_X1, q9ps_X1, [80, 100109, 100110], [(172, 0, 1, q9i_X1_busySets)], [], (2, 25, 0, 0), 3, [], [], [])
noncomputable def q9cu_X1_startDressing : List q9CUT := []
set_option maxRecDepth 100000 in
set_option maxHeartbeats 4000000 in
theorem q9c_X1_startDressing (l : Launch) (hst : l.stackTraces = false) : q9CON O l q9TBL q9ALLW q9i_X1_startDressing := q9con_of (q := q9i_X1_startDressing) (n := q9e_X1_startDressing) (K := []) (K2 := []) (cuts := q9cu_X1_startDressing) (f := 26) hst (by decide +kernel) (fun h => absurd rfl h) ⟨q9goodA, q9fs_X1_ok, q9ps_X1_ok, (List.forall_mem_cons.mpr ⟨⟨⟨q9c_X1_busySets l hst, q9lk_X1_172_X1_busySets⟩, rfl⟩, (fun _ h => absurd h List.not_mem_nil)⟩), (fun _ h => absurd h List.not_mem_nil), q9kas_ok, (fun _ h => absurd h List.not_mem_nil), (fun _ h => absurd h List.not_mem_nil), (fun _ h => absurd h List.not_mem_nil)⟩ rfl rfl rfl (by decide +kernel)
set_option maxRecDepth 100000 in
theorem q9lk_X1_111_X11_swapIn_k111 : q9LKs q9ALLW RX1 (111, 2, 0, q9i_X11_swapIn_k111) := ⟨q9wk_X11_swapIn, ⟨by decide, by decide, by decide +kernel⟩, List.mem_of_getElem? (i := 8) rfl, q9goodW _ q9wv_X11_swapIn⟩
set_option maxRecDepth 100000 in
theorem q9lk_X1_176_X8_dressOf : q9LKs q9ALLW RX1 (176, 0, 8, q9i_X8_dressOf) := ⟨q9wk_X8_dressOf, ⟨by decide, by decide, by decide +kernel⟩, q9goodW _ (List.forall_mem_cons.mpr ⟨(q9inT3 213 rfl rfl), q9wv_X8_dressOf⟩), _, rfl, rfl⟩
noncomputable def q9i_X1_goOnDressing : q9INST := (yX1_goOnDressing, cX1_goOnDressing, 5, (some .boolean), (3, 44, 0, 0), q9dcQ 0x200000001000000000000000005040000000000000003000200010300000302000201000100030ffffffffe0fffffffff0004000000020200000004, q9dcP 0x2020000010200000002000000050400000000000000030002000103020001000ffffffffe0fffffffff0004000000020200000004000002020000010200000002000000050400000000000000030002000103000001000ffffffffe0fffffffff000400000002020000000402, [], [80, 100109, 100110, 100111], [])
noncomputable def q9e_X1_goOnDressing : q9EN := (q9TBL, q9fs_X1, q9ps_X1, [80, 100109, 100110, 100111], [(176, 0, 8, q9i_X8_dressOf)], [(111, 2, 0, q9i_X11_swapIn_k111)], (3, 44, 0, 0), 5, [], [], [])
noncomputable def q9cu_X1_goOnDressing : List q9CUT := []
set_option maxRecDepth 100000 in
set_option maxHeartbeats 4000000 in
theorem q9c_X1_goOnDressing (l : Launch) (hst : l.stackTraces = false) : q9CON O l q9TBL q9ALLW q9i_X1_goOnDressing := q9con_of (q := q9i_X1_goOnDressing) (n := q9e_X1_goOnDressing) (K := []) (K2 := []) (cuts := q9cu_X1_goOnDressing) (f := 82) hst (by decide +kernel) (fun h => absurd rfl h) ⟨q9goodA, q9fs_X1_ok, q9ps_X1_ok, (List.forall_mem_cons.mpr ⟨⟨⟨q9c_X8_dressOf l hst, q9lk_X1_176_X8_dressOf⟩, rfl⟩, (fun _ h => absurd h List.not_mem_nil)⟩), (List.forall_mem_cons.mpr ⟨⟨⟨q9c_X11_swapIn_k111 l hst, q9lk_X1_111_X11_swapIn_k111⟩, by decide⟩, (fun _ h => absurd h List.not_mem_nil)⟩), q9kas_ok, (fun _ h => absurd h List.not_mem_nil), (fun _ h => absurd h List.not_mem_nil), (fun _ h => absurd h List.not_mem_nil)⟩ rfl rfl rfl (by decide +kernel)
