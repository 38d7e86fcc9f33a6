variable {O : ORC}
set_option maxRecDepth 100000 in
theorem q9wk_X12_leaves : GoodIn q9ALLW [.code yX12_leaves cX12_leaves 4 none, .initialized (yX12_leaves).cls] := q9goodW _ (List.forall_mem_cons.mpr ⟨(q9inT11 84 rfl rfl), (List.forall_mem_cons.mpr ⟨(q9inT1 12 rfl rfl), (fun _ h => absurd h List.not_mem_nil)⟩)⟩)
set_option maxRecDepth 100000 in
theorem q9wv_X12_leaves : ∀ w ∈ ([.instanceMethod yX12_leaves, .selects (yX12_leaves).cls yX12_leaves yX12_leaves] : List Cond), w ∈ q9ALLW := (List.forall_mem_cons.mpr ⟨(q9inT11 83 rfl rfl), (List.forall_mem_cons.mpr ⟨(q9inW 110 rfl rfl), (fun _ h => absurd h List.not_mem_nil)⟩)⟩)
set_option maxRecDepth 100000 in
theorem q9lk_X12_534_X12_leaves : q9LKs q9ALLW RX12 (534, 0, 12, q9i_X12_leaves) := ⟨q9wk_X12_leaves, ⟨by decide, by decide, by decide +kernel⟩, q9goodW _ (List.forall_mem_cons.mpr ⟨(q9inT11 81 rfl rfl), q9wv_X12_leaves⟩), _, rfl, rfl⟩
set_option maxRecDepth 100000 in
theorem q9wk_X12_mayBegin : GoodIn q9ALLW [.code yX12_mayBegin cX12_mayBegin 6 (some .boolean), .initialized (yX12_mayBegin).cls] := q9goodW _ (List.forall_mem_cons.mpr ⟨(q9inT11 88 rfl rfl), (List.forall_mem_cons.mpr ⟨(q9inT1 12 rfl rfl), (fun _ h => absurd h List.not_mem_nil)⟩)⟩)
set_option maxRecDepth 100000 in
theorem q9wv_X12_mayBegin : ∀ w ∈ ([.instanceMethod yX12_mayBegin, .selects (yX12_mayBegin).cls yX12_mayBegin yX12_mayBegin] : List Cond), w ∈ q9ALLW := (List.forall_mem_cons.mpr ⟨(q9inT11 87 rfl rfl), (List.forall_mem_cons.mpr ⟨(q9inW 111 rfl rfl), (fun _ h => absurd h List.not_mem_nil)⟩)⟩)
set_option maxRecDepth 100000 in
theorem q9lk_X12_537_X12_mayBegin : q9LKs q9ALLW RX12 (537, 0, 12, q9i_X12_mayBegin) := ⟨q9wk_X12_mayBegin, ⟨by decide, by decide, by decide +kernel⟩, q9goodW _ (List.forall_mem_cons.mpr ⟨(q9inT11 85 rfl rfl), q9wv_X12_mayBegin⟩), _, rfl, rfl⟩
noncomputable def q9i_X12_begins : q9INST := (yX12_begins, cX12_begins, 3, none, (4, 71, 0, 0), q9dcQ 0x1000000000000000005030000000000000002000102000002010001000204000000180200000003, q9dcP 0x102000000020000000503000000000000000200010200000400000018020000000301, [], [100233, 100234, 100235], [])
noncomputable def q9e_X12_begins : q9EN := (q9TBL, q9fs_X12, q9ps_X12, [100233, 100234, 100235], [(531, 0, 12, q9i_X12_isAllShot), (534, 0, 12, q9i_X12_leaves), (537, 0, 12, q9i_X12_mayBegin)], [], (4, 71, 0, 0), 3, [], [], [])
noncomputable def q9cu_X12_begins : List q9CUT := q9dcKs 0xc99e600001403020c99e600000300020404005d010300000200000001000000000000000005060000000005030100050002040100045d0101000200010200000302000201000100031400000003d202140000040000001802000000062d0c9aae00000203010c9aae00000300020404005d010300000200000001000000000000000005060000000105030100050002040100045d0101000200010200000302000201000100031400000003d202120100040000001802000000060902
set_option maxRecDepth 100000 in
set_option maxHeartbeats 4000000 in
theorem q9c_X12_begins (l : Launch) (hst : l.stackTraces = false) : q9CON O l q9TBL q9ALLW q9i_X12_begins := q9con_of (q := q9i_X12_begins) (n := q9e_X12_begins) (K := []) (K2 := []) (cuts := q9cu_X12_begins) (f := 75) hst (by decide +kernel) (fun h => absurd rfl h) ⟨q9goodA, q9fs_X12_ok, q9ps_X12_ok, (List.forall_mem_cons.mpr ⟨⟨⟨q9c_X12_isAllShot l hst, q9lk_X12_531_X12_isAllShot⟩, rfl⟩, (List.forall_mem_cons.mpr ⟨⟨⟨q9c_X12_leaves l hst, q9lk_X12_534_X12_leaves⟩, rfl⟩, (List.forall_mem_cons.mpr ⟨⟨⟨q9c_X12_mayBegin l hst, q9lk_X12_537_X12_mayBegin⟩, rfl⟩, (fun _ h => absurd h List.not_mem_nil)⟩)⟩)⟩), (fun _ h => absurd h List.not_mem_nil), q9kas_ok, (fun _ h => absurd h List.not_mem_nil), (fun _ h => absurd h List.not_mem_nil), (fun _ h => absurd h List.not_mem_nil)⟩ rfl rfl rfl (by decide +kernel)
noncomputable def q9i_X12_built : q9INST := (yX12_built, cX12_built, 3, (some .int), (1, 1, 0, 0), q9dcQ 0x502000000000000000101000001000100180200000002, q9dcP 0x1000000020000000503000000000000000101000201000ffffffffe0fffffffff000018020000000301, [], [], [])
noncomputable def q9e_X12_built : q9EN := (q9TBL, q9fs_X12, q9ps_X12, [], [], [], (1, 1, 0, 0), 3, [], [], [])
noncomputable def q9cu_X12_built : List q9CUT := q9dcKs 0xc99f800000603020c99f8000003000002000000010000000000000000050400000000000000010100000302000201000100030600000ffffffffe0fffffffff0000180200000004240c9ab800001003020c9ab800000300000200000001000000000000000005040000000003020100000001010000030200020100010003100000100000001802000000040402
set_option maxRecDepth 100000 in
set_option maxHeartbeats 4000000 in
theorem q9c_X12_built (l : Launch) (hst : l.stackTraces = false) : q9CON O l q9TBL q9ALLW q9i_X12_built := q9con_of (q := q9i_X12_built) (n := q9e_X12_built) (K := []) (K2 := []) (cuts := q9cu_X12_built) (f := 55) hst (by decide +kernel) (fun h => absurd rfl h) ⟨q9goodA, q9fs_X12_ok, q9ps_X12_ok, (fun _ h => absurd h List.not_mem_nil), (fun _ h => absurd h List.not_mem_nil), q9kas_ok, (fun _ h => absurd h List.not_mem_nil), (fun _ h => absurd h List.not_mem_nil), (fun _ h => absurd h List.not_mem_nil)⟩ rfl rfl rfl (by decide +kernel)
noncomputable def q9i_X12_isOver : q9INST := (yX12_isOver, cX12_isOver, 5, none, (2, 24, 0, 0), q9dcQ 0x20304005f0103000001000000000000000005050000000000040002030100035f010100040003000200010400000201000100021600000003d60204000000180200000005, q9dcP 0x302000002020000010200000002000000050500000000000000040003000200010400001600000003d6020400000018020000000501, [], [100235, 100236, 100238], [])
noncomputable def q9e_X12_isOver : q9EN := (q9TBL, q9fs_X12, q9ps_X12, [100235, 100236, 100238], [(528, 0, 12, q9i_X12_isTaken)], [], (2, 24, 0, 0), 5, [], [], [])
noncomputable def q9cu_X12_isOver : List q9CUT := q9dcKs 0xc9a8200001804020c9a8200000300000302000002020000010200000400000003000000020000000000000000050800000000040301000000070006000500010400000404000303000202000100041600000003d6020400001800000200000e0000001802000000081f01
set_option maxRecDepth 100000 in
set_option maxHeartbeats 4000000 in
theorem q9c_X12_isOver (l : Launch) (hst : l.stackTraces = false) : q9CON O l q9TBL q9ALLW q9i_X12_isOver := q9con_of (q := q9i_X12_isOver) (n := q9e_X12_isOver) (K := []) (K2 := []) (cuts := q9cu_X12_isOver) (f := 71) hst (by decide +kernel) (fun h => absurd rfl h) ⟨q9goodA, q9fs_X12_ok, q9ps_X12_ok, (List.forall_mem_cons.mpr ⟨⟨⟨q9c_X12_isTaken l hst, q9lk_X12_528_X12_isTaken⟩, rfl⟩, (fun _ h => absurd h List.not_mem_nil)⟩), (fun _ h => absurd h List.not_mem_nil), q9kas_ok, (fun _ h => absurd h List.not_mem_nil), (fun _ h => absurd h List.not_mem_nil), (fun _ h => absurd h List.not_mem_nil)⟩ rfl rfl rfl (by decide +kernel)
noncomputable def q9i_X12_weekly : q9INST := (yX12_weekly, cX12_weekly, 2, (some .int), (1, 1, 0, 0), q9dcQ 0x100000000000000000503000000000000000200010200000201000100020a000000180200000003, q9dcP 0x1000001020000000200000005040000000000000002000102000301000ffffffffe0fffffffff000a00000018020000000401, [], [], [])
noncomputable def q9e_X12_weekly : q9EN := (q9TBL, q9fs_X12, q9ps_X12, [], [], [], (1, 1, 0, 0), 2, [], [], [])
noncomputable def q9cu_X12_weekly : List q9CUT := []
set_option maxRecDepth 100000 in
set_option maxHeartbeats 4000000 in
theorem q9c_X12_weekly (l : Launch) (hst : l.stackTraces = false) : q9CON O l q9TBL q9ALLW q9i_X12_weekly := q9con_of (q := q9i_X12_weekly) (n := q9e_X12_weekly) (K := []) (K2 := []) (cuts := q9cu_X12_weekly) (f := 22) hst (by decide +kernel) (fun h => absurd rfl h) ⟨q9goodA, q9fs_X12_ok, q9ps_X12_ok, (fun _ h => absurd h List.not_mem_nil), (fun _ h => absurd h List.not_mem_nil), q9kas_ok, (fun _ h => absurd h List.not_mem_nil), (fun _ h => absurd h List.not_mem_nil), (fun _ h => absurd h List.not_mem_nil)⟩ rfl rfl rfl (by decide +kernel)
set_option maxRecDepth 100000 in
theorem q9wk_X12_isOver : GoodIn q9ALLW [.code yX12_isOver cX12_isOver 5 none, .initialized (yX12_isOver).cls] := q9goodW _ (List.forall_mem_cons.mpr ⟨(q9inT11 100 rfl rfl), (List.forall_mem_cons.mpr ⟨(q9inT1 12 rfl rfl), (fun _ h => absurd h List.not_mem_nil)⟩)⟩)
set_option maxRecDepth 100000 in
theorem q9wv_X12_isOver : ∀ w ∈ ([.instanceMethod yX12_isOver, .selects (yX12_isOver).cls yX12_isOver yX12_isOver] : List Cond), w ∈ q9ALLW := (List.forall_mem_cons.mpr ⟨(q9inT11 99 rfl rfl), (List.forall_mem_cons.mpr ⟨(q9inW 114 rfl rfl), (fun _ h => absurd h List.not_mem_nil)⟩)⟩)
set_option maxRecDepth 100000 in
theorem q9lk_X12_540_X12_isOver : q9LKs q9ALLW RX12 (540, 0, 12, q9i_X12_isOver) := ⟨q9wk_X12_isOver, ⟨by decide, by decide, by decide +kernel⟩, q9goodW _ (List.forall_mem_cons.mpr ⟨(q9inT11 97 rfl rfl), q9wv_X12_isOver⟩), _, rfl, rfl⟩
set_option maxRecDepth 100000 in
theorem q9wk_X12_weekly : GoodIn q9ALLW [.code yX12_weekly cX12_weekly 2 (some .int), .initialized (yX12_weekly).cls] := q9goodW _ (List.forall_mem_cons.mpr ⟨(q9inT11 104 rfl rfl), (List.forall_mem_cons.mpr ⟨(q9inT1 12 rfl rfl), (fun _ h => absurd h List.not_mem_nil)⟩)⟩)
set_option maxRecDepth 100000 in
theorem q9wv_X12_weekly : ∀ w ∈ ([.instanceMethod yX12_weekly, .selects (yX12_weekly).cls yX12_weekly yX12_weekly] : List Cond), w ∈ q9ALLW := (List.forall_mem_cons.mpr ⟨(q9inT11 103 rfl rfl), (List.forall_mem_cons.mpr ⟨(q9inW 115 rfl rfl), (fun _ h => absurd h List.not_mem_nil)⟩)⟩)
set_option maxRecDepth 100000 in
theorem q9lk_X12_543_X12_weekly : q9LKs q9ALLW RX12 (543, 0, 12, q9i_X12_weekly) := ⟨q9wk_X12_weekly, ⟨by decide, by decide, by decide +kernel⟩, q9goodW _ (List.forall_mem_cons.mpr ⟨(q9inT11 101 rfl rfl), q9wv_X12_weekly⟩), _, rfl, rfl⟩
set_option maxRecDepth 100000 in
theorem q9wk_X12_begins : GoodIn q9ALLW [.code yX12_begins cX12_begins 3 none, .initialized (yX12_begins).cls] := q9goodW _ (List.forall_mem_cons.mpr ⟨(q9inT11 80 rfl rfl), (List.forall_mem_cons.mpr ⟨(q9inT1 12 rfl rfl), (fun _ h => absurd h List.not_mem_nil)⟩)⟩)
set_option maxRecDepth 100000 in
theorem q9wv_X12_begins : ∀ w ∈ ([.instanceMethod yX12_begins, .selects (yX12_begins).cls yX12_begins yX12_begins] : List Cond), w ∈ q9ALLW := (List.forall_mem_cons.mpr ⟨(q9inT11 79 rfl rfl), (List.forall_mem_cons.mpr ⟨(q9inW 109 rfl rfl), (fun _ h => absurd h List.not_mem_nil)⟩)⟩)
set_option maxRecDepth 100000 in
theorem q9lk_X12_546_X12_begins : q9LKs q9ALLW RX12 (546, 0, 12, q9i_X12_begins) := ⟨q9wk_X12_begins, ⟨by decide, by decide, by decide +kernel⟩, q9goodW _ (List.forall_mem_cons.mpr ⟨(q9inT11 77 rfl rfl), q9wv_X12_begins⟩), _, rfl, rfl⟩
set_option maxRecDepth 100000 in
theorem q9wk_X12_built : GoodIn q9ALLW [.code yX12_built cX12_built 3 (some .int), .initialized (yX12_built).cls] := q9goodW _ (List.forall_mem_cons.mpr ⟨(q9inT11 92 rfl rfl), (List.forall_mem_cons.mpr ⟨(q9inT1 12 rfl rfl), (fun _ h => absurd h List.not_mem_nil)⟩)⟩)
set_option maxRecDepth 100000 in
theorem q9wv_X12_built : ∀ w ∈ ([.instanceMethod yX12_built, .selects (yX12_built).cls yX12_built yX12_built] : List Cond), w ∈ q9ALLW := (List.forall_mem_cons.mpr ⟨(q9inT11 91 rfl rfl), (List.forall_mem_cons.mpr ⟨(q9inW 112 rfl rfl), (fun _ h => absurd h List.not_mem_nil)⟩)⟩)
set_option maxRecDepth 100000 in
theorem q9lk_X12_549_X12_built : q9LKs q9ALLW RX12 (549, 0, 12, q9i_X12_built) := ⟨q9wk_X12_built, ⟨by decide, by decide, by decide +kernel⟩, q9goodW _ (List.forall_mem_cons.mpr ⟨(q9inT11 89 rfl rfl), q9wv_X12_built⟩), _, rfl, rfl⟩
set_option maxRecDepth 100000 in
theorem q9wk_X12_works : GoodIn q9ALLW [.code yX12_works cX12_works 6 none, .initialized (yX12_works).cls] := q9goodW _ (List.forall_mem_cons.mpr ⟨(q9inT11 96 rfl rfl), (List.forall_mem_cons.mpr ⟨(q9inT1 12 rfl rfl), (fun _ h => absurd h List.not_mem_nil)⟩)⟩)
set_option maxRecDepth 100000 in
theorem q9wv_X12_works : ∀ w ∈ ([.instanceMethod yX12_works, .selects (yX12_works).cls yX12_works yX12_works] : List Cond), w ∈ q9ALLW := (List.forall_mem_cons.mpr ⟨(q9inT11 95 rfl rfl), (List.forall_mem_cons.mpr ⟨(q9inW 113 rfl rfl), (fun _ h => absurd h List.not_mem_nil)⟩)⟩)
set_option maxRecDepth 100000 in
theorem q9wk_X12_halfOf : GoodIn q9ALLW [.code yX12_halfOf cX12_halfOf 4 none, .initialized (yX12_halfOf).cls] := q9goodW _ (List.forall_mem_cons.mpr ⟨(q9inT11 76 rfl rfl), (List.forall_mem_cons.mpr ⟨(q9inT1 12 rfl rfl), (fun _ h => absurd h List.not_mem_nil)⟩)⟩)
set_option maxRecDepth 100000 in
theorem q9wv_X12_halfOf : ∀ w ∈ ([.instanceMethod yX12_halfOf, .selects (yX12_halfOf).cls yX12_halfOf yX12_halfOf] : List Cond), w ∈ q9ALLW := (List.forall_mem_cons.mpr ⟨(q9inT11 75 rfl rfl), (List.forall_mem_cons.mpr ⟨(q9inW 108 rfl rfl), (fun _ h => absurd h List.not_mem_nil)⟩)⟩)
set_option maxRecDepth 100000 in
theorem q9wk_X12_floorHalf : GoodIn q9ALLW [.code yX12_floorHalf cX12_floorHalf 2 none, .initialized (yX12_floorHalf).cls] := q9goodW _ (List.forall_mem_cons.mpr ⟨(q9inT11 72 rfl rfl), (List.forall_mem_cons.mpr ⟨(q9inT1 12 rfl rfl), (fun _ h => absurd h List.not_mem_nil)⟩)⟩)
set_option maxRecDepth 100000 in
theorem q9wv_X12_floorHalf : ∀ w ∈ ([.instanceMethod yX12_floorHalf, .selects (yX12_floorHalf).cls yX12_floorHalf yX12_floorHalf] : List Cond), w ∈ q9ALLW := (List.forall_mem_cons.mpr ⟨(q9inT11 71 rfl rfl), (List.forall_mem_cons.mpr ⟨(q9inW 107 rfl rfl), (fun _ h => absurd h List.not_mem_nil)⟩)⟩)
noncomputable def q9i_X12_on : q9INST := (yX12_on, cX12_on, 3, (some .int), (2, 23, 0, 0), q9dcQ 0x200000001000000000000000005040000000000000003000200010300000302000201000100030ffffffffe0fffffffff000ffffffffe0fffffffff0000180200000004, q9dcP 0x1000002020000010200000002000000050500000000000000030002000103000401000ffffffffe0fffffffff000ffffffffe0fffffffff000ffffffffe0fffffffff000018020000000501, [], [768], [])
noncomputable def q9e_X12_on : q9EN := (q9TBL, q9fs_X12, q9ps_X12, [768], [(271, 0, 12, q9i_X12_may)], [(267, 1, 0, q9i_X12_within)], (2, 23, 0, 0), 3, [], [], [])
noncomputable def q9cu_X12_on : List q9CUT := []
set_option maxRecDepth 100000 in
set_option maxHeartbeats 4000000 in
theorem q9c_X12_on (l : Launch) (hst : l.stackTraces = false) : q9CON O l q9TBL q9ALLW q9i_X12_on := q9con_of (q := q9i_X12_on) (n := q9e_X12_on) (K := []) (K2 := []) (cuts := q9cu_X12_on) (f := 81) hst (by decide +kernel) (fun h => absurd rfl h) ⟨q9goodA, q9fs_X12_ok, q9ps_X12_ok, (List.forall_mem_cons.mpr ⟨⟨⟨q9c_X12_may l hst, q9lk_X12_271_X12_may⟩, rfl⟩, (fun _ h => absurd h List.not_mem_nil)⟩), (List.forall_mem_cons.mpr ⟨⟨⟨q9c_X12_within l hst, q9lk_X12_267_X12_within⟩, by decide⟩, (fun _ h => absurd h List.not_mem_nil)⟩), q9kas_ok, (fun _ h => absurd h List.not_mem_nil), (fun _ h => absurd h List.not_mem_nil), (fun _ h => absurd h List.not_mem_nil)⟩ rfl rfl rfl (by decide +kernel)
noncomputable def q9i_X12_stands : q9INST := (yX12_stands, cX12_stands, 2, (some .int), (2, 23, 0, 0), q9dcQ 0x100000000000000000503000000000000000200010200000201000100020ffffffffe0fffffffff0000180200000003, q9dcP 0x1000001020000000200000005040000000000000002000102000301000401000ffffffffe0fffffffff000018020000000401, [], [768], [])
noncomputable def q9e_X12_stands : q9EN := (q9TBL, q9fs_X12, q9ps_X12, [768], [(271, 0, 12, q9i_X12_may)], [(267, 1, 0, q9i_X12_within)], (2, 23, 0, 0), 2, [], [], [])
noncomputable def q9cu_X12_stands : List q9CUT := []
set_option maxRecDepth 100000 in
set_option maxHeartbeats 4000000 in
theorem q9c_X12_stands (l : Launch) (hst : l.stackTraces = false) : q9CON O l q9TBL q9ALLW q9i_X12_stands := q9con_of (q := q9i_X12_stands) (n := q9e_X12_stands) (K := []) (K2 := []) (cuts := q9cu_X12_stands) (f := 29) hst (by decide +kernel) (fun h => absurd rfl h) ⟨q9goodA, q9fs_X12_ok, q9ps_X12_ok, (List.forall_mem_cons.mpr ⟨⟨⟨q9c_X12_may l hst, q9lk_X12_271_X12_may⟩, rfl⟩, (fun _ h => absurd h List.not_mem_nil)⟩), (List.forall_mem_cons.mpr ⟨⟨⟨q9c_X12_within l hst, q9lk_X12_267_X12_within⟩, by decide⟩, (fun _ h => absurd h List.not_mem_nil)⟩), q9kas_ok, (fun _ h => absurd h List.not_mem_nil), (fun _ h => absurd h List.not_mem_nil), (fun _ h => absurd h List.not_mem_nil)⟩ rfl rfl rfl (by decide +kernel)
noncomputable def q9i_X12_worked : q9INST := (yX12_worked, cX12_worked, 2, (some .int), (2, 23, 0, 0), q9dcQ 0x100000000000000000503000000000000000200010200000201000100020ffffffffe0fffffffff0000180200000003, q9dcP 0x1000001020000000200000005040000000000000002000102000301000ffffffffe0fffffffff000ffffffffe0fffffffff000018020000000401, [], [768], [])
noncomputable def q9e_X12_worked : q9EN := (q9TBL, q9fs_X12, q9ps_X12, [768], [(271, 0, 12, q9i_X12_may), (543, 0, 12, q9i_X12_weekly)], [(267, 1, 0, q9i_X12_within)], (2, 23, 0, 0), 2, [], [], [])
noncomputable def q9cu_X12_worked : List q9CUT := []
set_option maxRecDepth 100000 in
set_option maxHeartbeats 4000000 in
theorem q9c_X12_worked (l : Launch) (hst : l.stackTraces = false) : q9CON O l q9TBL q9ALLW q9i_X12_worked := q9con_of (q := q9i_X12_worked) (n := q9e_X12_worked) (K := []) (K2 := []) (cuts := q9cu_X12_worked) (f := 31) hst (by decide +kernel) (fun h => absurd rfl h) ⟨q9goodA, q9fs_X12_ok, q9ps_X12_ok, (List.forall_mem_cons.mpr ⟨⟨⟨q9c_X12_may l hst, q9lk_X12_271_X12_may⟩, rfl⟩, (List.forall_mem_cons.mpr ⟨⟨⟨q9c_X12_weekly l hst, q9lk_X12_543_X12_weekly⟩, rfl⟩, (fun _ h => absurd h List.not_mem_nil)⟩)⟩), (List.forall_mem_cons.mpr ⟨⟨⟨q9c_X12_within l hst, q9lk_X12_267_X12_within⟩, by decide⟩, (fun _ h => absurd h List.not_mem_nil)⟩), q9kas_ok, (fun _ h => absurd h List.not_mem_nil), (fun _ h => absurd h List.not_mem_nil), (fun _ h => absurd h List.not_mem_nil)⟩ rfl rfl rfl (by decide +kernel)
noncomputable def q9i_X12_isIdle : q9INST := (yX12_isIdle, cX12_isIdle, 1, (some .boolean), (1, 1, 0, 0), q9dcQ 0x502000000000000000101000001000100180200000002, q9dcP 0x200000005020000000000000001010200010000180200000002000000020000000502000000000000000101000001000018020000000202, [], [], [])
noncomputable def q9e_X12_isIdle : q9EN := (q9TBL, q9fs_X12, q9ps_X12, [], [], [], (1, 1, 0, 0), 1, [], [], [])
noncomputable def q9cu_X12_isIdle : List q9CUT := []
set_option maxRecDepth 100000 in
set_option maxHeartbeats 4000000 in
theorem q9c_X12_isIdle (l : Launch) (hst : l.stackTraces = false) : q9CON O l q9TBL q9ALLW q9i_X12_isIdle := q9con_of (q := q9i_X12_isIdle) (n := q9e_X12_isIdle) (K := []) (K2 := []) (cuts := q9cu_X12_isIdle) (f := 49) hst (by decide +kernel) (fun h => absurd rfl h) ⟨q9goodA, q9fs_X12_ok, q9ps_X12_ok, (fun _ h => absurd h List.not_mem_nil), (fun _ h => absurd h List.not_mem_nil), q9kas_ok, (fun _ h => absurd h List.not_mem_nil), (fun _ h => absurd h List.not_mem_nil), (fun _ h => absurd h List.not_mem_nil)⟩ rfl rfl rfl (by decide +kernel)
noncomputable def q9i_X12_count : q9INST := (yX12_count, cX12_count, 2, (some .int), (1, 1, 0, 0), q9dcQ 0x100000000000000000503000000000000000200010200000201000100020ffffffffe0fffffffff0000180200000003, q9dcP 0x1000001020000000200000005040000000000000002000102000301000ffffffffe0fffffffff000ffffffffe0fffffffff000018020000000401, [], [768], [])
noncomputable def q9e_X12_count : q9EN := (q9TBL, q9fs_X12, q9ps_X12, [768], [], [], (1, 1, 0, 0), 2, [], [], [])
noncomputable def q9cu_X12_count : List q9CUT := []
set_option maxRecDepth 100000 in
set_option maxHeartbeats 4000000 in
theorem q9c_X12_count (l : Launch) (hst : l.stackTraces = false) : q9CON O l q9TBL q9ALLW q9i_X12_count := q9con_of (q := q9i_X12_count) (n := q9e_X12_count) (K := []) (K2 := []) (cuts := q9cu_X12_count) (f := 32) hst (by decide +kernel) (fun h => absurd rfl h) ⟨q9goodA, q9fs_X12_ok, q9ps_X12_ok, (fun _ h => absurd h List.not_mem_nil), (fun _ h => absurd h List.not_mem_nil), q9kas_ok, (fun _ h => absurd h List.not_mem_nil), (fun _ h => absurd h List.not_mem_nil), (fun _ h => absurd h List.not_mem_nil)⟩ rfl rfl rfl (by decide +kernel)
