variable {O : ORC}
set_option maxRecDepth 100000 in
theorem q9wk_X1_isEngaged : GoodIn q9ALLW [.code yX1_isEngaged cX1_isEngaged 2 (some .boolean), .initialized (yX1_isEngaged).cls] := q9goodW _ (List.forall_mem_cons.mpr ⟨(q9inT3 229 rfl rfl), (List.forall_mem_cons.mpr ⟨(q9inT1 11 rfl rfl), (fun _ h => absurd h List.not_mem_nil)⟩)⟩)
set_option maxRecDepth 100000 in
theorem q9wv_X1_isEngaged : ∀ w ∈ ([.instanceMethod yX1_isEngaged, .selects (yX1_isEngaged).cls yX1_isEngaged yX1_isEngaged] : List Cond), w ∈ q9ALLW := (List.forall_mem_cons.mpr ⟨(q9inT3 227 rfl rfl), (List.forall_mem_cons.mpr ⟨(q9inT3 228 rfl rfl), (fun _ h => absurd h List.not_mem_nil)⟩)⟩)
set_option maxRecDepth 100000 in
theorem q9lk_X1_203_X1_isEngaged : q9LKs q9ALLW RX1 (203, 0, 1, q9i_X1_isEngaged) := ⟨q9wk_X1_isEngaged, ⟨by decide, by decide, by decide +kernel⟩, q9goodW _ (List.forall_mem_cons.mpr ⟨(q9inT3 226 rfl rfl), q9wv_X1_isEngaged⟩), _, rfl, rfl⟩
noncomputable def q9i_X1_isWanted : q9INST := (yX1_isWanted, cX1_isWanted, 4, (some .boolean), (3, 44, 0, 0), q9dcQ 0x100000000000000000503000000000000000200010200000201000100020ffffffffe0fffffffff0000020200000003, q9dcP 0x1020000000200000005030000000000000002000102020001000ffffffffe0fffffffff0000020200000003000001020000000200000005030000000000000002000102000001000ffffffffe0fffffffff000002020000000302, [], [], [])
noncomputable def q9e_X1_isWanted : q9EN := (q9TBL, q9fs_X1, q9ps_X1, [], [(93, 0, 8, q9i_X8_shotAt), (203, 0, 1, q9i_X1_isEngaged)], [], (3, 44, 0, 0), 4, [], [], [])
noncomputable def q9cu_X1_isWanted : List q9CUT := q9dcKs 0xc9abc00001803020c9abc0000030000020000000100000000000000000504000000000000000200010200000302000201000100031800000ffffffffe0fffffffff00000202000000040201
set_option maxRecDepth 100000 in
set_option maxHeartbeats 4000000 in
theorem q9c_X1_isWanted (l : Launch) (hst : l.stackTraces = false) : q9CON O l q9TBL q9ALLW q9i_X1_isWanted := q9con_of (q := q9i_X1_isWanted) (n := q9e_X1_isWanted) (K := []) (K2 := []) (cuts := q9cu_X1_isWanted) (f := 41) hst (by decide +kernel) (fun h => absurd rfl h) ⟨q9goodA, q9fs_X1_ok, q9ps_X1_ok, (List.forall_mem_cons.mpr ⟨⟨⟨q9c_X8_shotAt l hst, q9lk_X1_93_X8_shotAt⟩, rfl⟩, (List.forall_mem_cons.mpr ⟨⟨⟨q9c_X1_isEngaged l hst, q9lk_X1_203_X1_isEngaged⟩, rfl⟩, (fun _ h => absurd h List.not_mem_nil)⟩)⟩), (fun _ h => absurd h List.not_mem_nil), q9kas_ok, (fun _ h => absurd h List.not_mem_nil), (fun _ h => absurd h List.not_mem_nil), (fun _ h => absurd h List.not_mem_nil)⟩ rfl rfl rfl (by decide +kernel)
set_option maxRecDepth 100000 in
theorem q9wk_X1_isWanted : GoodIn q9ALLW [.code yX1_isWanted cX1_isWanted 4 (some .boolean), .initialized (yX1_isWanted).cls] := q9goodW _ (List.forall_mem_cons.mpr ⟨(q9inT3 225 rfl rfl), (List.forall_mem_cons.mpr ⟨(q9inT1 11 rfl rfl), (fun _ h => absurd h List.not_mem_nil)⟩)⟩)
set_option maxRecDepth 100000 in
theorem q9wv_X1_isWanted : ∀ w ∈ ([.instanceMethod yX1_isWanted, .selects (yX1_isWanted).cls yX1_isWanted yX1_isWanted] : List Cond), w ∈ q9ALLW := (List.forall_mem_cons.mpr ⟨(q9inT3 224 rfl rfl), (List.forall_mem_cons.mpr ⟨(q9inW 21 rfl rfl), (fun _ h => absurd h List.not_mem_nil)⟩)⟩)
set_option maxRecDepth 100000 in
theorem q9lk_X1_200_X1_isWanted : q9LKs q9ALLW RX1 (200, 0, 1, q9i_X1_isWanted) := ⟨q9wk_X1_isWanted, ⟨by decide, by decide, by decide +kernel⟩, q9goodW _ (List.forall_mem_cons.mpr ⟨(q9inT3 222 rfl rfl), q9wv_X1_isWanted⟩), _, rfl, rfl⟩
noncomputable def q9i_X1_release : q9INST := (yX1_release, cX1_release, 3, none, (4, 67, 0, 0), q9dcQ 0x20000000100000000000000000504000000000000000300020001030000030200020100010003000e0204000000020200000004, q9dcP 0x20200000102000000020000000504000000000000000300020001030000000e020400000002020000000401, [], [80, 100105, 100108, 100109, 100111], [])
noncomputable def q9e_X1_release : q9EN := (q9TBL, q9fs_X1, q9ps_X1, [80, 100105, 100108, 100109, 100111], [(200, 0, 1, q9i_X1_isWanted)], [(111, 2, 0, q9i_X11_swapIn_k108), (111, 2, 0, q9i_X11_swapIn_k111)], (4, 67, 0, 0), 3, [], [], [])
noncomputable def q9cu_X1_release : List q9CUT := []
set_option maxRecDepth 100000 in
set_option maxHeartbeats 4000000 in
theorem q9c_X1_release (l : Launch) (hst : l.stackTraces = false) : q9CON O l q9TBL q9ALLW q9i_X1_release := q9con_of (q := q9i_X1_release) (n := q9e_X1_release) (K := []) (K2 := []) (cuts := q9cu_X1_release) (f := 42) hst (by decide +kernel) (fun h => absurd rfl h) ⟨q9goodA, q9fs_X1_ok, q9ps_X1_ok, (List.forall_mem_cons.mpr ⟨⟨⟨q9c_X1_isWanted l hst, q9lk_X1_200_X1_isWanted⟩, rfl⟩, (fun _ h => absurd h List.not_mem_nil)⟩), (List.forall_mem_cons.mpr ⟨⟨⟨q9c_X11_swapIn_k108 l hst, q9lk_X1_111_X11_swapIn_k108⟩, by decide⟩, (List.forall_mem_cons.mpr ⟨⟨⟨q9c_X11_swapIn_k111 l hst, q9lk_X1_111_X11_swapIn_k111⟩, by decide⟩, (fun _ h => absurd h List.not_mem_nil)⟩)⟩), q9kas_ok, (fun _ h => absurd h List.not_mem_nil), (fun _ h => absurd h List.not_mem_nil), (fun _ h => absurd h List.not_mem_nil)⟩ rfl rfl rfl (by decide +kernel)
set_option maxRecDepth 100000 in
theorem q9wk_X1_release : GoodIn q9ALLW [.code yX1_release cX1_release 3 none, .initialized (yX1_release).cls] := q9goodW _ (List.forall_mem_cons.mpr ⟨(q9inT3 221 rfl rfl), (List.forall_mem_cons.mpr ⟨(q9inT1 11 rfl rfl), (fun _ h => absurd h List.not_mem_nil)⟩)⟩)
set_option maxRecDepth 100000 in
theorem q9wv_X1_release : ∀ w ∈ ([.instanceMethod yX1_release, .selects (yX1_release).cls yX1_release yX1_release] : List Cond), w ∈ q9ALLW := (List.forall_mem_cons.mpr ⟨(q9inT3 220 rfl rfl), (List.forall_mem_cons.mpr ⟨(q9inW 20 rfl rfl), (fun _ h => absurd h List.not_mem_nil)⟩)⟩)
set_option maxRecDepth 100000 in
theorem q9lk_X1_179_X1_release : q9LKs q9ALLW RX1 (179, 0, 1, q9i_X1_release) := ⟨q9wk_X1_release, ⟨by decide, by decide, by decide +kernel⟩, q9goodW _ (List.forall_mem_cons.mpr ⟨(q9inT3 218 rfl rfl), q9wv_X1_release⟩), _, rfl, rfl⟩
set_option maxRecDepth 100000 in
theorem q9lk_X1_182_X8_rateOf : q9LKs q9ALLW RX1 (182, 0, 8, q9i_X8_rateOf) := ⟨q9wk_X8_rateOf, ⟨by decide, by decide, by decide +kernel⟩, q9goodW _ (List.forall_mem_cons.mpr ⟨(q9inT3 230 rfl rfl), q9wv_X8_rateOf⟩), _, rfl, rfl⟩
set_option maxRecDepth 100000 in
theorem q9lk_X1_185_X8_headsOf : q9LKs q9ALLW RX1 (185, 0, 8, q9i_X8_headsOf) := ⟨q9wk_X8_headsOf, ⟨by decide, by decide, by decide +kernel⟩, q9goodW _ (List.forall_mem_cons.mpr ⟨(q9inT3 231 rfl rfl), q9wv_X8_headsOf⟩), _, rfl, rfl⟩
set_option maxRecDepth 100000 in
theorem q9wk_X1_take : GoodIn q9ALLW [.code yX1_take cX1_take 6 none, .initialized (yX1_take).cls] := q9goodW _ (List.forall_mem_cons.mpr ⟨(q9inT3 239 rfl rfl), (List.forall_mem_cons.mpr ⟨(q9inT1 11 rfl rfl), (fun _ h => absurd h List.not_mem_nil)⟩)⟩)
set_option maxRecDepth 100000 in
theorem q9wv_X1_take : ∀ w ∈ ([.instanceMethod yX1_take, .selects (yX1_take).cls yX1_take yX1_take] : List Cond), w ∈ q9ALLW := (List.forall_mem_cons.mpr ⟨(q9inT3 237 rfl rfl), (List.forall_mem_cons.mpr ⟨(q9inT3 238 rfl rfl), (fun _ h => absurd h List.not_mem_nil)⟩)⟩)
set_option maxRecDepth 100000 in
theorem q9lk_X1_197_X1_take : q9LKs q9ALLW RX1 (197, 0, 1, q9i_X1_take) := ⟨q9wk_X1_take, ⟨by decide, by decide, by decide +kernel⟩, q9goodW _ (List.forall_mem_cons.mpr ⟨(q9inT3 236 rfl rfl), q9wv_X1_take⟩), _, rfl, rfl⟩
noncomputable def q9i_X1_workOn : q9INST := (yX1_workOn, cX1_workOn, 6, none, (5, 89, 0, 0), q9dcQ 0x20000000100000000000000000504000000000000000300020001030000030200020100010003000e0204000000020200000004, q9dcP 0x20200000102000000020000000504000000000000000300020001030000000e020400000002020000000401, [], [80, 100104, 100105, 100108, 100109, 100111, 100114, 100150], [])
noncomputable def q9e_X1_workOn : q9EN := (q9TBL, q9fs_X1, q9ps_X1, [80, 100104, 100105, 100108, 100109, 100111, 100114, 100150], [(118, 0, 1, q9i_X1_takenOf), (157, 0, 1, q9i_X1_isAllShot), (179, 0, 1, q9i_X1_release), (182, 0, 8, q9i_X8_rateOf), (185, 0, 8, q9i_X8_headsOf), (197, 0, 1, q9i_X1_take)], [(114, 2, 0, q9i_X11_within)], (5, 89, 0, 0), 6, [(189, 1), (194, 2)], [], [])
set_option maxRecDepth 100000 in
theorem q9mt_X1_189 : ∀ w ∈ q9MTw RX1 (189, 1), w ∈ q9ALLW := (List.forall_mem_cons.mpr ⟨(q9inT3 232 rfl rfl), (List.forall_mem_cons.mpr ⟨(q9inT3 97 rfl rfl), (List.forall_mem_cons.mpr ⟨(q9inT1 20 rfl rfl), (List.forall_mem_cons.mpr ⟨(q9inT3 98 rfl rfl), (fun _ h => absurd h List.not_mem_nil)⟩)⟩)⟩)⟩)
set_option maxRecDepth 100000 in
theorem q9mt_X1_194 : ∀ w ∈ q9MTw RX1 (194, 2), w ∈ q9ALLW := (List.forall_mem_cons.mpr ⟨(q9inT3 233 rfl rfl), (List.forall_mem_cons.mpr ⟨(q9inT3 234 rfl rfl), (List.forall_mem_cons.mpr ⟨(q9inT1 20 rfl rfl), (List.forall_mem_cons.mpr ⟨(q9inT3 235 rfl rfl), (fun _ h => absurd h List.not_mem_nil)⟩)⟩)⟩)⟩)
noncomputable def q9cu_X1_workOn : List q9CUT := []
set_option maxRecDepth 100000 in
set_option maxHeartbeats 4000000 in
theorem q9c_X1_workOn (l : Launch) (hst : l.stackTraces = false) : q9CON O l q9TBL q9ALLW q9i_X1_workOn := q9con_of (q := q9i_X1_workOn) (n := q9e_X1_workOn) (K := []) (K2 := []) (cuts := q9cu_X1_workOn) (f := 87) hst (by decide +kernel) (fun h => absurd rfl h) ⟨q9goodA, q9fs_X1_ok, q9ps_X1_ok, (List.forall_mem_cons.mpr ⟨⟨⟨q9c_X1_takenOf l hst, q9lk_X1_118_X1_takenOf⟩, rfl⟩, (List.forall_mem_cons.mpr ⟨⟨⟨q9c_X1_isAllShot l hst, q9lk_X1_157_X1_isAllShot⟩, rfl⟩, (List.forall_mem_cons.mpr ⟨⟨⟨q9c_X1_release l hst, q9lk_X1_179_X1_release⟩, rfl⟩, (List.forall_mem_cons.mpr ⟨⟨⟨q9c_X8_rateOf l hst, q9lk_X1_182_X8_rateOf⟩, rfl⟩, (List.forall_mem_cons.mpr ⟨⟨⟨q9c_X8_headsOf l hst, q9lk_X1_185_X8_headsOf⟩, rfl⟩, (List.forall_mem_cons.mpr ⟨⟨⟨q9c_X1_take l hst, q9lk_X1_197_X1_take⟩, rfl⟩, (fun _ h => absurd h List.not_mem_nil)⟩)⟩)⟩)⟩)⟩)⟩), (List.forall_mem_cons.mpr ⟨⟨⟨q9c_X11_within l hst, q9lk_X1_114_X11_within⟩, by decide⟩, (fun _ h => absurd h List.not_mem_nil)⟩), q9kas_ok, (fun _ h => absurd h List.not_mem_nil), (fun _ h => absurd h List.not_mem_nil), (List.forall_mem_cons.mpr ⟨q9mt_X1_189, (List.forall_mem_cons.mpr ⟨q9mt_X1_194, (fun _ h => absurd h List.not_mem_nil)⟩)⟩)⟩ rfl rfl rfl (by decide +kernel)
set_option maxRecDepth 100000 in
theorem q9wk_X1_dropAllShot : GoodIn q9ALLW [.code yX1_dropAllShot cX1_dropAllShot 5 none, .initialized (yX1_dropAllShot).cls] := q9goodW _ (List.forall_mem_cons.mpr ⟨(q9inT3 155 rfl rfl), (List.forall_mem_cons.mpr ⟨(q9inT1 11 rfl rfl), (fun _ h => absurd h List.not_mem_nil)⟩)⟩)
set_option maxRecDepth 100000 in
theorem q9wv_X1_dropAllShot : ∀ w ∈ ([.instanceMethod yX1_dropAllShot, .selects (yX1_dropAllShot).cls yX1_dropAllShot yX1_dropAllShot] : List Cond), w ∈ q9ALLW := (List.forall_mem_cons.mpr ⟨(q9inT3 154 rfl rfl), (List.forall_mem_cons.mpr ⟨(q9inW 8 rfl rfl), (fun _ h => absurd h List.not_mem_nil)⟩)⟩)
set_option maxRecDepth 100000 in
theorem q9lk_X1_134_X1_dropAllShot : q9LKs q9ALLW RX1 (134, 0, 1, q9i_X1_dropAllShot) := ⟨q9wk_X1_dropAllShot, ⟨by decide, by decide, by decide +kernel⟩, q9goodW _ (List.forall_mem_cons.mpr ⟨(q9inT3 152 rfl rfl), q9wv_X1_dropAllShot⟩), _, rfl, rfl⟩
set_option maxRecDepth 100000 in
theorem q9wk_X1_beginFirst : GoodIn q9ALLW [.code yX1_beginFirst cX1_beginFirst 4 none, .initialized (yX1_beginFirst).cls] := q9goodW _ (List.forall_mem_cons.mpr ⟨(q9inT3 183 rfl rfl), (List.forall_mem_cons.mpr ⟨(q9inT1 11 rfl rfl), (fun _ h => absurd h List.not_mem_nil)⟩)⟩)
set_option maxRecDepth 100000 in
theorem q9wv_X1_beginFirst : ∀ w ∈ ([.instanceMethod yX1_beginFirst, .selects (yX1_beginFirst).cls yX1_beginFirst yX1_beginFirst] : List Cond), w ∈ q9ALLW := (List.forall_mem_cons.mpr ⟨(q9inT3 182 rfl rfl), (List.forall_mem_cons.mpr ⟨(q9inW 12 rfl rfl), (fun _ h => absurd h List.not_mem_nil)⟩)⟩)
set_option maxRecDepth 100000 in
theorem q9lk_X1_137_X1_beginFirst : q9LKs q9ALLW RX1 (137, 0, 1, q9i_X1_beginFirst) := ⟨q9wk_X1_beginFirst, ⟨by decide, by decide, by decide +kernel⟩, q9goodW _ (List.forall_mem_cons.mpr ⟨(q9inT3 180 rfl rfl), q9wv_X1_beginFirst⟩), _, rfl, rfl⟩
set_option maxRecDepth 100000 in
theorem q9wk_X1_stopDressing : GoodIn q9ALLW [.code yX1_stopDressing cX1_stopDressing 2 none, .initialized (yX1_stopDressing).cls] := q9goodW _ (List.forall_mem_cons.mpr ⟨(q9inT3 200 rfl rfl), (List.forall_mem_cons.mpr ⟨(q9inT1 11 rfl rfl), (fun _ h => absurd h List.not_mem_nil)⟩)⟩)
set_option maxRecDepth 100000 in
theorem q9wv_X1_stopDressing : ∀ w ∈ ([.instanceMethod yX1_stopDressing, .selects (yX1_stopDressing).cls yX1_stopDressing yX1_stopDressing] : List Cond), w ∈ q9ALLW := (List.forall_mem_cons.mpr ⟨(q9inT3 199 rfl rfl), (List.forall_mem_cons.mpr ⟨(q9inW 15 rfl rfl), (fun _ h => absurd h List.not_mem_nil)⟩)⟩)
set_option maxRecDepth 100000 in
theorem q9lk_X1_140_X1_stopDressing : q9LKs q9ALLW RX1 (140, 0, 1, q9i_X1_stopDressing) := ⟨q9wk_X1_stopDressing, ⟨by decide, by decide, by decide +kernel⟩, q9goodW _ (List.forall_mem_cons.mpr ⟨(q9inT3 197 rfl rfl), q9wv_X1_stopDressing⟩), _, rfl, rfl⟩
set_option maxRecDepth 100000 in
theorem q9wk_X1_startDressing : GoodIn q9ALLW [.code yX1_startDressing cX1_startDressing 3 (some .boolean), .initialized (yX1_startDressing).cls] := q9goodW _ (List.forall_mem_cons.mpr ⟨(q9inT3 204 rfl rfl), (List.forall_mem_cons.mpr ⟨(q9inT1 11 rfl rfl), (fun _ h => absurd h List.not_mem_nil)⟩)⟩)
set_option maxRecDepth 100000 in
theorem q9wv_X1_startDressing : ∀ w ∈ ([.instanceMethod yX1_startDressing, .selects (yX1_startDressing).cls yX1_startDressing yX1_startDressing] : List Cond), w ∈ q9ALLW := (List.forall_mem_cons.mpr ⟨(q9inT3 203 rfl rfl), (List.forall_mem_cons.mpr ⟨(q9inW 16 rfl rfl), (fun _ h => absurd h List.not_mem_nil)⟩)⟩)
set_option maxRecDepth 100000 in
theorem q9lk_X1_146_X1_startDressing : q9LKs q9ALLW RX1 (146, 0, 1, q9i_X1_startDressing) := ⟨q9wk_X1_startDressing, ⟨by decide, by decide, by decide +kernel⟩, q9goodW _ (List.forall_mem_cons.mpr ⟨(q9inT3 201 rfl rfl), q9wv_X1_startDressing⟩), _, rfl, rfl⟩
set_option maxRecDepth 100000 in
theorem q9wk_X1_goOnDressing : GoodIn q9ALLW [.code yX1_goOnDressing cX1_goOnDressing 5 (some .boolean), .initialized (yX1_goOnDressing).cls] := q9goodW _ (List.forall_mem_cons.mpr ⟨(q9inT3 212 rfl rfl), (List.forall_mem_cons.mpr ⟨(q9inT1 11 rfl rfl), (fun _ h => absurd h List.not_mem_nil)⟩)⟩)
set_option maxRecDepth 100000 in
theorem q9wv_X1_goOnDressing : ∀ w ∈ ([.instanceMethod yX1_goOnDressing, .selects (yX1_goOnDressing).cls yX1_goOnDressing yX1_goOnDressing] : List Cond), w ∈ q9ALLW := (List.forall_mem_cons.mpr ⟨(q9inT3 211 rfl rfl), (List.forall_mem_cons.mpr ⟨(q9inW 18 rfl rfl), (fun _ h => absurd h List.not_mem_nil)⟩)⟩)
set_option maxRecDepth 100000 in
theorem q9lk_X1_150_X1_goOnDressing : q9LKs q9ALLW RX1 (150, 0, 1, q9i_X1_goOnDressing) := ⟨q9wk_X1_goOnDressing, ⟨by decide, by decide, by decide +kernel⟩, q9goodW _ (List.forall_mem_cons.mpr ⟨(q9inT3 209 rfl rfl), q9wv_X1_goOnDressing⟩), _, rfl, rfl⟩
set_option maxRecDepth 100000 in
theorem q9wk_X1_workOn : GoodIn q9ALLW [.code yX1_workOn cX1_workOn 6 none, .initialized (yX1_workOn).cls] := q9goodW _ (List.forall_mem_cons.mpr ⟨(q9inT3 217 rfl rfl), (List.forall_mem_cons.mpr ⟨(q9inT1 11 rfl rfl), (fun _ h => absurd h List.not_mem_nil)⟩)⟩)
set_option maxRecDepth 100000 in
theorem q9wv_X1_workOn : ∀ w ∈ ([.instanceMethod yX1_workOn, .selects (yX1_workOn).cls yX1_workOn yX1_workOn] : List Cond), w ∈ q9ALLW := (List.forall_mem_cons.mpr ⟨(q9inT3 216 rfl rfl), (List.forall_mem_cons.mpr ⟨(q9inW 19 rfl rfl), (fun _ h => absurd h List.not_mem_nil)⟩)⟩)
set_option maxRecDepth 100000 in
theorem q9lk_X1_153_X1_workOn : q9LKs q9ALLW RX1 (153, 0, 1, q9i_X1_workOn) := ⟨q9wk_X1_workOn, ⟨by decide, by decide, by decide +kernel⟩, q9goodW _ (List.forall_mem_cons.mpr ⟨(q9inT3 214 rfl rfl), q9wv_X1_workOn⟩), _, rfl, rfl⟩
noncomputable def q9i_X1_attend : q9INST := (yX1_attend, cX1_attend, 3, none, (6, 114, 0, 0), q9dcQ 0x1000000000000000005030000000000000002000102000002010001000204000000020200000003, q9dcP 0x102000000020000000503000000000000000200010200000400000002020000000301, [], [80, 100104, 100105, 100106, 100107, 100108, 100109, 100110, 100111, 100114, 100150], [])
noncomputable def q9e_X1_attend : q9EN := (q9TBL, q9fs_X1, q9ps_X1, [80, 100104, 100105, 100106, 100107, 100108, 100109, 100110, 100111, 100114, 100150], [(93, 0, 8, q9i_X8_shotAt), (134, 0, 1, q9i_X1_dropAllShot), (137, 0, 1, q9i_X1_beginFirst), (140, 0, 1, q9i_X1_stopDressing), (143, 0, 1, q9i_X1_standsIn), (146, 0, 1, q9i_X1_startDressing), (150, 0, 1, q9i_X1_goOnDressing), (153, 0, 1, q9i_X1_workOn)], [], (6, 114, 0, 0), 3, [], [], [])
noncomputable def q9cu_X1_attend : List q9CUT := []
set_option maxRecDepth 100000 in
set_option maxHeartbeats 4000000 in
theorem q9c_X1_attend (l : Launch) (hst : l.stackTraces = false) : q9CON O l q9TBL q9ALLW q9i_X1_attend := q9con_of (q := q9i_X1_attend) (n := q9e_X1_attend) (K := []) (K2 := []) (cuts := q9cu_X1_attend) (f := 305) hst (by decide +kernel) (fun h => absurd rfl h) ⟨q9goodA, q9fs_X1_ok, q9ps_X1_ok, (List.forall_mem_cons.mpr ⟨⟨⟨q9c_X8_shotAt l hst, q9lk_X1_93_X8_shotAt⟩, rfl⟩, (List.forall_mem_cons.mpr ⟨⟨⟨q9c_X1_dropAllShot l hst, q9lk_X1_134_X1_dropAllShot⟩, rfl⟩, (List.forall_mem_cons.mpr ⟨⟨⟨q9c_X1_beginFirst l hst, q9lk_X1_137_X1_beginFirst⟩, rfl⟩, (List.forall_mem_cons.mpr ⟨⟨⟨q9c_X1_stopDressing l hst, q9lk_X1_140_X1_stopDressing⟩, rfl⟩, (List.forall_mem_cons.mpr ⟨⟨⟨q9c_X1_standsIn l hst, q9lk_X1_143_X1_standsIn⟩, rfl⟩, (List.forall_mem_cons.mpr ⟨⟨⟨q9c_X1_startDressing l hst, q9lk_X1_146_X1_startDressing⟩, rfl⟩, (List.forall_mem_cons.mpr ⟨⟨⟨q9c_X1_goOnDressing l hst, q9lk_X1_150_X1_goOnDressing⟩, rfl⟩, (List.forall_mem_cons.mpr ⟨⟨⟨q9c_X1_workOn l hst, q9lk_X1_153_X1_workOn⟩, rfl⟩, (fun _ h => absurd h List.not_mem_nil)⟩)⟩)⟩)⟩)⟩)⟩)⟩)⟩), (fun _ h => absurd h List.not_mem_nil), q9kas_ok, (fun _ h => absurd h List.not_mem_nil), (fun _ h => absurd h List.not_mem_nil), (fun _ h => absurd h List.not_mem_nil)⟩ rfl rfl rfl (by decide +kernel)
set_option maxRecDepth 100000 in
theorem q9wk_X1_attend : GoodIn q9ALLW [.code yX1_attend cX1_attend 3 none, .initialized (yX1_attend).cls] := q9goodW _ (List.forall_mem_cons.mpr ⟨(q9inT3 151 rfl rfl), (List.forall_mem_cons.mpr ⟨(q9inT1 11 rfl rfl), (fun _ h => absurd h List.not_mem_nil)⟩)⟩)
set_option maxRecDepth 100000 in
theorem q9wv_X1_attend : ∀ w ∈ ([.instanceMethod yX1_attend, .selects (yX1_attend).cls yX1_attend yX1_attend] : List Cond), w ∈ q9ALLW := (List.forall_mem_cons.mpr ⟨(q9inT3 150 rfl rfl), (List.forall_mem_cons.mpr ⟨(q9inW 7 rfl rfl), (fun _ h => absurd h List.not_mem_nil)⟩)⟩)
set_option maxRecDepth 100000 in
theorem q9lk_X1_130_X1_attend : q9LKs q9ALLW RX1 (130, 0, 1, q9i_X1_attend) := ⟨q9wk_X1_attend, ⟨by decide, by decide, by decide +kernel⟩, q9goodW _ (List.forall_mem_cons.mpr ⟨(q9inT3 148 rfl rfl), q9wv_X1_attend⟩), _, rfl, rfl⟩
noncomputable def q9i_X1_pass : q9INST := (yX1_pass, cX1_pass, 2, none, (7, 136, 0, 0), q9dcQ 0x502000000000000000101000001000100020200000002, q9dcP 0x2000000050200000000000000010100000002020000000201, [], [66, 79, 80, 81, 100104, 100105, 100106, 100107, 100108, 100109, 100110, 100111, 100114, 100150], [])
noncomputable def q9e_X1_pass : q9EN := (q9TBL, q9fs_X1, q9ps_X1, [66, 79, 80, 81, 100104, 100105, 100106, 100107, 100108, 100109, 100110, 100111, 100114, 100150], [(104, 0, 1, q9i_X1_turnWeek), (130, 0, 1, q9i_X1_attend)], [], (7, 136, 0, 0), 2, [], [], [])
noncomputable def q9cu_X1_pass : List q9CUT := q9dcKs 0xc9aaa00000602020c9aaa000003000001000000000000000005030000000000000001010000020100010002060000000202000000030b01
set_option maxRecDepth 100000 in
set_option maxHeartbeats 4000000 in
theorem q9c_X1_pass (l : Launch) (hst : l.stackTraces = false) : q9CON O l q9TBL q9ALLW q9i_X1_pass := q9con_of (q := q9i_X1_pass) (n := q9e_X1_pass) (K := []) (K2 := []) (cuts := q9cu_X1_pass) (f := 40) hst (by decide +kernel) (fun h => absurd rfl h) ⟨q9goodA, q9fs_X1_ok, q9ps_X1_ok, (List.forall_mem_cons.mpr ⟨⟨⟨q9c_X1_turnWeek l hst, q9lk_X1_104_X1_turnWeek⟩, rfl⟩, (List.forall_mem_cons.mpr ⟨⟨⟨q9c_X1_attend l hst, q9lk_X1_130_X1_attend⟩, rfl⟩, (fun _ h => absurd h List.not_mem_nil)⟩)⟩), (fun _ h => absurd h List.not_mem_nil), q9kas_ok, (fun _ h => absurd h List.not_mem_nil), (fun _ h => absurd h List.not_mem_nil), (fun _ h => absurd h List.not_mem_nil)⟩ rfl rfl rfl (by decide +kernel)
set_option maxRecDepth 100000 in
theorem q9mt_X1_63 : ∀ w ∈ q9MTw RX1 (63, 0), w ∈ q9ALLW := (List.forall_mem_cons.mpr ⟨(q9inT3 133 rfl rfl), (List.forall_mem_cons.mpr ⟨(q9inT3 135 rfl rfl), (List.forall_mem_cons.mpr ⟨(q9inT3 134 rfl rfl), (List.forall_mem_cons.mpr ⟨(q9inT1 21 rfl rfl), (fun _ h => absurd h List.not_mem_nil)⟩)⟩)⟩)⟩)
set_option maxRecDepth 100000 in
theorem q9lk_X1_78_X11_entry_k255 : q9LKs q9ALLW RX1 (78, 2, 0, q9i_X11_entry_k255) := ⟨q9wk_X11_entry, ⟨by decide, by decide, by decide +kernel⟩, List.mem_of_getElem? (i := 7) rfl, q9goodW _ q9wv_X11_entry⟩
noncomputable def q9i_X1_T_takenOf : q9INST := (yX1_takenOf, cX1_takenOf, 2, (some .int), (2, 23, 0, 0), q9dcQ 0x100000000000000000503000000000000000200010200000201000100020ffffffffe0fffffffff0000520200000003, q9dcP 0x1000001020000000200000005040000000000000002000102000301000ffffffffe0fffffffff000ffffffffe0fffffffff000052020000000401, [], [], [])
noncomputable def q9e_X1_T_takenOf : q9EN := (q9TBL, q9fs_X1, q9ps_X1, [], [], [(78, 2, 0, q9i_X11_entry_k255)], (2, 23, 0, 0), 2, [], [], [])
noncomputable def q9cu_X1_T_takenOf : List q9CUT := []
set_option maxRecDepth 100000 in
set_option maxHeartbeats 4000000 in
theorem q9c_X1_T_takenOf (l : Launch) (hst : l.stackTraces = false) : q9CON O l q9TBL q9ALLW q9i_X1_T_takenOf := q9con_of (q := q9i_X1_T_takenOf) (n := q9e_X1_T_takenOf) (K := []) (K2 := []) (cuts := q9cu_X1_T_takenOf) (f := 11) hst (by decide +kernel) (fun h => absurd rfl h) ⟨q9goodA, q9fs_X1_ok, q9ps_X1_ok, (fun _ h => absurd h List.not_mem_nil), (List.forall_mem_cons.mpr ⟨⟨⟨q9c_X11_entry_k255 l hst, q9lk_X1_78_X11_entry_k255⟩, by decide⟩, (fun _ h => absurd h List.not_mem_nil)⟩), q9kas_ok, (fun _ h => absurd h List.not_mem_nil), (fun _ h => absurd h List.not_mem_nil), (fun _ h => absurd h List.not_mem_nil)⟩ rfl rfl rfl (by decide +kernel)
set_option maxRecDepth 100000 in
theorem q9lk_X1_78_X11_entry_k257 : q9LKs q9ALLW RX1 (78, 2, 0, q9i_X11_entry_k257) := ⟨q9wk_X11_entry, ⟨by decide, by decide, by decide +kernel⟩, List.mem_of_getElem? (i := 7) rfl, q9goodW _ q9wv_X11_entry⟩
noncomputable def q9i_X1_T_queuedShot : q9INST := (yX1_queuedShot, cX1_queuedShot, 3, (some .int), (2, 23, 0, 0), q9dcQ 0x200000001000000000000000005040000000000000003000200010300000302000201000100030ffffffffe0fffffffff000ffffffffe0fffffffff0000520200000004, q9dcP 0x1000002020000010200000002000000050500000000000000030002000103000401000ffffffffe0fffffffff000ffffffffe0fffffffff000ffffffffe0fffffffff000052020000000501, [], [], [])
noncomputable def q9e_X1_T_queuedShot : q9EN := (q9TBL, q9fs_X1, q9ps_X1, [], [], [(78, 2, 0, q9i_X11_entry_k257), (114, 2, 0, q9i_X11_within)], (2, 23, 0, 0), 3, [], [], [])
noncomputable def q9cu_X1_T_queuedShot : List q9CUT := []
set_option maxRecDepth 100000 in
set_option maxHeartbeats 4000000 in
theorem q9c_X1_T_queuedShot (l : Launch) (hst : l.stackTraces = false) : q9CON O l q9TBL q9ALLW q9i_X1_T_queuedShot := q9con_of (q := q9i_X1_T_queuedShot) (n := q9e_X1_T_queuedShot) (K := []) (K2 := []) (cuts := q9cu_X1_T_queuedShot) (f := 24) hst (by decide +kernel) (fun h => absurd rfl h) ⟨q9goodA, q9fs_X1_ok, q9ps_X1_ok, (fun _ h => absurd h List.not_mem_nil), (List.forall_mem_cons.mpr ⟨⟨⟨q9c_X11_entry_k257 l hst, q9lk_X1_78_X11_entry_k257⟩, by decide⟩, (List.forall_mem_cons.mpr ⟨⟨⟨q9c_X11_within l hst, q9lk_X1_114_X11_within⟩, by decide⟩, (fun _ h => absurd h List.not_mem_nil)⟩)⟩), q9kas_ok, (fun _ h => absurd h List.not_mem_nil), (fun _ h => absurd h List.not_mem_nil), (fun _ h => absurd h List.not_mem_nil)⟩ rfl rfl rfl (by decide +kernel)
set_option maxRecDepth 100000 in
theorem q9lk_X1_86_X1_T_queuedShot : q9LKs q9ALLW RX1 (86, 0, 1, q9i_X1_T_queuedShot) := ⟨q9wk_X1_queuedShot, ⟨by decide, by decide, by decide +kernel⟩, q9goodW _ (List.forall_mem_cons.mpr ⟨(q9inT3 156 rfl rfl), q9wv_X1_queuedShot⟩), _, rfl, rfl⟩
set_option maxRecDepth 100000 in
theorem q9lk_X1_78_X11_entry_k262 : q9LKs q9ALLW RX1 (78, 2, 0, q9i_X11_entry_k262) := ⟨q9wk_X11_entry, ⟨by decide, by decide, by decide +kernel⟩, List.mem_of_getElem? (i := 7) rfl, q9goodW _ q9wv_X11_entry⟩
noncomputable def q9i_X1_T_standsIn : q9INST := (yX1_standsIn, cX1_standsIn, 2, (some .int), (2, 23, 0, 0), q9dcQ 0x100000000000000000503000000000000000200010200000201000100020ffffffffe0fffffffff0000520200000003, q9dcP 0x1000001020000000200000005040000000000000002000102000301000ffffffffe0fffffffff000ffffffffe0fffffffff000052020000000401, [], [], [])
noncomputable def q9e_X1_T_standsIn : q9EN := (q9TBL, q9fs_X1, q9ps_X1, [], [], [(78, 2, 0, q9i_X11_entry_k262)], (2, 23, 0, 0), 2, [], [], [])
noncomputable def q9cu_X1_T_standsIn : List q9CUT := []
set_option maxRecDepth 100000 in
set_option maxHeartbeats 4000000 in
theorem q9c_X1_T_standsIn (l : Launch) (hst : l.stackTraces = false) : q9CON O l q9TBL q9ALLW q9i_X1_T_standsIn := q9con_of (q := q9i_X1_T_standsIn) (n := q9e_X1_T_standsIn) (K := []) (K2 := []) (cuts := q9cu_X1_T_standsIn) (f := 11) hst (by decide +kernel) (fun h => absurd rfl h) ⟨q9goodA, q9fs_X1_ok, q9ps_X1_ok, (fun _ h => absurd h List.not_mem_nil), (List.forall_mem_cons.mpr ⟨⟨⟨q9c_X11_entry_k262 l hst, q9lk_X1_78_X11_entry_k262⟩, by decide⟩, (fun _ h => absurd h List.not_mem_nil)⟩), q9kas_ok, (fun _ h => absurd h List.not_mem_nil), (fun _ h => absurd h List.not_mem_nil), (fun _ h => absurd h List.not_mem_nil)⟩ rfl rfl rfl (by decide +kernel)
set_option maxRecDepth 100000 in
theorem q9lk_X1_78_X11_entry_k259 : q9LKs q9ALLW RX1 (78, 2, 0, q9i_X11_entry_k259) := ⟨q9wk_X11_entry, ⟨by decide, by decide, by decide +kernel⟩, List.mem_of_getElem? (i := 7) rfl, q9goodW _ q9wv_X11_entry⟩
noncomputable def q9i_X1_T_isEngaged : q9INST := (yX1_isEngaged, cX1_isEngaged, 2, (some .boolean), (2, 23, 0, 0), q9dcQ 0x100000000000000000503000000000000000200010200000201000100020ffffffffe0fffffffff0000520200000003, q9dcP 0x1020000000200000005030000000000000002000102020001000ffffffffe0fffffffff0000520200000003000001020000000200000005030000000000000002000102000001000ffffffffe0fffffffff000052020000000302, [], [], [])
noncomputable def q9e_X1_T_isEngaged : q9EN := (q9TBL, q9fs_X1, q9ps_X1, [], [], [(78, 2, 0, q9i_X11_entry_k259)], (2, 23, 0, 0), 2, [], [], [])
noncomputable def q9cu_X1_T_isEngaged : List q9CUT := []
set_option maxRecDepth 100000 in
set_option maxHeartbeats 4000000 in
theorem q9c_X1_T_isEngaged (l : Launch) (hst : l.stackTraces = false) : q9CON O l q9TBL q9ALLW q9i_X1_T_isEngaged := q9con_of (q := q9i_X1_T_isEngaged) (n := q9e_X1_T_isEngaged) (K := []) (K2 := []) (cuts := q9cu_X1_T_isEngaged) (f := 16) hst (by decide +kernel) (fun h => absurd rfl h) ⟨q9goodA, q9fs_X1_ok, q9ps_X1_ok, (fun _ h => absurd h List.not_mem_nil), (List.forall_mem_cons.mpr ⟨⟨⟨q9c_X11_entry_k259 l hst, q9lk_X1_78_X11_entry_k259⟩, by decide⟩, (fun _ h => absurd h List.not_mem_nil)⟩), q9kas_ok, (fun _ h => absurd h List.not_mem_nil), (fun _ h => absurd h List.not_mem_nil), (fun _ h => absurd h List.not_mem_nil)⟩ rfl rfl rfl (by decide +kernel)
set_option maxRecDepth 100000 in
theorem q9lk_X1_111_X11_swapIn_k257 : q9LKs q9ALLW RX1 (111, 2, 0, q9i_X11_swapIn_k257) := ⟨q9wk_X11_swapIn, ⟨by decide, by decide, by decide +kernel⟩, List.mem_of_getElem? (i := 8) rfl, q9goodW _ q9wv_X11_swapIn⟩
noncomputable def q9i_X1_T_putQueued : q9INST := (yX1_putQueued, cX1_putQueued, 4, none, (2, 24, 0, 0), q9dcQ 0x300000002000000010000000000000000050500000000000000040003000200010400000403000302000201000100040ffffffffe0fffffffff000ffffffffe0fffffffff000ffffffffe0fffffffff0000520200000005, q9dcP 0x302000002020000010200000002000000050500000000000000040003000200010400000ffffffffe0fffffffff000ffffffffe0fffffffff000ffffffffe0fffffffff000052020000000501, [], [100257], [])
noncomputable def q9e_X1_T_putQueued : q9EN := (q9TBL, q9fs_X1, q9ps_X1, [100257], [], [(111, 2, 0, q9i_X11_swapIn_k257), (114, 2, 0, q9i_X11_within)], (2, 24, 0, 0), 4, [], [], [])
noncomputable def q9cu_X1_T_putQueued : List q9CUT := []
set_option maxRecDepth 100000 in
set_option maxHeartbeats 4000000 in
theorem q9c_X1_T_putQueued (l : Launch) (hst : l.stackTraces = false) : q9CON O l q9TBL q9ALLW q9i_X1_T_putQueued := q9con_of (q := q9i_X1_T_putQueued) (n := q9e_X1_T_putQueued) (K := []) (K2 := []) (cuts := q9cu_X1_T_putQueued) (f := 23) hst (by decide +kernel) (fun h => absurd rfl h) ⟨q9goodA, q9fs_X1_ok, q9ps_X1_ok, (fun _ h => absurd h List.not_mem_nil), (List.forall_mem_cons.mpr ⟨⟨⟨q9c_X11_swapIn_k257 l hst, q9lk_X1_111_X11_swapIn_k257⟩, by decide⟩, (List.forall_mem_cons.mpr ⟨⟨⟨q9c_X11_within l hst, q9lk_X1_114_X11_within⟩, by decide⟩, (fun _ h => absurd h List.not_mem_nil)⟩)⟩), q9kas_ok, (fun _ h => absurd h List.not_mem_nil), (fun _ h => absurd h List.not_mem_nil), (fun _ h => absurd h List.not_mem_nil)⟩ rfl rfl rfl (by decide +kernel)
set_option maxRecDepth 100000 in
theorem q9lk_X1_107_X1_T_putQueued : q9LKs q9ALLW RX1 (107, 0, 1, q9i_X1_T_putQueued) := ⟨q9wk_X1_putQueued, ⟨by decide, by decide, by decide +kernel⟩, q9goodW _ (List.forall_mem_cons.mpr ⟨(q9inT3 176 rfl rfl), q9wv_X1_putQueued⟩), _, rfl, rfl⟩
set_option maxRecDepth 100000 in
theorem q9lk_X1_111_X11_swapIn_k259 : q9LKs q9ALLW RX1 (111, 2, 0, q9i_X11_swapIn_k259) := ⟨q9wk_X11_swapIn, ⟨by decide, by decide, by decide +kernel⟩, List.mem_of_getElem? (i := 8) rfl, q9goodW _ q9wv_X11_swapIn⟩
