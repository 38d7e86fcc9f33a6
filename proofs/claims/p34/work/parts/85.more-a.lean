variable {O : ORC}
set_option maxRecDepth 100000 in
theorem q9mt_X10_21 : ∀ w ∈ q9MTw RX10 (21, 1), w ∈ q9ALLW := (List.forall_mem_cons.mpr ⟨(q9inT4 176 rfl rfl), (List.forall_mem_cons.mpr ⟨(q9inT3 97 rfl rfl), (List.forall_mem_cons.mpr ⟨(q9inT1 20 rfl rfl), (List.forall_mem_cons.mpr ⟨(q9inT3 98 rfl rfl), (fun _ h => absurd h List.not_mem_nil)⟩)⟩)⟩)⟩)
set_option maxRecDepth 100000 in
theorem q9mt_X10_28 : ∀ w ∈ q9MTw RX10 (28, 0), w ∈ q9ALLW := (List.forall_mem_cons.mpr ⟨(q9inT4 177 rfl rfl), (List.forall_mem_cons.mpr ⟨(q9inT3 135 rfl rfl), (List.forall_mem_cons.mpr ⟨(q9inT3 134 rfl rfl), (List.forall_mem_cons.mpr ⟨(q9inT1 21 rfl rfl), (fun _ h => absurd h List.not_mem_nil)⟩)⟩)⟩)⟩)
noncomputable def q9i_X9_withBit : q9INST := (yX9_withBit, cX9_withBit, 3, (some .int), (1, 1, 0, 0), q9dcQ 0x200000001000000000000000005040000000000000003000200010300000302000201000100030200000ffffffffe0fffffffff000ffffffffe0fffffffff0000000004, q9dcP 0x1000002020000010200000002000000050500000000000000030002000103000401000ffffffffe0fffffffff000200000ffffffffe0fffffffff000ffffffffe0fffffffff000000000501, [], [], [])
noncomputable def q9e_X9_withBit : q9EN := (q9TBL, q9fs_X9, q9ps_X9, [], [], [], (1, 1, 0, 0), 3, [], [], [])
noncomputable def q9cu_X9_withBit : List q9CUT := []
set_option maxRecDepth 100000 in
set_option maxHeartbeats 4000000 in
theorem q9c_X9_withBit (l : Launch) (hst : l.stackTraces = false) : q9CON O l q9TBL q9ALLW q9i_X9_withBit := q9con_of (q := q9i_X9_withBit) (n := q9e_X9_withBit) (K := []) (K2 := []) (cuts := q9cu_X9_withBit) (f := 22) hst (by decide +kernel) (fun h => absurd rfl h) ⟨q9goodA, q9fs_X9_ok, q9ps_X9_ok, (fun _ h => absurd h List.not_mem_nil), (fun _ h => absurd h List.not_mem_nil), q9kas_ok, (fun _ h => absurd h List.not_mem_nil), (fun _ h => absurd h List.not_mem_nil), (fun _ h => absurd h List.not_mem_nil)⟩ rfl rfl rfl (by decide +kernel)
set_option maxRecDepth 100000 in
theorem q9wk_J9_floorDiv_f86c9 : GoodIn q9ALLW [.code yJ9_floorDiv_f86c9 cJ9_floorDiv_f86c9 6 (some .long), .initialized (yJ9_floorDiv_f86c9).cls] := q9goodW _ (List.forall_mem_cons.mpr ⟨(q9inT6 4 rfl rfl), (List.forall_mem_cons.mpr ⟨(q9inT1 20 rfl rfl), (fun _ h => absurd h List.not_mem_nil)⟩)⟩)
set_option maxRecDepth 100000 in
theorem q9wv_J9_floorDiv_f86c9 : ∀ w ∈ ([.static yJ9_floorDiv_f86c9] : List Cond), w ∈ q9ALLW := (List.forall_mem_cons.mpr ⟨(q9inT6 3 rfl rfl), (fun _ h => absurd h List.not_mem_nil)⟩)
set_option maxRecDepth 100000 in
theorem q9lk_X9_232_J9_floorDiv_f86c9 : q9LKs q9ALLW RX9 (232, 1, 0, q9i_J9_floorDiv_f86c9) := ⟨q9wk_J9_floorDiv_f86c9, ⟨by decide, by decide, by decide +kernel⟩, q9goodW _ (List.forall_mem_cons.mpr ⟨(q9inT6 2 rfl rfl), q9wv_J9_floorDiv_f86c9⟩)⟩
noncomputable def q9i_X9_eased : q9INST := (yX9_eased, cX9_eased, 9, (some .int), (2, 26, 0, 0), q9dcQ 0x400000003000000020000000100000000000000000506000000000000000500040003000200010500000504000403000302000201000100050ffffffffe0fffffffff000ffffffffe0fffffffff000ffffffffe0fffffffff000ffffffffe0fffffffff000ffffffffe0fffffffff0000000006, q9dcP 0x1000004020000030200000202000001020000000200000005070000000000000005000400030002000105000601000ffffffffe0fffffffff000ffffffffe0fffffffff000ffffffffe0fffffffff000ffffffffe0fffffffff000ffffffffe0fffffffff000ffffffffe0fffffffff000000000701, [], [], [])
noncomputable def q9e_X9_eased : q9EN := (q9TBL, q9fs_X9, q9ps_X9, [], [], [(232, 1, 0, q9i_J9_floorDiv_f86c9)], (2, 26, 0, 0), 9, [], [], [])
noncomputable def q9cu_X9_eased : List q9CUT := []
set_option maxRecDepth 100000 in
set_option maxHeartbeats 4000000 in
theorem q9c_X9_eased (l : Launch) (hst : l.stackTraces = false) : q9CON O l q9TBL q9ALLW q9i_X9_eased := q9con_of (q := q9i_X9_eased) (n := q9e_X9_eased) (K := []) (K2 := [(230, 2)]) (cuts := q9cu_X9_eased) (f := 170) hst (by decide +kernel) (fun h => absurd rfl h) ⟨q9goodA, q9fs_X9_ok, q9ps_X9_ok, (fun _ h => absurd h List.not_mem_nil), (List.forall_mem_cons.mpr ⟨⟨⟨q9c_J9_floorDiv_f86c9 l hst, q9lk_X9_232_J9_floorDiv_f86c9⟩, by decide⟩, (fun _ h => absurd h List.not_mem_nil)⟩), q9kas_ok, (fun _ h => absurd h List.not_mem_nil), (List.forall_mem_cons.mpr ⟨⟨2, rfl, (q9inT6 1 rfl rfl)⟩, (fun _ h => absurd h List.not_mem_nil)⟩), (fun _ h => absurd h List.not_mem_nil)⟩ rfl rfl rfl (by decide +kernel)
noncomputable def q9i_X9_isFirstAim : q9INST := (yX9_isFirstAim, cX9_isFirstAim, 3, (some .boolean), (1, 1, 0, 0), q9dcQ 0x100000000000000000503000000000000000200010200000201000100020ffffffffe0fffffffff0000120200000003, q9dcP 0x1020000000200000005030000000000000002000102020001000ffffffffe0fffffffff00001202000000030000010200000002000000050300000000000000020001020000010001c602000012020000000302, [], [], [])
noncomputable def q9e_X9_isFirstAim : q9EN := (q9TBL, q9fs_X9, q9ps_X9, [], [], [], (1, 1, 0, 0), 3, [], [], [])
noncomputable def q9cu_X9_isFirstAim : List q9CUT := q9dcKs 0xc9abc000001c603020c9abc00000300000200000001000000000000000005040000000000000002000102000003020002010001000301c600000ffffffffe0fffffffff00001202000000040201
set_option maxRecDepth 100000 in
set_option maxHeartbeats 4000000 in
theorem q9c_X9_isFirstAim (l : Launch) (hst : l.stackTraces = false) : q9CON O l q9TBL q9ALLW q9i_X9_isFirstAim := q9con_of (q := q9i_X9_isFirstAim) (n := q9e_X9_isFirstAim) (K := []) (K2 := []) (cuts := q9cu_X9_isFirstAim) (f := 45) hst (by decide +kernel) (fun h => absurd rfl h) ⟨q9goodA, q9fs_X9_ok, q9ps_X9_ok, (fun _ h => absurd h List.not_mem_nil), (fun _ h => absurd h List.not_mem_nil), q9kas_ok, (fun _ h => absurd h List.not_mem_nil), (fun _ h => absurd h List.not_mem_nil), (fun _ h => absurd h List.not_mem_nil)⟩ rfl rfl rfl (by decide +kernel)
set_option maxRecDepth 100000 in
theorem q9lk_X9_207_X11_within : q9LKs q9ALLW RX9 (207, 2, 0, q9i_X11_within) := ⟨q9wk_X11_within, ⟨by decide, by decide, by decide +kernel⟩, List.mem_of_getElem? (i := 14) rfl, q9goodW _ q9wv_X11_within⟩
noncomputable def q9i_X9_startMotor : q9INST := (yX9_startMotor, cX9_startMotor, 3, none, (2, 23, 0, 0), q9dcQ 0x1000000000000000005030000000000000002000102000002010001000200040200120200000003, q9dcP 0x102000000020000000503000000000000000200010200000004020012020000000301, [], [100160, 100161, 100162, 100163, 100164], [])
noncomputable def q9e_X9_startMotor : q9EN := (q9TBL, q9fs_X9, q9ps_X9, [100160, 100161, 100162, 100163, 100164], [], [(207, 2, 0, q9i_X11_within)], (2, 23, 0, 0), 3, [], [], [])
noncomputable def q9cu_X9_startMotor : List q9CUT := []
set_option maxRecDepth 100000 in
set_option maxHeartbeats 4000000 in
theorem q9c_X9_startMotor (l : Launch) (hst : l.stackTraces = false) : q9CON O l q9TBL q9ALLW q9i_X9_startMotor := q9con_of (q := q9i_X9_startMotor) (n := q9e_X9_startMotor) (K := []) (K2 := []) (cuts := q9cu_X9_startMotor) (f := 48) hst (by decide +kernel) (fun h => absurd rfl h) ⟨q9goodA, q9fs_X9_ok, q9ps_X9_ok, (fun _ h => absurd h List.not_mem_nil), (List.forall_mem_cons.mpr ⟨⟨⟨q9c_X11_within l hst, q9lk_X9_207_X11_within⟩, by decide⟩, (fun _ h => absurd h List.not_mem_nil)⟩), q9kas_ok, (fun _ h => absurd h List.not_mem_nil), (fun _ h => absurd h List.not_mem_nil), (fun _ h => absurd h List.not_mem_nil)⟩ rfl rfl rfl (by decide +kernel)
set_option maxRecDepth 100000 in
theorem q9lk_X9_199_X10_byteAt : q9LKs q9ALLW RX9 (199, 0, 10, q9i_X10_byteAt) := ⟨q9wk_X10_byteAt, ⟨by decide, by decide, by decide +kernel⟩, q9goodW _ (List.forall_mem_cons.mpr ⟨(q9inT6 19 rfl rfl), q9wv_X10_byteAt⟩), _, rfl, rfl⟩
set_option maxRecDepth 100000 in
theorem q9wk_X7_putLetter : GoodIn q9ALLW [.code yX7_putLetter cX7_putLetter 6 none, .initialized (yX7_putLetter).cls] := q9goodW _ (List.forall_mem_cons.mpr ⟨(q9inT6 23 rfl rfl), (List.forall_mem_cons.mpr ⟨(q9inT1 26 rfl rfl), (fun _ h => absurd h List.not_mem_nil)⟩)⟩)
set_option maxRecDepth 100000 in
theorem q9wv_X7_putLetter : ∀ w ∈ ([.instanceMethod yX7_putLetter, .selects (yX7_putLetter).cls yX7_putLetter yX7_putLetter] : List Cond), w ∈ q9ALLW := (List.forall_mem_cons.mpr ⟨(q9inT6 21 rfl rfl), (List.forall_mem_cons.mpr ⟨(q9inT6 22 rfl rfl), (fun _ h => absurd h List.not_mem_nil)⟩)⟩)
set_option maxRecDepth 100000 in
theorem q9lk_X9_204_X7_putLetter : q9LKs q9ALLW RX9 (204, 0, 7, q9i_X7_putLetter) := ⟨q9wk_X7_putLetter, ⟨by decide, by decide, by decide +kernel⟩, q9goodW _ (List.forall_mem_cons.mpr ⟨(q9inT6 20 rfl rfl), q9wv_X7_putLetter⟩), _, rfl, rfl⟩
noncomputable def q9i_X9_tellSay : q9INST := (yX9_tellSay, cX9_tellSay, 5, none, (3, 48, 0, 0), q9dcQ 0x101030000010000000000000000050400000000000003010101000300020001030000020100010002000e0200040200120200000004, q9dcP 0x20200000102000000020000000504000000000000000300020001030000000e020004020012020000000401, [], [100146], [])
noncomputable def q9e_X9_tellSay : q9EN := (q9TBL, q9fs_X9, q9ps_X9, [100146], [(199, 0, 10, q9i_X10_byteAt), (204, 0, 7, q9i_X7_putLetter)], [], (3, 48, 0, 0), 5, [], [], [])
noncomputable def q9cu_X9_tellSay : List q9CUT := q9dcKs 0xc9abc00000ffffffffe03020c9abc00000300000202000002000000010000000000000000050500000000000004010101000400020001030000030200020100010003000e020ffffffffe0000000402001202000000050201
set_option maxRecDepth 100000 in
set_option maxHeartbeats 4000000 in
theorem q9c_X9_tellSay (l : Launch) (hst : l.stackTraces = false) : q9CON O l q9TBL q9ALLW q9i_X9_tellSay := q9con_of (q := q9i_X9_tellSay) (n := q9e_X9_tellSay) (K := []) (K2 := []) (cuts := q9cu_X9_tellSay) (f := 50) hst (by decide +kernel) (fun h => absurd rfl h) ⟨q9goodA, q9fs_X9_ok, q9ps_X9_ok, (List.forall_mem_cons.mpr ⟨⟨⟨q9c_X10_byteAt l hst, q9lk_X9_199_X10_byteAt⟩, rfl⟩, (List.forall_mem_cons.mpr ⟨⟨⟨q9c_X7_putLetter l hst, q9lk_X9_204_X7_putLetter⟩, rfl⟩, (fun _ h => absurd h List.not_mem_nil)⟩)⟩), (fun _ h => absurd h List.not_mem_nil), q9kas_ok, (fun _ h => absurd h List.not_mem_nil), (fun _ h => absurd h List.not_mem_nil), (fun _ h => absurd h List.not_mem_nil)⟩ rfl rfl rfl (by decide +kernel)
set_option maxRecDepth 100000 in
theorem q9lk_X9_182_X11_entry_k157 : q9LKs q9ALLW RX9 (182, 2, 0, q9i_X11_entry_k157) := ⟨q9wk_X11_entry, ⟨by decide, by decide, by decide +kernel⟩, List.mem_of_getElem? (i := 13) rfl, q9goodW _ q9wv_X11_entry⟩
set_option maxRecDepth 100000 in
theorem q9wk_X9_eased : GoodIn q9ALLW [.code yX9_eased cX9_eased 9 (some .int), .initialized (yX9_eased).cls] := q9goodW _ (List.forall_mem_cons.mpr ⟨(q9inT6 0 rfl rfl), (List.forall_mem_cons.mpr ⟨(q9inT1 7 rfl rfl), (fun _ h => absurd h List.not_mem_nil)⟩)⟩)
set_option maxRecDepth 100000 in
theorem q9wv_X9_eased : ∀ w ∈ ([.static yX9_eased] : List Cond), w ∈ q9ALLW := (List.forall_mem_cons.mpr ⟨(q9inT5 239 rfl rfl), (fun _ h => absurd h List.not_mem_nil)⟩)
set_option maxRecDepth 100000 in
theorem q9lk_X9_191_X9_eased : q9LKs q9ALLW RX9 (191, 1, 0, q9i_X9_eased) := ⟨q9wk_X9_eased, ⟨by decide, by decide, by decide +kernel⟩, q9goodW _ (List.forall_mem_cons.mpr ⟨(q9inT5 238 rfl rfl), q9wv_X9_eased⟩)⟩
set_option maxRecDepth 100000 in
theorem q9lk_X9_214_X7_hasFrame : q9LKs q9ALLW RX9 (214, 0, 7, q9i_X7_hasFrame) := ⟨q9wk_X7_hasFrame, ⟨by decide, by decide, by decide +kernel⟩, q9goodW _ (List.forall_mem_cons.mpr ⟨(q9inT5 228 rfl rfl), q9wv_X7_hasFrame⟩), _, rfl, rfl⟩
set_option maxRecDepth 100000 in
theorem q9wk_X7_putStep : GoodIn q9ALLW [.code yX7_putStep cX7_putStep 5 none, .initialized (yX7_putStep).cls] := q9goodW _ (List.forall_mem_cons.mpr ⟨(q9inT5 236 rfl rfl), (List.forall_mem_cons.mpr ⟨(q9inT1 26 rfl rfl), (fun _ h => absurd h List.not_mem_nil)⟩)⟩)
set_option maxRecDepth 100000 in
theorem q9wv_X7_putStep : ∀ w ∈ ([.instanceMethod yX7_putStep, .selects (yX7_putStep).cls yX7_putStep yX7_putStep] : List Cond), w ∈ q9ALLW := (List.forall_mem_cons.mpr ⟨(q9inT5 234 rfl rfl), (List.forall_mem_cons.mpr ⟨(q9inT5 235 rfl rfl), (fun _ h => absurd h List.not_mem_nil)⟩)⟩)
set_option maxRecDepth 100000 in
theorem q9lk_X9_220_X7_putStep : q9LKs q9ALLW RX9 (220, 0, 7, q9i_X7_putStep) := ⟨q9wk_X7_putStep, ⟨by decide, by decide, by decide +kernel⟩, q9goodW _ (List.forall_mem_cons.mpr ⟨(q9inT5 233 rfl rfl), q9wv_X7_putStep⟩), _, rfl, rfl⟩
set_option maxRecDepth 100000 in
theorem q9wk_X7_putAxis : GoodIn q9ALLW [.code yX7_putAxis cX7_putAxis 4 none, .initialized (yX7_putAxis).cls] := q9goodW _ (List.forall_mem_cons.mpr ⟨(q9inT6 8 rfl rfl), (List.forall_mem_cons.mpr ⟨(q9inT1 26 rfl rfl), (fun _ h => absurd h List.not_mem_nil)⟩)⟩)
set_option maxRecDepth 100000 in
theorem q9wv_X7_putAxis : ∀ w ∈ ([.instanceMethod yX7_putAxis, .selects (yX7_putAxis).cls yX7_putAxis yX7_putAxis] : List Cond), w ∈ q9ALLW := (List.forall_mem_cons.mpr ⟨(q9inT6 6 rfl rfl), (List.forall_mem_cons.mpr ⟨(q9inT6 7 rfl rfl), (fun _ h => absurd h List.not_mem_nil)⟩)⟩)
set_option maxRecDepth 100000 in
theorem q9lk_X9_223_X7_putAxis : q9LKs q9ALLW RX9 (223, 0, 7, q9i_X7_putAxis) := ⟨q9wk_X7_putAxis, ⟨by decide, by decide, by decide +kernel⟩, q9goodW _ (List.forall_mem_cons.mpr ⟨(q9inT6 5 rfl rfl), q9wv_X7_putAxis⟩), _, rfl, rfl⟩
noncomputable def q9i_X9_takeFrame : q9INST := (yX9_takeFrame, cX9_takeFrame, 3, none, (3, 54, 0, 0), q9dcQ 0x101030000000000000005030000000000000201010100020001020000010001000e0200120200000003, q9dcP 0x10200000002000000050300000000000000020001020000000e020012020000000301, [], [578, 100145, 100147, 100148, 100149, 100159], [])
noncomputable def q9e_X9_takeFrame : q9EN := (q9TBL, q9fs_X9, q9ps_X9, [578, 100145, 100147, 100148, 100149, 100159], [(214, 0, 7, q9i_X7_hasFrame), (220, 0, 7, q9i_X7_putStep), (223, 0, 7, q9i_X7_putAxis)], [(182, 2, 0, q9i_X11_entry_k157), (191, 1, 0, q9i_X9_eased), (207, 2, 0, q9i_X11_within)], (3, 54, 0, 0), 3, [], [], [])
noncomputable def q9cu_X9_takeFrame : List q9CUT := q9dcKs 0xc99ce00000602020c99ce00000300020103000003030001030300000102000001000000000000000005070000000105060100000301010006020100050003000401030400030001020000020100010002069e000006a0020001c80000000e0206000000120200000007390c9a9e000001c802020c9a9e0000030002010300000303000001020000010000000000000000050600000001040501000003010100050201000400030300030001020000020100010002069e000006a00200000e0201c80000001202000000061102
set_option maxRecDepth 100000 in
set_option maxHeartbeats 4000000 in
theorem q9c_X9_takeFrame (l : Launch) (hst : l.stackTraces = false) : q9CON O l q9TBL q9ALLW q9i_X9_takeFrame := q9con_of (q := q9i_X9_takeFrame) (n := q9e_X9_takeFrame) (K := []) (K2 := []) (cuts := q9cu_X9_takeFrame) (f := 126) hst (by decide +kernel) (fun h => absurd rfl h) ⟨q9goodA, q9fs_X9_ok, q9ps_X9_ok, (List.forall_mem_cons.mpr ⟨⟨⟨q9c_X7_hasFrame l hst, q9lk_X9_214_X7_hasFrame⟩, rfl⟩, (List.forall_mem_cons.mpr ⟨⟨⟨q9c_X7_putStep l hst, q9lk_X9_220_X7_putStep⟩, rfl⟩, (List.forall_mem_cons.mpr ⟨⟨⟨q9c_X7_putAxis l hst, q9lk_X9_223_X7_putAxis⟩, rfl⟩, (fun _ h => absurd h List.not_mem_nil)⟩)⟩)⟩), (List.forall_mem_cons.mpr ⟨⟨⟨q9c_X11_entry_k157 l hst, q9lk_X9_182_X11_entry_k157⟩, by decide⟩, (List.forall_mem_cons.mpr ⟨⟨⟨q9c_X9_eased l hst, q9lk_X9_191_X9_eased⟩, by decide⟩, (List.forall_mem_cons.mpr ⟨⟨⟨q9c_X11_within l hst, q9lk_X9_207_X11_within⟩, by decide⟩, (fun _ h => absurd h List.not_mem_nil)⟩)⟩)⟩), q9kas_ok, (fun _ h => absurd h List.not_mem_nil), (fun _ h => absurd h List.not_mem_nil), (fun _ h => absurd h List.not_mem_nil)⟩ rfl rfl rfl (by decide +kernel)
set_option maxRecDepth 100000 in
theorem q9wk_X12_fine : GoodIn q9ALLW [.code yX12_fine cX12_fine 1 (some .boolean), .initialized (yX12_fine).cls] := q9goodW _ (List.forall_mem_cons.mpr ⟨(q9inT9 215 rfl rfl), (List.forall_mem_cons.mpr ⟨(q9inT1 12 rfl rfl), (fun _ h => absurd h List.not_mem_nil)⟩)⟩)
set_option maxRecDepth 100000 in
theorem q9wv_X12_fine : ∀ w ∈ ([.instanceMethod yX12_fine, .selects (yX12_fine).cls yX12_fine yX12_fine] : List Cond), w ∈ q9ALLW := (List.forall_mem_cons.mpr ⟨(q9inT9 214 rfl rfl), (List.forall_mem_cons.mpr ⟨(q9inW 64 rfl rfl), (fun _ h => absurd h List.not_mem_nil)⟩)⟩)
set_option maxRecDepth 100000 in
theorem q9lk_X12_302_X12_F_fine0 : q9LKs q9ALLW RX12 (302, 0, 12, q9i_X12_F_fine0) := ⟨q9wk_X12_fine, ⟨by decide, by decide, by decide +kernel⟩, q9goodW _ (List.forall_mem_cons.mpr ⟨(q9inT9 212 rfl rfl), q9wv_X12_fine⟩), _, rfl, rfl⟩
set_option maxRecDepth 100000 in
theorem q9wk_X12_wrong : GoodIn q9ALLW [.code yX12_wrong cX12_wrong 3 none, .initialized (yX12_wrong).cls] := q9goodW _ (List.forall_mem_cons.mpr ⟨(q9inT10 6 rfl rfl), (List.forall_mem_cons.mpr ⟨(q9inT1 12 rfl rfl), (fun _ h => absurd h List.not_mem_nil)⟩)⟩)
set_option maxRecDepth 100000 in
theorem q9wv_X12_wrong : ∀ w ∈ ([.instanceMethod yX12_wrong, .selects (yX12_wrong).cls yX12_wrong yX12_wrong] : List Cond), w ∈ q9ALLW := (List.forall_mem_cons.mpr ⟨(q9inT10 5 rfl rfl), (List.forall_mem_cons.mpr ⟨(q9inW 69 rfl rfl), (fun _ h => absurd h List.not_mem_nil)⟩)⟩)
set_option maxRecDepth 100000 in
theorem q9wk_X12_isDigit : GoodIn q9ALLW [.code yX12_isDigit cX12_isDigit 1 (some .boolean), .initialized (yX12_isDigit).cls] := q9goodW _ (List.forall_mem_cons.mpr ⟨(q9inT10 17 rfl rfl), (List.forall_mem_cons.mpr ⟨(q9inT1 12 rfl rfl), (fun _ h => absurd h List.not_mem_nil)⟩)⟩)
set_option maxRecDepth 100000 in
theorem q9wv_X12_isDigit : ∀ w ∈ ([.static yX12_isDigit] : List Cond), w ∈ q9ALLW := (List.forall_mem_cons.mpr ⟨(q9inT10 16 rfl rfl), (fun _ h => absurd h List.not_mem_nil)⟩)
set_option maxRecDepth 100000 in
theorem q9wk_X12_word : GoodIn q9ALLW [.code yX12_word cX12_word 4 (some .int), .initialized (yX12_word).cls] := q9goodW _ (List.forall_mem_cons.mpr ⟨(q9inT9 231 rfl rfl), (List.forall_mem_cons.mpr ⟨(q9inT1 12 rfl rfl), (fun _ h => absurd h List.not_mem_nil)⟩)⟩)
set_option maxRecDepth 100000 in
theorem q9wv_X12_word : ∀ w ∈ ([.instanceMethod yX12_word, .selects (yX12_word).cls yX12_word yX12_word] : List Cond), w ∈ q9ALLW := (List.forall_mem_cons.mpr ⟨(q9inT9 230 rfl rfl), (List.forall_mem_cons.mpr ⟨(q9inW 68 rfl rfl), (fun _ h => absurd h List.not_mem_nil)⟩)⟩)
set_option maxRecDepth 100000 in
theorem q9wk_X12_pass : GoodIn q9ALLW [.code yX12_pass cX12_pass 1 none, .initialized (yX12_pass).cls] := q9goodW _ (List.forall_mem_cons.mpr ⟨(q9inT10 10 rfl rfl), (List.forall_mem_cons.mpr ⟨(q9inT1 12 rfl rfl), (fun _ h => absurd h List.not_mem_nil)⟩)⟩)
set_option maxRecDepth 100000 in
theorem q9wv_X12_pass : ∀ w ∈ ([.instanceMethod yX12_pass, .selects (yX12_pass).cls yX12_pass yX12_pass] : List Cond), w ∈ q9ALLW := (List.forall_mem_cons.mpr ⟨(q9inT10 9 rfl rfl), (List.forall_mem_cons.mpr ⟨(q9inW 70 rfl rfl), (fun _ h => absurd h List.not_mem_nil)⟩)⟩)
set_option maxRecDepth 100000 in
theorem q9wk_X12_number : GoodIn q9ALLW [.code yX12_number cX12_number 6 (some .int), .initialized (yX12_number).cls] := q9goodW _ (List.forall_mem_cons.mpr ⟨(q9inT10 14 rfl rfl), (List.forall_mem_cons.mpr ⟨(q9inT1 12 rfl rfl), (fun _ h => absurd h List.not_mem_nil)⟩)⟩)
set_option maxRecDepth 100000 in
theorem q9wv_X12_number : ∀ w ∈ ([.instanceMethod yX12_number, .selects (yX12_number).cls yX12_number yX12_number] : List Cond), w ∈ q9ALLW := (List.forall_mem_cons.mpr ⟨(q9inT10 13 rfl rfl), (List.forall_mem_cons.mpr ⟨(q9inW 71 rfl rfl), (fun _ h => absurd h List.not_mem_nil)⟩)⟩)
noncomputable def q9i_X12_copy : q9INST := (yX12_copy, cX12_copy, 3, none, (1, 1, 0, 0), q9dcQ 0x100000000000000000503000000000000000200010200000201000100020003de020003cc0200000003, q9dcP 0x102000000020000000503000000000000000200010200000003de020003cc020000000301, [], [100239], [])
noncomputable def q9e_X12_copy : q9EN := (q9TBL, q9fs_X12, q9ps_X12, [100239], [], [], (1, 1, 0, 0), 3, [], [], [])
noncomputable def q9cu_X12_copy : List q9CUT := q9dcKs 0xc9abc00000c03020c9abc0000030000020000000100000000000000000504000000000000000200010200000302000201000100030c00000003de020003cc02000000040201
set_option maxRecDepth 100000 in
set_option maxHeartbeats 4000000 in
theorem q9c_X12_copy (l : Launch) (hst : l.stackTraces = false) : q9CON O l q9TBL q9ALLW q9i_X12_copy := q9con_of (q := q9i_X12_copy) (n := q9e_X12_copy) (K := []) (K2 := []) (cuts := q9cu_X12_copy) (f := 20) hst (by decide +kernel) (fun h => absurd rfl h) ⟨q9goodA, q9fs_X12_ok, q9ps_X12_ok, (fun _ h => absurd h List.not_mem_nil), (fun _ h => absurd h List.not_mem_nil), q9kas_ok, (fun _ h => absurd h List.not_mem_nil), (fun _ h => absurd h List.not_mem_nil), (fun _ h => absurd h List.not_mem_nil)⟩ rfl rfl rfl (by decide +kernel)
set_option maxRecDepth 100000 in
theorem q9mt_X6_108 : ∀ w ∈ q9MTw RX6 (108, 4), w ∈ q9ALLW := (List.forall_mem_cons.mpr ⟨(q9inT5 126 rfl rfl), (List.forall_mem_cons.mpr ⟨(q9inT5 127 rfl rfl), (List.forall_mem_cons.mpr ⟨(q9inT1 20 rfl rfl), (List.forall_mem_cons.mpr ⟨(q9inT5 128 rfl rfl), (fun _ h => absurd h List.not_mem_nil)⟩)⟩)⟩)⟩)
set_option maxRecDepth 100000 in
theorem q9wk_X10_number : GoodIn q9ALLW [.code yX10_number cX10_number 5 (some .int), .initialized (yX10_number).cls] := q9goodW _ (List.forall_mem_cons.mpr ⟨(q9inT5 53 rfl rfl), (List.forall_mem_cons.mpr ⟨(q9inT1 5 rfl rfl), (fun _ h => absurd h List.not_mem_nil)⟩)⟩)
set_option maxRecDepth 100000 in
theorem q9wv_X10_number : ∀ w ∈ ([.instanceMethod yX10_number, .selects (yX10_number).cls yX10_number yX10_number] : List Cond), w ∈ q9ALLW := (List.forall_mem_cons.mpr ⟨(q9inT5 51 rfl rfl), (List.forall_mem_cons.mpr ⟨(q9inT5 52 rfl rfl), (fun _ h => absurd h List.not_mem_nil)⟩)⟩)
set_option maxRecDepth 100000 in
theorem q9lk_X6_186_X11_within : q9LKs q9ALLW RX6 (186, 2, 0, q9i_X11_within) := ⟨q9wk_X11_within, ⟨by decide, by decide, by decide +kernel⟩, List.mem_of_getElem? (i := 10) rfl, q9goodW _ q9wv_X11_within⟩
set_option maxRecDepth 100000 in
theorem q9wk_X10_needSign : GoodIn q9ALLW [.code yX10_needSign cX10_needSign 2 none, .initialized (yX10_needSign).cls] := q9goodW _ (List.forall_mem_cons.mpr ⟨(q9inT4 199 rfl rfl), (List.forall_mem_cons.mpr ⟨(q9inT1 5 rfl rfl), (fun _ h => absurd h List.not_mem_nil)⟩)⟩)
set_option maxRecDepth 100000 in
theorem q9wv_X10_needSign : ∀ w ∈ ([.instanceMethod yX10_needSign, .selects (yX10_needSign).cls yX10_needSign yX10_needSign] : List Cond), w ∈ q9ALLW := (List.forall_mem_cons.mpr ⟨(q9inT4 197 rfl rfl), (List.forall_mem_cons.mpr ⟨(q9inT4 198 rfl rfl), (fun _ h => absurd h List.not_mem_nil)⟩)⟩)
set_option maxRecDepth 100000 in
theorem q9mt_X6_241 : ∀ w ∈ q9MTw RX6 (241, 2), w ∈ q9ALLW := (List.forall_mem_cons.mpr ⟨(q9inT4 194 rfl rfl), (List.forall_mem_cons.mpr ⟨(q9inT3 234 rfl rfl), (List.forall_mem_cons.mpr ⟨(q9inT1 20 rfl rfl), (List.forall_mem_cons.mpr ⟨(q9inT3 235 rfl rfl), (fun _ h => absurd h List.not_mem_nil)⟩)⟩)⟩)⟩)
set_option maxRecDepth 100000 in
theorem q9mt_X6_243 : ∀ w ∈ q9MTw RX6 (243, 1), w ∈ q9ALLW := (List.forall_mem_cons.mpr ⟨(q9inT4 195 rfl rfl), (List.forall_mem_cons.mpr ⟨(q9inT3 97 rfl rfl), (List.forall_mem_cons.mpr ⟨(q9inT1 20 rfl rfl), (List.forall_mem_cons.mpr ⟨(q9inT3 98 rfl rfl), (fun _ h => absurd h List.not_mem_nil)⟩)⟩)⟩)⟩)
