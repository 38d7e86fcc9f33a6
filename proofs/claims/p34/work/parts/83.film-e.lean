variable {O : ORC}
set_option maxRecDepth 100000 in
theorem q9wk_J9_floorDiv_7cf53 : GoodIn q9ALLW [.code yJ9_floorDiv_7cf53 cJ9_floorDiv_7cf53 3 (some .int), .initialized (yJ9_floorDiv_7cf53).cls] := q9goodW _ (List.forall_mem_cons.mpr ⟨(q9inT7 196 rfl rfl), (List.forall_mem_cons.mpr ⟨(q9inT1 20 rfl rfl), (fun _ h => absurd h List.not_mem_nil)⟩)⟩)
set_option maxRecDepth 100000 in
theorem q9wv_J9_floorDiv_7cf53 : ∀ w ∈ ([.static yJ9_floorDiv_7cf53] : List Cond), w ∈ q9ALLW := (List.forall_mem_cons.mpr ⟨(q9inT7 195 rfl rfl), (fun _ h => absurd h List.not_mem_nil)⟩)
set_option maxRecDepth 100000 in
theorem q9lk_X0_36_J9_floorDiv_7cf53 : q9LKs q9ALLW RX0 (36, 1, 0, q9i_J9_floorDiv_7cf53) := ⟨q9wk_J9_floorDiv_7cf53, ⟨by decide, by decide, by decide +kernel⟩, q9goodW _ (List.forall_mem_cons.mpr ⟨(q9inT7 194 rfl rfl), q9wv_J9_floorDiv_7cf53⟩)⟩
noncomputable def q9i_X0_between : q9INST := (yX0_between, cX0_between, 6, (some .int), (2, 23, 0, 0), q9dcQ 0x300000002000000010000000000000000050500000000000000040003000200010400000403000302000201000100040ffffffffe0fffffffff00019e0000019e000000000200000005, q9dcP 0x1000003020000020200000102000000020000000506000000000000000400030002000104000501000ffffffffe0fffffffff000ffffffffe0fffffffff00019e0000019e00000000020000000601, [], [], [])
noncomputable def q9e_X0_between : q9EN := (q9TBL, q9fs_X0, q9ps_X0, [], [], [(36, 1, 0, q9i_J9_floorDiv_7cf53)], (2, 23, 0, 0), 6, [], [], [])
noncomputable def q9cu_X0_between : List q9CUT := []
set_option maxRecDepth 100000 in
set_option maxHeartbeats 4000000 in
theorem q9c_X0_between (l : Launch) (hst : l.stackTraces = false) : q9CON O l q9TBL q9ALLW q9i_X0_between := q9con_of (q := q9i_X0_between) (n := q9e_X0_between) (K := []) (K2 := []) (cuts := q9cu_X0_between) (f := 48) hst (by decide +kernel) (fun h => absurd rfl h) ⟨q9goodA, q9fs_X0_ok, q9ps_X0_ok, (fun _ h => absurd h List.not_mem_nil), (List.forall_mem_cons.mpr ⟨⟨⟨q9c_J9_floorDiv_7cf53 l hst, q9lk_X0_36_J9_floorDiv_7cf53⟩, by decide⟩, (fun _ h => absurd h List.not_mem_nil)⟩), q9kas_ok, (fun _ h => absurd h List.not_mem_nil), (fun _ h => absurd h List.not_mem_nil), (fun _ h => absurd h List.not_mem_nil)⟩ rfl rfl rfl (by decide +kernel)
set_option maxRecDepth 100000 in
theorem q9wk_X11_entry : GoodIn q9ALLW [.code yX11_entry cX11_entry 3 (some .int), .initialized (yX11_entry).cls] := q9goodW _ (List.forall_mem_cons.mpr ⟨(q9inT3 70 rfl rfl), (List.forall_mem_cons.mpr ⟨(q9inT1 1 rfl rfl), (fun _ h => absurd h List.not_mem_nil)⟩)⟩)
set_option maxRecDepth 100000 in
theorem q9wv_X11_entry : ∀ w ∈ ([.static yX11_entry] : List Cond), w ∈ q9ALLW := (List.forall_mem_cons.mpr ⟨(q9inT3 69 rfl rfl), (fun _ h => absurd h List.not_mem_nil)⟩)
set_option maxRecDepth 100000 in
theorem q9lk_X0_28_X11_entry_k102 : q9LKs q9ALLW RX0 (28, 2, 0, q9i_X11_entry_k102) := ⟨q9wk_X11_entry, ⟨by decide, by decide, by decide +kernel⟩, List.mem_of_getElem? (i := 24) rfl, q9goodW _ q9wv_X11_entry⟩
set_option maxRecDepth 100000 in
theorem q9wk_X0_between : GoodIn q9ALLW [.code yX0_between cX0_between 6 (some .int), .initialized (yX0_between).cls] := q9goodW _ (List.forall_mem_cons.mpr ⟨(q9inT7 193 rfl rfl), (List.forall_mem_cons.mpr ⟨(q9inT1 10 rfl rfl), (fun _ h => absurd h List.not_mem_nil)⟩)⟩)
set_option maxRecDepth 100000 in
theorem q9wv_X0_between : ∀ w ∈ ([.instanceMethod yX0_between, .selects (yX0_between).cls yX0_between yX0_between] : List Cond), w ∈ q9ALLW := (List.forall_mem_cons.mpr ⟨(q9inT7 192 rfl rfl), (List.forall_mem_cons.mpr ⟨(q9inW 61 rfl rfl), (fun _ h => absurd h List.not_mem_nil)⟩)⟩)
set_option maxRecDepth 100000 in
theorem q9lk_X0_32_X0_between : q9LKs q9ALLW RX0 (32, 0, 0, q9i_X0_between) := ⟨q9wk_X0_between, ⟨by decide, by decide, by decide +kernel⟩, q9goodW _ (List.forall_mem_cons.mpr ⟨(q9inT7 190 rfl rfl), q9wv_X0_between⟩), _, rfl, rfl⟩
noncomputable def q9i_X0_mend : q9INST := (yX0_mend, cX0_mend, 7, (some .int), (3, 48, 0, 0), q9dcQ 0x300000002000000010000000000000000050500000000000000040003000200010400000403000302000201000100040ffffffffe0fffffffff000ffffffffe0fffffffff000ffffffffe0fffffffff0000000200000005, q9dcP 0x1000003020000020200000102000000020000000506000000000000000400030002000104000501000ffffffffe0fffffffff000ffffffffe0fffffffff000ffffffffe0fffffffff000ffffffffe0fffffffff000000020000000601, [], [], [])
noncomputable def q9e_X0_mend : q9EN := (q9TBL, q9fs_X0, q9ps_X0, [], [(32, 0, 0, q9i_X0_between)], [(28, 2, 0, q9i_X11_entry_k102)], (3, 48, 0, 0), 7, [], [], [])
noncomputable def q9cu_X0_mend : List q9CUT := q9dcKs 0xc9aae000001a007020c9aae000003000006000000050000000400000003000000020000000100000000000000000508000000010706010705020000000400030002000104000007060006050005040004030003020002010001000701a0000001a0010001a001000ffffffffe0fffffffff000ffffffffe0fffffffff000ffffffffe0fffffffff00000002000000080901
set_option maxRecDepth 100000 in
set_option maxHeartbeats 4000000 in
theorem q9c_X0_mend (l : Launch) (hst : l.stackTraces = false) : q9CON O l q9TBL q9ALLW q9i_X0_mend := q9con_of (q := q9i_X0_mend) (n := q9e_X0_mend) (K := []) (K2 := []) (cuts := q9cu_X0_mend) (f := 199) hst (by decide +kernel) (fun h => absurd rfl h) ⟨q9goodA, q9fs_X0_ok, q9ps_X0_ok, (List.forall_mem_cons.mpr ⟨⟨⟨q9c_X0_between l hst, q9lk_X0_32_X0_between⟩, rfl⟩, (fun _ h => absurd h List.not_mem_nil)⟩), (List.forall_mem_cons.mpr ⟨⟨⟨q9c_X11_entry_k102 l hst, q9lk_X0_28_X11_entry_k102⟩, by decide⟩, (fun _ h => absurd h List.not_mem_nil)⟩), q9kas_ok, (fun _ h => absurd h List.not_mem_nil), (fun _ h => absurd h List.not_mem_nil), (fun _ h => absurd h List.not_mem_nil)⟩ rfl rfl rfl (by decide +kernel)
noncomputable def q9i_X10_byteAt : q9INST := (yX10_byteAt, cX10_byteAt, 2, (some .int), (1, 1, 0, 0), q9dcQ 0x100000000000000000503000000000000000200010200000201000100020ffffffffe0fffffffff0000140200000003, q9dcP 0x10000010200000002000000050400000000000000020001020003010003fe01000ffffffffe0fffffffff000014020000000401, [], [], [])
noncomputable def q9e_X10_byteAt : q9EN := (q9TBL, q9fs_X10, q9ps_X10, [], [], [], (1, 1, 0, 0), 2, [], [], [])
noncomputable def q9cu_X10_byteAt : List q9CUT := []
set_option maxRecDepth 100000 in
set_option maxHeartbeats 4000000 in
theorem q9c_X10_byteAt (l : Launch) (hst : l.stackTraces = false) : q9CON O l q9TBL q9ALLW q9i_X10_byteAt := q9con_of (q := q9i_X10_byteAt) (n := q9e_X10_byteAt) (K := []) (K2 := []) (cuts := q9cu_X10_byteAt) (f := 28) hst (by decide +kernel) (fun h => absurd rfl h) ⟨q9goodA, q9fs_X10_ok, q9ps_X10_ok, (fun _ h => absurd h List.not_mem_nil), (fun _ h => absurd h List.not_mem_nil), q9kas_ok, (fun _ h => absurd h List.not_mem_nil), (fun _ h => absurd h List.not_mem_nil), (fun _ h => absurd h List.not_mem_nil)⟩ rfl rfl rfl (by decide +kernel)
noncomputable def q9i_X10_peek : q9INST := (yX10_peek, cX10_peek, 1, (some .int), (1, 1, 0, 0), q9dcQ 0x502000000000000000101000001000100140200000002, q9dcP 0x10103000201030000000100000002000000050500000001040301000004010100030201020001010002010006a00200069e000003fe000000140200000005000101030002010300000002000000050400000000020301000003010100020201020001010100010006a0000006a000000014020000000402, [], [642], [])
noncomputable def q9e_X10_peek : q9EN := (q9TBL, q9fs_X10, q9ps_X10, [642], [], [], (1, 1, 0, 0), 1, [], [], [])
noncomputable def q9cu_X10_peek : List q9CUT := q9dcKs 0xc9ac0000006a002020c9ac0000003000101030000010300020103000000000000000505000000000402010000040101000300010002020103000101000001000106a002000002ca0206a00200001402000000050001
set_option maxRecDepth 100000 in
set_option maxHeartbeats 4000000 in
theorem q9c_X10_peek (l : Launch) (hst : l.stackTraces = false) : q9CON O l q9TBL q9ALLW q9i_X10_peek := q9con_of (q := q9i_X10_peek) (n := q9e_X10_peek) (K := []) (K2 := []) (cuts := q9cu_X10_peek) (f := 85) hst (by decide +kernel) (fun h => absurd rfl h) ⟨q9goodA, q9fs_X10_ok, q9ps_X10_ok, (fun _ h => absurd h List.not_mem_nil), (fun _ h => absurd h List.not_mem_nil), q9kas_ok, (fun _ h => absurd h List.not_mem_nil), (fun _ h => absurd h List.not_mem_nil), (fun _ h => absurd h List.not_mem_nil)⟩ rfl rfl rfl (by decide +kernel)
set_option maxRecDepth 100000 in
theorem q9wk_X10_peek : GoodIn q9ALLW [.code yX10_peek cX10_peek 1 (some .int), .initialized (yX10_peek).cls] := q9goodW _ (List.forall_mem_cons.mpr ⟨(q9inT4 184 rfl rfl), (List.forall_mem_cons.mpr ⟨(q9inT1 5 rfl rfl), (fun _ h => absurd h List.not_mem_nil)⟩)⟩)
set_option maxRecDepth 100000 in
theorem q9wv_X10_peek : ∀ w ∈ ([.instanceMethod yX10_peek, .selects (yX10_peek).cls yX10_peek yX10_peek] : List Cond), w ∈ q9ALLW := (List.forall_mem_cons.mpr ⟨(q9inT4 182 rfl rfl), (List.forall_mem_cons.mpr ⟨(q9inT4 183 rfl rfl), (fun _ h => absurd h List.not_mem_nil)⟩)⟩)
set_option maxRecDepth 100000 in
theorem q9lk_X10_43_X10_peek : q9LKs q9ALLW RX10 (43, 0, 10, q9i_X10_peek) := ⟨q9wk_X10_peek, ⟨by decide, by decide, by decide +kernel⟩, q9goodW _ (List.forall_mem_cons.mpr ⟨(q9inT4 189 rfl rfl), q9wv_X10_peek⟩), _, rfl, rfl⟩
set_option maxRecDepth 100000 in
theorem q9wk_X10_fail : GoodIn q9ALLW [.code yX10_fail cX10_fail 3 none, .initialized (yX10_fail).cls] := q9goodW _ (List.forall_mem_cons.mpr ⟨(q9inT4 203 rfl rfl), (List.forall_mem_cons.mpr ⟨(q9inT1 5 rfl rfl), (fun _ h => absurd h List.not_mem_nil)⟩)⟩)
set_option maxRecDepth 100000 in
theorem q9wv_X10_fail : ∀ w ∈ ([.instanceMethod yX10_fail, .selects (yX10_fail).cls yX10_fail yX10_fail] : List Cond), w ∈ q9ALLW := (List.forall_mem_cons.mpr ⟨(q9inT4 201 rfl rfl), (List.forall_mem_cons.mpr ⟨(q9inT4 202 rfl rfl), (fun _ h => absurd h List.not_mem_nil)⟩)⟩)
set_option maxRecDepth 100000 in
theorem q9wk_X10_byteAt : GoodIn q9ALLW [.code yX10_byteAt cX10_byteAt 2 (some .int), .initialized (yX10_byteAt).cls] := q9goodW _ (List.forall_mem_cons.mpr ⟨(q9inT4 215 rfl rfl), (List.forall_mem_cons.mpr ⟨(q9inT1 5 rfl rfl), (fun _ h => absurd h List.not_mem_nil)⟩)⟩)
set_option maxRecDepth 100000 in
theorem q9wv_X10_byteAt : ∀ w ∈ ([.instanceMethod yX10_byteAt, .selects (yX10_byteAt).cls yX10_byteAt yX10_byteAt] : List Cond), w ∈ q9ALLW := (List.forall_mem_cons.mpr ⟨(q9inT4 213 rfl rfl), (List.forall_mem_cons.mpr ⟨(q9inT4 214 rfl rfl), (fun _ h => absurd h List.not_mem_nil)⟩)⟩)
set_option maxRecDepth 100000 in
theorem q9lk_X10_54_X10_byteAt : q9LKs q9ALLW RX10 (54, 0, 10, q9i_X10_byteAt) := ⟨q9wk_X10_byteAt, ⟨by decide, by decide, by decide +kernel⟩, q9goodW _ (List.forall_mem_cons.mpr ⟨(q9inT4 212 rfl rfl), q9wv_X10_byteAt⟩), _, rfl, rfl⟩
set_option maxRecDepth 100000 in
theorem q9wk_X11_within : GoodIn q9ALLW [.code yX11_within cX11_within 3 (some .boolean), .initialized (yX11_within).cls] := q9goodW _ (List.forall_mem_cons.mpr ⟨(q9inT3 162 rfl rfl), (List.forall_mem_cons.mpr ⟨(q9inT1 1 rfl rfl), (fun _ h => absurd h List.not_mem_nil)⟩)⟩)
set_option maxRecDepth 100000 in
theorem q9wv_X11_within : ∀ w ∈ ([.static yX11_within] : List Cond), w ∈ q9ALLW := (List.forall_mem_cons.mpr ⟨(q9inT3 161 rfl rfl), (fun _ h => absurd h List.not_mem_nil)⟩)
set_option maxRecDepth 100000 in
theorem q9lk_X10_58_X11_within : q9LKs q9ALLW RX10 (58, 2, 0, q9i_X11_within) := ⟨q9wk_X11_within, ⟨by decide, by decide, by decide +kernel⟩, List.mem_of_getElem? (i := 9) rfl, q9goodW _ q9wv_X11_within⟩
set_option maxRecDepth 100000 in
theorem q9mt_X10_15 : ∀ w ∈ q9MTw RX10 (15, 2), w ∈ q9ALLW := (List.forall_mem_cons.mpr ⟨(q9inT4 175 rfl rfl), (List.forall_mem_cons.mpr ⟨(q9inT3 234 rfl rfl), (List.forall_mem_cons.mpr ⟨(q9inT1 20 rfl rfl), (List.forall_mem_cons.mpr ⟨(q9inT3 235 rfl rfl), (fun _ h => absurd h List.not_mem_nil)⟩)⟩)⟩)⟩)
noncomputable def q9i_X7_hasFrame : q9INST := (yX7_hasFrame, cX7_hasFrame, 2, (some .boolean), (1, 1, 0, 0), q9dcQ 0x100000000000000000503000000000000000200010200000201000100020ffffffffe0fffffffff00000e0200000003, q9dcP 0x103000001020000000200000005040000000103020100000300010100020001020200010006a00200069e0000000e0200000004000001020000000200000005030000000000000002000102000001000ffffffffe0fffffffff00000e020000000302, [], [], [])
noncomputable def q9e_X7_hasFrame : q9EN := (q9TBL, q9fs_X7, q9ps_X7, [], [], [], (1, 1, 0, 0), 2, [], [], [])
noncomputable def q9cu_X7_hasFrame : List q9CUT := []
set_option maxRecDepth 100000 in
set_option maxHeartbeats 4000000 in
theorem q9c_X7_hasFrame (l : Launch) (hst : l.stackTraces = false) : q9CON O l q9TBL q9ALLW q9i_X7_hasFrame := q9con_of (q := q9i_X7_hasFrame) (n := q9e_X7_hasFrame) (K := []) (K2 := []) (cuts := q9cu_X7_hasFrame) (f := 18) hst (by decide +kernel) (fun h => absurd rfl h) ⟨q9goodA, q9fs_X7_ok, q9ps_X7_ok, (fun _ h => absurd h List.not_mem_nil), (fun _ h => absurd h List.not_mem_nil), q9kas_ok, (fun _ h => absurd h List.not_mem_nil), (fun _ h => absurd h List.not_mem_nil), (fun _ h => absurd h List.not_mem_nil)⟩ rfl rfl rfl (by decide +kernel)
set_option maxRecDepth 100000 in
theorem q9lk_X7_66_X11_hasBit : q9LKs q9ALLW RX7 (66, 2, 0, q9i_X11_hasBit) := ⟨q9wk_X11_hasBit, ⟨by decide, by decide, by decide +kernel⟩, List.mem_of_getElem? (i := 18) rfl, q9goodW _ q9wv_X11_hasBit⟩
noncomputable def q9i_X7_isCast : q9INST := (yX7_isCast, cX7_isCast, 2, (some .boolean), (2, 22, 0, 0), q9dcQ 0x100000000000000000503000000000000000200010200000201000100020ffffffffe0fffffffff00000e0200000003, q9dcP 0x3010300000102000000020000000504000000000000030301010002000102020001000ffffffffe0fffffffff003e0000000e02000000040003010300000102000000020000000504000000000000030301010002000102000001000ffffffffe0fffffffff000ffffffffe0fffffffff00000e020000000402, [], [], [])
noncomputable def q9e_X7_isCast : q9EN := (q9TBL, q9fs_X7, q9ps_X7, [], [], [(66, 2, 0, q9i_X11_hasBit)], (2, 22, 0, 0), 2, [], [], [])
noncomputable def q9cu_X7_isCast : List q9CUT := []
set_option maxRecDepth 100000 in
set_option maxHeartbeats 4000000 in
theorem q9c_X7_isCast (l : Launch) (hst : l.stackTraces = false) : q9CON O l q9TBL q9ALLW q9i_X7_isCast := q9con_of (q := q9i_X7_isCast) (n := q9e_X7_isCast) (K := []) (K2 := []) (cuts := q9cu_X7_isCast) (f := 11) hst (by decide +kernel) (fun h => absurd rfl h) ⟨q9goodA, q9fs_X7_ok, q9ps_X7_ok, (fun _ h => absurd h List.not_mem_nil), (List.forall_mem_cons.mpr ⟨⟨⟨q9c_X11_hasBit l hst, q9lk_X7_66_X11_hasBit⟩, by decide⟩, (fun _ h => absurd h List.not_mem_nil)⟩), q9kas_ok, (fun _ h => absurd h List.not_mem_nil), (fun _ h => absurd h List.not_mem_nil), (fun _ h => absurd h List.not_mem_nil)⟩ rfl rfl rfl (by decide +kernel)
noncomputable def q9i_X7_trackStep : q9INST := (yX7_trackStep, cX7_trackStep, 4, (some .int), (1, 1, 0, 0), q9dcQ 0x200000001000000000000000005040000000000000003000200010300000302000201000100030ffffffffe0fffffffff000ffffffffe0fffffffff00000e0200000004, q9dcP 0x10000020200000102000000020000000505000000000000000300020001030004010001fe01ff000ffffffffe0fffffffff000ffffffffe0fffffffff00000e020000000501, [], [], [])
noncomputable def q9e_X7_trackStep : q9EN := (q9TBL, q9fs_X7, q9ps_X7, [], [], [], (1, 1, 0, 0), 4, [], [], [])
noncomputable def q9cu_X7_trackStep : List q9CUT := []
set_option maxRecDepth 100000 in
set_option maxHeartbeats 4000000 in
theorem q9c_X7_trackStep (l : Launch) (hst : l.stackTraces = false) : q9CON O l q9TBL q9ALLW q9i_X7_trackStep := q9con_of (q := q9i_X7_trackStep) (n := q9e_X7_trackStep) (K := []) (K2 := []) (cuts := q9cu_X7_trackStep) (f := 39) hst (by decide +kernel) (fun h => absurd rfl h) ⟨q9goodA, q9fs_X7_ok, q9ps_X7_ok, (fun _ h => absurd h List.not_mem_nil), (fun _ h => absurd h List.not_mem_nil), q9kas_ok, (fun _ h => absurd h List.not_mem_nil), (fun _ h => absurd h List.not_mem_nil), (fun _ h => absurd h List.not_mem_nil)⟩ rfl rfl rfl (by decide +kernel)
set_option maxRecDepth 100000 in
theorem q9lk_X7_70_X11_within : q9LKs q9ALLW RX7 (70, 2, 0, q9i_X11_within) := ⟨q9wk_X11_within, ⟨by decide, by decide, by decide +kernel⟩, List.mem_of_getElem? (i := 17) rfl, q9goodW _ q9wv_X11_within⟩
set_option maxRecDepth 100000 in
theorem q9wk_X7_trackStep : GoodIn q9ALLW [.code yX7_trackStep cX7_trackStep 4 (some .int), .initialized (yX7_trackStep).cls] := q9goodW _ (List.forall_mem_cons.mpr ⟨(q9inT6 94 rfl rfl), (List.forall_mem_cons.mpr ⟨(q9inT1 26 rfl rfl), (fun _ h => absurd h List.not_mem_nil)⟩)⟩)
set_option maxRecDepth 100000 in
theorem q9wv_X7_trackStep : ∀ w ∈ ([.instanceMethod yX7_trackStep, .selects (yX7_trackStep).cls yX7_trackStep yX7_trackStep] : List Cond), w ∈ q9ALLW := (List.forall_mem_cons.mpr ⟨(q9inT6 92 rfl rfl), (List.forall_mem_cons.mpr ⟨(q9inT6 93 rfl rfl), (fun _ h => absurd h List.not_mem_nil)⟩)⟩)
set_option maxRecDepth 100000 in
theorem q9lk_X7_74_X7_trackStep : q9LKs q9ALLW RX7 (74, 0, 7, q9i_X7_trackStep) := ⟨q9wk_X7_trackStep, ⟨by decide, by decide, by decide +kernel⟩, q9goodW _ (List.forall_mem_cons.mpr ⟨(q9inT6 91 rfl rfl), q9wv_X7_trackStep⟩), _, rfl, rfl⟩
noncomputable def q9i_X7_stepOf : q9INST := (yX7_stepOf, cX7_stepOf, 4, (some .int), (2, 24, 0, 0), q9dcQ 0x300000002000000010000000000000000050500000000000000040003000200010400000403000302000201000100040ffffffffe0fffffffff000ffffffffe0fffffffff000ffffffffe0fffffffff00000e0200000005, q9dcP 0x10000030200000202000001020000000200000005060000000000000004000300020001040005010001fe01ff000ffffffffe0fffffffff000ffffffffe0fffffffff000ffffffffe0fffffffff00000e020000000601, [], [], [])
noncomputable def q9e_X7_stepOf : q9EN := (q9TBL, q9fs_X7, q9ps_X7, [], [(74, 0, 7, q9i_X7_trackStep)], [(70, 2, 0, q9i_X11_within)], (2, 24, 0, 0), 4, [], [], [])
noncomputable def q9cu_X7_stepOf : List q9CUT := []
set_option maxRecDepth 100000 in
set_option maxHeartbeats 4000000 in
theorem q9c_X7_stepOf (l : Launch) (hst : l.stackTraces = false) : q9CON O l q9TBL q9ALLW q9i_X7_stepOf := q9con_of (q := q9i_X7_stepOf) (n := q9e_X7_stepOf) (K := []) (K2 := []) (cuts := q9cu_X7_stepOf) (f := 33) hst (by decide +kernel) (fun h => absurd rfl h) ⟨q9goodA, q9fs_X7_ok, q9ps_X7_ok, (List.forall_mem_cons.mpr ⟨⟨⟨q9c_X7_trackStep l hst, q9lk_X7_74_X7_trackStep⟩, rfl⟩, (fun _ h => absurd h List.not_mem_nil)⟩), (List.forall_mem_cons.mpr ⟨⟨⟨q9c_X11_within l hst, q9lk_X7_70_X11_within⟩, by decide⟩, (fun _ h => absurd h List.not_mem_nil)⟩), q9kas_ok, (fun _ h => absurd h List.not_mem_nil), (fun _ h => absurd h List.not_mem_nil), (fun _ h => absurd h List.not_mem_nil)⟩ rfl rfl rfl (by decide +kernel)
noncomputable def q9i_X7_putStep : q9INST := (yX7_putStep, cX7_putStep, 5, none, (1, 1, 0, 0), q9dcQ 0x300000002000000010000000000000000050500000000000000040003000200010400000403000302000201000100040ffffffffe0fffffffff000ffffffffe0fffffffff000ffffffffe0fffffffff00000e0200000005, q9dcP 0x302000002020000010200000002000000050500000000000000040003000200010400000ffffffffe0fffffffff000ffffffffe0fffffffff000ffffffffe0fffffffff00000e020000000501, [], [100145], [])
noncomputable def q9e_X7_putStep : q9EN := (q9TBL, q9fs_X7, q9ps_X7, [100145], [], [], (1, 1, 0, 0), 5, [], [], [])
noncomputable def q9cu_X7_putStep : List q9CUT := []
set_option maxRecDepth 100000 in
set_option maxHeartbeats 4000000 in
theorem q9c_X7_putStep (l : Launch) (hst : l.stackTraces = false) : q9CON O l q9TBL q9ALLW q9i_X7_putStep := q9con_of (q := q9i_X7_putStep) (n := q9e_X7_putStep) (K := []) (K2 := []) (cuts := q9cu_X7_putStep) (f := 36) hst (by decide +kernel) (fun h => absurd rfl h) ⟨q9goodA, q9fs_X7_ok, q9ps_X7_ok, (fun _ h => absurd h List.not_mem_nil), (fun _ h => absurd h List.not_mem_nil), q9kas_ok, (fun _ h => absurd h List.not_mem_nil), (fun _ h => absurd h List.not_mem_nil), (fun _ h => absurd h List.not_mem_nil)⟩ rfl rfl rfl (by decide +kernel)
noncomputable def q9i_X7_voiceLetter : q9INST := (yX7_voiceLetter, cX7_voiceLetter, 4, (some .int), (1, 1, 0, 0), q9dcQ 0x200000001000000000000000005040000000000000003000200010300000302000201000100030ffffffffe0fffffffff000ffffffffe0fffffffff00000e0200000004, q9dcP 0x10000020200000102000000020000000505000000000000000300020001030004010001fe01ff000ffffffffe0fffffffff000ffffffffe0fffffffff00000e020000000501, [], [], [])
noncomputable def q9e_X7_voiceLetter : q9EN := (q9TBL, q9fs_X7, q9ps_X7, [], [], [], (1, 1, 0, 0), 4, [], [], [])
noncomputable def q9cu_X7_voiceLetter : List q9CUT := []
set_option maxRecDepth 100000 in
set_option maxHeartbeats 4000000 in
theorem q9c_X7_voiceLetter (l : Launch) (hst : l.stackTraces = false) : q9CON O l q9TBL q9ALLW q9i_X7_voiceLetter := q9con_of (q := q9i_X7_voiceLetter) (n := q9e_X7_voiceLetter) (K := []) (K2 := []) (cuts := q9cu_X7_voiceLetter) (f := 39) hst (by decide +kernel) (fun h => absurd rfl h) ⟨q9goodA, q9fs_X7_ok, q9ps_X7_ok, (fun _ h => absurd h List.not_mem_nil), (fun _ h => absurd h List.not_mem_nil), q9kas_ok, (fun _ h => absurd h List.not_mem_nil), (fun _ h => absurd h List.not_mem_nil), (fun _ h => absurd h List.not_mem_nil)⟩ rfl rfl rfl (by decide +kernel)
set_option maxRecDepth 100000 in
theorem q9lk_X7_77_X11_entry_k144 : q9LKs q9ALLW RX7 (77, 2, 0, q9i_X11_entry_k144) := ⟨q9wk_X11_entry, ⟨by decide, by decide, by decide +kernel⟩, List.mem_of_getElem? (i := 16) rfl, q9goodW _ q9wv_X11_entry⟩
set_option maxRecDepth 100000 in
theorem q9wk_X7_voiceLetter : GoodIn q9ALLW [.code yX7_voiceLetter cX7_voiceLetter 4 (some .int), .initialized (yX7_voiceLetter).cls] := q9goodW _ (List.forall_mem_cons.mpr ⟨(q9inT6 109 rfl rfl), (List.forall_mem_cons.mpr ⟨(q9inT1 26 rfl rfl), (fun _ h => absurd h List.not_mem_nil)⟩)⟩)
set_option maxRecDepth 100000 in
theorem q9wv_X7_voiceLetter : ∀ w ∈ ([.instanceMethod yX7_voiceLetter, .selects (yX7_voiceLetter).cls yX7_voiceLetter yX7_voiceLetter] : List Cond), w ∈ q9ALLW := (List.forall_mem_cons.mpr ⟨(q9inT6 107 rfl rfl), (List.forall_mem_cons.mpr ⟨(q9inT6 108 rfl rfl), (fun _ h => absurd h List.not_mem_nil)⟩)⟩)
set_option maxRecDepth 100000 in
theorem q9lk_X7_81_X7_voiceLetter : q9LKs q9ALLW RX7 (81, 0, 7, q9i_X7_voiceLetter) := ⟨q9wk_X7_voiceLetter, ⟨by decide, by decide, by decide +kernel⟩, q9goodW _ (List.forall_mem_cons.mpr ⟨(q9inT6 106 rfl rfl), q9wv_X7_voiceLetter⟩), _, rfl, rfl⟩
noncomputable def q9i_X7_letterOf : q9INST := (yX7_letterOf, cX7_letterOf, 3, (some .int), (2, 24, 0, 0), q9dcQ 0x200000001000000000000000005040000000000000003000200010300000302000201000100030ffffffffe0fffffffff000ffffffffe0fffffffff00000e0200000004, q9dcP 0x10000020200000102000000020000000505000000000000000300020001030004010001fe01ff000ffffffffe0fffffffff000ffffffffe0fffffffff00000e020000000501, [], [], [])
noncomputable def q9e_X7_letterOf : q9EN := (q9TBL, q9fs_X7, q9ps_X7, [], [(81, 0, 7, q9i_X7_voiceLetter)], [(77, 2, 0, q9i_X11_entry_k144)], (2, 24, 0, 0), 3, [], [], [])
noncomputable def q9cu_X7_letterOf : List q9CUT := []
set_option maxRecDepth 100000 in
set_option maxHeartbeats 4000000 in
theorem q9c_X7_letterOf (l : Launch) (hst : l.stackTraces = false) : q9CON O l q9TBL q9ALLW q9i_X7_letterOf := q9con_of (q := q9i_X7_letterOf) (n := q9e_X7_letterOf) (K := []) (K2 := []) (cuts := q9cu_X7_letterOf) (f := 14) hst (by decide +kernel) (fun h => absurd rfl h) ⟨q9goodA, q9fs_X7_ok, q9ps_X7_ok, (List.forall_mem_cons.mpr ⟨⟨⟨q9c_X7_voiceLetter l hst, q9lk_X7_81_X7_voiceLetter⟩, rfl⟩, (fun _ h => absurd h List.not_mem_nil)⟩), (List.forall_mem_cons.mpr ⟨⟨⟨q9c_X11_entry_k144 l hst, q9lk_X7_77_X11_entry_k144⟩, by decide⟩, (fun _ h => absurd h List.not_mem_nil)⟩), q9kas_ok, (fun _ h => absurd h List.not_mem_nil), (fun _ h => absurd h List.not_mem_nil), (fun _ h => absurd h List.not_mem_nil)⟩ rfl rfl rfl (by decide +kernel)
noncomputable def q9i_X7_putLetter : q9INST := (yX7_putLetter, cX7_putLetter, 6, none, (2, 23, 0, 0), q9dcQ 0x300000002000000010000000000000000050500000000000000040003000200010400000403000302000201000100040ffffffffe0fffffffff000ffffffffe0fffffffff000ffffffffe0fffffffff00000e0200000005, q9dcP 0x302000002020000010200000002000000050500000000000000040003000200010400000ffffffffe0fffffffff000ffffffffe0fffffffff000ffffffffe0fffffffff00000e020000000501, [], [100146], [])
noncomputable def q9e_X7_putLetter : q9EN := (q9TBL, q9fs_X7, q9ps_X7, [100146], [], [(77, 2, 0, q9i_X11_entry_k144)], (2, 23, 0, 0), 6, [], [], [])
noncomputable def q9cu_X7_putLetter : List q9CUT := []
set_option maxRecDepth 100000 in
set_option maxHeartbeats 4000000 in
theorem q9c_X7_putLetter (l : Launch) (hst : l.stackTraces = false) : q9CON O l q9TBL q9ALLW q9i_X7_putLetter := q9con_of (q := q9i_X7_putLetter) (n := q9e_X7_putLetter) (K := []) (K2 := []) (cuts := q9cu_X7_putLetter) (f := 42) hst (by decide +kernel) (fun h => absurd rfl h) ⟨q9goodA, q9fs_X7_ok, q9ps_X7_ok, (fun _ h => absurd h List.not_mem_nil), (List.forall_mem_cons.mpr ⟨⟨⟨q9c_X11_entry_k144 l hst, q9lk_X7_77_X11_entry_k144⟩, by decide⟩, (fun _ h => absurd h List.not_mem_nil)⟩), q9kas_ok, (fun _ h => absurd h List.not_mem_nil), (fun _ h => absurd h List.not_mem_nil), (fun _ h => absurd h List.not_mem_nil)⟩ rfl rfl rfl (by decide +kernel)
set_option maxRecDepth 100000 in
theorem q9lk_X7_77_X11_entry_k147 : q9LKs q9ALLW RX7 (77, 2, 0, q9i_X11_entry_k147) := ⟨q9wk_X11_entry, ⟨by decide, by decide, by decide +kernel⟩, List.mem_of_getElem? (i := 16) rfl, q9goodW _ q9wv_X11_entry⟩
noncomputable def q9i_X7_axisOf : q9INST := (yX7_axisOf, cX7_axisOf, 3, (some .int), (2, 23, 0, 0), q9dcQ 0x200000001000000000000000005040000000000000003000200010300000302000201000100030ffffffffe0fffffffff000ffffffffe0fffffffff00000e0200000004, q9dcP 0x1000002020000010200000002000000050500000000000000030002000103000401000ffffffffe0fffffffff000ffffffffe0fffffffff000ffffffffe0fffffffff00000e020000000501, [], [], [])
noncomputable def q9e_X7_axisOf : q9EN := (q9TBL, q9fs_X7, q9ps_X7, [], [], [(70, 2, 0, q9i_X11_within), (77, 2, 0, q9i_X11_entry_k147)], (2, 23, 0, 0), 3, [], [], [])
noncomputable def q9cu_X7_axisOf : List q9CUT := []
set_option maxRecDepth 100000 in
set_option maxHeartbeats 4000000 in
theorem q9c_X7_axisOf (l : Launch) (hst : l.stackTraces = false) : q9CON O l q9TBL q9ALLW q9i_X7_axisOf := q9con_of (q := q9i_X7_axisOf) (n := q9e_X7_axisOf) (K := []) (K2 := []) (cuts := q9cu_X7_axisOf) (f := 24) hst (by decide +kernel) (fun h => absurd rfl h) ⟨q9goodA, q9fs_X7_ok, q9ps_X7_ok, (fun _ h => absurd h List.not_mem_nil), (List.forall_mem_cons.mpr ⟨⟨⟨q9c_X11_within l hst, q9lk_X7_70_X11_within⟩, by decide⟩, (List.forall_mem_cons.mpr ⟨⟨⟨q9c_X11_entry_k147 l hst, q9lk_X7_77_X11_entry_k147⟩, by decide⟩, (fun _ h => absurd h List.not_mem_nil)⟩)⟩), q9kas_ok, (fun _ h => absurd h List.not_mem_nil), (fun _ h => absurd h List.not_mem_nil), (fun _ h => absurd h List.not_mem_nil)⟩ rfl rfl rfl (by decide +kernel)
