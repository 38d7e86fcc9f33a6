variable {O : ORC}
set_option maxRecDepth 100000 in
theorem q9wk_X8_puppetAt : GoodIn q9ALLW [.code yX8_puppetAt cX8_puppetAt 2 (some (.object "PuppetFilm$Puppet")), .initialized (yX8_puppetAt).cls] := q9goodW _ (List.forall_mem_cons.mpr ⟨(q9inT4 24 rfl rfl), (List.forall_mem_cons.mpr ⟨(q9inT1 2 rfl rfl), (fun _ h => absurd h List.not_mem_nil)⟩)⟩)
set_option maxRecDepth 100000 in
theorem q9wv_X8_puppetAt : ∀ w ∈ ([.instanceMethod yX8_puppetAt, .selects (yX8_puppetAt).cls yX8_puppetAt yX8_puppetAt] : List Cond), w ∈ q9ALLW := (List.forall_mem_cons.mpr ⟨(q9inT4 22 rfl rfl), (List.forall_mem_cons.mpr ⟨(q9inT4 23 rfl rfl), (fun _ h => absurd h List.not_mem_nil)⟩)⟩)
set_option maxRecDepth 100000 in
theorem q9lk_X8_43_X8_puppetAt : q9LKs q9ALLW RX8 (43, 0, 8, q9i_X8_puppetAt) := ⟨q9wk_X8_puppetAt, ⟨by decide, by decide, by decide +kernel⟩, q9goodW _ (List.forall_mem_cons.mpr ⟨(q9inT5 72 rfl rfl), q9wv_X8_puppetAt⟩), _, rfl, rfl⟩
noncomputable def q9i_X8_jointsOf : q9INST := (yX8_jointsOf, cX8_jointsOf, 3, (some .int), (2, 22, 0, 0), q9dcQ 0x100000000000000000503000000000000000200010200000201000100020ffffffffe0fffffffff0000100200000003, q9dcP 0x1000001020000000200000005040000000000000002000102000301001800000ffffffffe0fffffffff000010020000000401, [], [], [])
noncomputable def q9e_X8_jointsOf : q9EN := (q9TBL, q9fs_X8, q9ps_X8, [], [(43, 0, 8, q9i_X8_puppetAt)], [], (2, 22, 0, 0), 3, [], [], [])
noncomputable def q9cu_X8_jointsOf : List q9CUT := []
set_option maxRecDepth 100000 in
set_option maxHeartbeats 4000000 in
theorem q9c_X8_jointsOf (l : Launch) (hst : l.stackTraces = false) : q9CON O l q9TBL q9ALLW q9i_X8_jointsOf := q9con_of (q := q9i_X8_jointsOf) (n := q9e_X8_jointsOf) (K := []) (K2 := []) (cuts := q9cu_X8_jointsOf) (f := 23) hst (by decide +kernel) (fun h => absurd rfl h) ⟨q9goodA, q9fs_X8_ok, q9ps_X8_ok, (List.forall_mem_cons.mpr ⟨⟨⟨q9c_X8_puppetAt l hst, q9lk_X8_43_X8_puppetAt⟩, rfl⟩, (fun _ h => absurd h List.not_mem_nil)⟩), (fun _ h => absurd h List.not_mem_nil), q9kas_ok, (fun _ h => absurd h List.not_mem_nil), (fun _ h => absurd h List.not_mem_nil), (fun _ h => absurd h List.not_mem_nil)⟩ rfl rfl rfl (by decide +kernel)
noncomputable def q9i_X8_shotAt : q9INST := (yX8_shotAt, cX8_shotAt, 2, (some (.object "PuppetFilm$Shot")), (1, 1, 0, 0), q9dcQ 0x100000000000000000503000000000000000200010200000201000100020ffffffffe0fffffffff0000100200000003, q9dcP 0x100000102000000020000000504000000000000000200010200030100000e031600000010020000000400000001000001020000000200000005040000000000000002000102000301000000040ffffffffe0fffffffff000010020000000402, [], [], [])
noncomputable def q9e_X8_shotAt : q9EN := (q9TBL, q9fs_X8, q9ps_X8, [], [], [], (1, 1, 0, 0), 2, [], [], [])
noncomputable def q9cu_X8_shotAt : List q9CUT := []
set_option maxRecDepth 100000 in
set_option maxHeartbeats 4000000 in
theorem q9c_X8_shotAt (l : Launch) (hst : l.stackTraces = false) : q9CON O l q9TBL q9ALLW q9i_X8_shotAt := q9con_of (q := q9i_X8_shotAt) (n := q9e_X8_shotAt) (K := []) (K2 := []) (cuts := q9cu_X8_shotAt) (f := 22) hst (by decide +kernel) (fun h => absurd rfl h) ⟨q9goodA, q9fs_X8_ok, q9ps_X8_ok, (fun _ h => absurd h List.not_mem_nil), (fun _ h => absurd h List.not_mem_nil), q9kas_ok, (fun _ h => absurd h List.not_mem_nil), (fun _ h => absurd h List.not_mem_nil), (fun _ h => absurd h List.not_mem_nil)⟩ rfl rfl rfl (by decide +kernel)
set_option maxRecDepth 100000 in
theorem q9lk_X8_53_X11_entry_k154 : q9LKs q9ALLW RX8 (53, 2, 0, q9i_X11_entry_k154) := ⟨q9wk_X11_entry, ⟨by decide, by decide, by decide +kernel⟩, List.mem_of_getElem? (i := 5) rfl, q9goodW _ q9wv_X11_entry⟩
noncomputable def q9i_X8_mouthFor : q9INST := (yX8_mouthFor, cX8_mouthFor, 2, (some .int), (2, 23, 0, 0), q9dcQ 0x100000000000000000503000000000000000200010200000201000100020ffffffffe0fffffffff0000100200000003, q9dcP 0x1000001020000000200000005040000000000000002000102000301000ffffffffe0fffffffff000ffffffffe0fffffffff000010020000000401, [], [], [])
noncomputable def q9e_X8_mouthFor : q9EN := (q9TBL, q9fs_X8, q9ps_X8, [], [], [(53, 2, 0, q9i_X11_entry_k154)], (2, 23, 0, 0), 2, [], [], [])
noncomputable def q9cu_X8_mouthFor : List q9CUT := []
set_option maxRecDepth 100000 in
set_option maxHeartbeats 4000000 in
theorem q9c_X8_mouthFor (l : Launch) (hst : l.stackTraces = false) : q9CON O l q9TBL q9ALLW q9i_X8_mouthFor := q9con_of (q := q9i_X8_mouthFor) (n := q9e_X8_mouthFor) (K := []) (K2 := []) (cuts := q9cu_X8_mouthFor) (f := 13) hst (by decide +kernel) (fun h => absurd rfl h) ⟨q9goodA, q9fs_X8_ok, q9ps_X8_ok, (fun _ h => absurd h List.not_mem_nil), (List.forall_mem_cons.mpr ⟨⟨⟨q9c_X11_entry_k154 l hst, q9lk_X8_53_X11_entry_k154⟩, by decide⟩, (fun _ h => absurd h List.not_mem_nil)⟩), q9kas_ok, (fun _ h => absurd h List.not_mem_nil), (fun _ h => absurd h List.not_mem_nil), (fun _ h => absurd h List.not_mem_nil)⟩ rfl rfl rfl (by decide +kernel)
set_option maxRecDepth 100000 in
theorem q9lk_X8_53_X11_entry_k156 : q9LKs q9ALLW RX8 (53, 2, 0, q9i_X11_entry_k156) := ⟨q9wk_X11_entry, ⟨by decide, by decide, by decide +kernel⟩, List.mem_of_getElem? (i := 5) rfl, q9goodW _ q9wv_X11_entry⟩
noncomputable def q9i_X8_dressOf : q9INST := (yX8_dressOf, cX8_dressOf, 2, (some .int), (2, 23, 0, 0), q9dcQ 0x100000000000000000503000000000000000200010200000201000100020ffffffffe0fffffffff0000100200000003, q9dcP 0x1000001020000000200000005040000000000000002000102000301000ffffffffe0fffffffff000ffffffffe0fffffffff000010020000000401, [], [], [])
noncomputable def q9e_X8_dressOf : q9EN := (q9TBL, q9fs_X8, q9ps_X8, [], [], [(53, 2, 0, q9i_X11_entry_k156)], (2, 23, 0, 0), 2, [], [], [])
noncomputable def q9cu_X8_dressOf : List q9CUT := []
set_option maxRecDepth 100000 in
set_option maxHeartbeats 4000000 in
theorem q9c_X8_dressOf (l : Launch) (hst : l.stackTraces = false) : q9CON O l q9TBL q9ALLW q9i_X8_dressOf := q9con_of (q := q9i_X8_dressOf) (n := q9e_X8_dressOf) (K := []) (K2 := []) (cuts := q9cu_X8_dressOf) (f := 11) hst (by decide +kernel) (fun h => absurd rfl h) ⟨q9goodA, q9fs_X8_ok, q9ps_X8_ok, (fun _ h => absurd h List.not_mem_nil), (List.forall_mem_cons.mpr ⟨⟨⟨q9c_X11_entry_k156 l hst, q9lk_X8_53_X11_entry_k156⟩, by decide⟩, (fun _ h => absurd h List.not_mem_nil)⟩), q9kas_ok, (fun _ h => absurd h List.not_mem_nil), (fun _ h => absurd h List.not_mem_nil), (fun _ h => absurd h List.not_mem_nil)⟩ rfl rfl rfl (by decide +kernel)
set_option maxRecDepth 100000 in
theorem q9wk_J6_bitCount_0f7a4 : GoodIn q9ALLW [.code yJ6_bitCount_0f7a4 cJ6_bitCount_0f7a4 1 (some .int), .initialized (yJ6_bitCount_0f7a4).cls] := q9goodW _ (List.forall_mem_cons.mpr ⟨(q9inT3 105 rfl rfl), (List.forall_mem_cons.mpr ⟨(q9inT1 27 rfl rfl), (fun _ h => absurd h List.not_mem_nil)⟩)⟩)
set_option maxRecDepth 100000 in
theorem q9wv_J6_bitCount_0f7a4 : ∀ w ∈ ([.static yJ6_bitCount_0f7a4] : List Cond), w ∈ q9ALLW := (List.forall_mem_cons.mpr ⟨(q9inT3 104 rfl rfl), (fun _ h => absurd h List.not_mem_nil)⟩)
set_option maxRecDepth 100000 in
theorem q9lk_X8_60_J6_bitCount_0f7a4 : q9LKs q9ALLW RX8 (60, 1, 0, q9i_J6_bitCount_0f7a4) := ⟨q9wk_J6_bitCount_0f7a4, ⟨by decide, by decide, by decide +kernel⟩, q9goodW _ (List.forall_mem_cons.mpr ⟨(q9inT3 103 rfl rfl), q9wv_J6_bitCount_0f7a4⟩)⟩
noncomputable def q9i_X8_headsOf : q9INST := (yX8_headsOf, cX8_headsOf, 2, (some .int), (2, 26, 0, 0), q9dcQ 0x10000000000000000050300000000000000020001020000020100010002000e0200100200000003, q9dcP 0x1000001020000000200000005040000000000000002000102000301007e0200000e020010020000000401, [], [], [])
noncomputable def q9e_X8_headsOf : q9EN := (q9TBL, q9fs_X8, q9ps_X8, [], [], [(60, 1, 0, q9i_J6_bitCount_0f7a4)], (2, 26, 0, 0), 2, [(66, 1)], [], [])
set_option maxRecDepth 100000 in
theorem q9mt_X8_66 : ∀ w ∈ q9MTw RX8 (66, 1), w ∈ q9ALLW := (List.forall_mem_cons.mpr ⟨(q9inT3 96 rfl rfl), (List.forall_mem_cons.mpr ⟨(q9inT3 97 rfl rfl), (List.forall_mem_cons.mpr ⟨(q9inT1 20 rfl rfl), (List.forall_mem_cons.mpr ⟨(q9inT3 98 rfl rfl), (fun _ h => absurd h List.not_mem_nil)⟩)⟩)⟩)⟩)
noncomputable def q9cu_X8_headsOf : List q9CUT := []
set_option maxRecDepth 100000 in
set_option maxHeartbeats 4000000 in
theorem q9c_X8_headsOf (l : Launch) (hst : l.stackTraces = false) : q9CON O l q9TBL q9ALLW q9i_X8_headsOf := q9con_of (q := q9i_X8_headsOf) (n := q9e_X8_headsOf) (K := []) (K2 := []) (cuts := q9cu_X8_headsOf) (f := 11) hst (by decide +kernel) (fun h => absurd rfl h) ⟨q9goodA, q9fs_X8_ok, q9ps_X8_ok, (fun _ h => absurd h List.not_mem_nil), (List.forall_mem_cons.mpr ⟨⟨⟨q9c_J6_bitCount_0f7a4 l hst, q9lk_X8_60_J6_bitCount_0f7a4⟩, by decide⟩, (fun _ h => absurd h List.not_mem_nil)⟩), q9kas_ok, (fun _ h => absurd h List.not_mem_nil), (fun _ h => absurd h List.not_mem_nil), (List.forall_mem_cons.mpr ⟨q9mt_X8_66, (fun _ h => absurd h List.not_mem_nil)⟩)⟩ rfl rfl rfl (by decide +kernel)
set_option maxRecDepth 100000 in
theorem q9lk_X8_53_X11_entry_k155 : q9LKs q9ALLW RX8 (53, 2, 0, q9i_X11_entry_k155) := ⟨q9wk_X11_entry, ⟨by decide, by decide, by decide +kernel⟩, List.mem_of_getElem? (i := 5) rfl, q9goodW _ q9wv_X11_entry⟩
noncomputable def q9i_X8_rateOf : q9INST := (yX8_rateOf, cX8_rateOf, 2, (some .int), (2, 26, 0, 0), q9dcQ 0x100000000000000000503000000000000000200010200000201000100020ffffffffe0fffffffff0000100200000003, q9dcP 0x1000001020000000200000005040000000000000002000102000301000ffffffffe02000ffffffffe0fffffffff000010020000000401, [], [], [])
noncomputable def q9e_X8_rateOf : q9EN := (q9TBL, q9fs_X8, q9ps_X8, [], [], [(53, 2, 0, q9i_X11_entry_k155)], (2, 26, 0, 0), 2, [(66, 1)], [], [])
noncomputable def q9cu_X8_rateOf : List q9CUT := []
set_option maxRecDepth 100000 in
set_option maxHeartbeats 4000000 in
theorem q9c_X8_rateOf (l : Launch) (hst : l.stackTraces = false) : q9CON O l q9TBL q9ALLW q9i_X8_rateOf := q9con_of (q := q9i_X8_rateOf) (n := q9e_X8_rateOf) (K := []) (K2 := []) (cuts := q9cu_X8_rateOf) (f := 13) hst (by decide +kernel) (fun h => absurd rfl h) ⟨q9goodA, q9fs_X8_ok, q9ps_X8_ok, (fun _ h => absurd h List.not_mem_nil), (List.forall_mem_cons.mpr ⟨⟨⟨q9c_X11_entry_k155 l hst, q9lk_X8_53_X11_entry_k155⟩, by decide⟩, (fun _ h => absurd h List.not_mem_nil)⟩), q9kas_ok, (fun _ h => absurd h List.not_mem_nil), (fun _ h => absurd h List.not_mem_nil), (List.forall_mem_cons.mpr ⟨q9mt_X8_66, (fun _ h => absurd h List.not_mem_nil)⟩)⟩ rfl rfl rfl (by decide +kernel)
set_option maxRecDepth 100000 in
theorem q9wk_X8_rateOf : GoodIn q9ALLW [.code yX8_rateOf cX8_rateOf 2 (some .int), .initialized (yX8_rateOf).cls] := q9goodW _ (List.forall_mem_cons.mpr ⟨(q9inT3 95 rfl rfl), (List.forall_mem_cons.mpr ⟨(q9inT1 2 rfl rfl), (fun _ h => absurd h List.not_mem_nil)⟩)⟩)
set_option maxRecDepth 100000 in
theorem q9wv_X8_rateOf : ∀ w ∈ ([.instanceMethod yX8_rateOf, .selects (yX8_rateOf).cls yX8_rateOf yX8_rateOf] : List Cond), w ∈ q9ALLW := (List.forall_mem_cons.mpr ⟨(q9inT3 93 rfl rfl), (List.forall_mem_cons.mpr ⟨(q9inT3 94 rfl rfl), (fun _ h => absurd h List.not_mem_nil)⟩)⟩)
set_option maxRecDepth 100000 in
theorem q9lk_X8_72_X8_rateOf : q9LKs q9ALLW RX8 (72, 0, 8, q9i_X8_rateOf) := ⟨q9wk_X8_rateOf, ⟨by decide, by decide, by decide +kernel⟩, q9goodW _ (List.forall_mem_cons.mpr ⟨(q9inT3 92 rfl rfl), q9wv_X8_rateOf⟩), _, rfl, rfl⟩
set_option maxRecDepth 100000 in
theorem q9wk_X8_headsOf : GoodIn q9ALLW [.code yX8_headsOf cX8_headsOf 2 (some .int), .initialized (yX8_headsOf).cls] := q9goodW _ (List.forall_mem_cons.mpr ⟨(q9inT3 102 rfl rfl), (List.forall_mem_cons.mpr ⟨(q9inT1 2 rfl rfl), (fun _ h => absurd h List.not_mem_nil)⟩)⟩)
set_option maxRecDepth 100000 in
theorem q9wv_X8_headsOf : ∀ w ∈ ([.instanceMethod yX8_headsOf, .selects (yX8_headsOf).cls yX8_headsOf yX8_headsOf] : List Cond), w ∈ q9ALLW := (List.forall_mem_cons.mpr ⟨(q9inT3 100 rfl rfl), (List.forall_mem_cons.mpr ⟨(q9inT3 101 rfl rfl), (fun _ h => absurd h List.not_mem_nil)⟩)⟩)
set_option maxRecDepth 100000 in
theorem q9lk_X8_78_X8_headsOf : q9LKs q9ALLW RX8 (78, 0, 8, q9i_X8_headsOf) := ⟨q9wk_X8_headsOf, ⟨by decide, by decide, by decide +kernel⟩, q9goodW _ (List.forall_mem_cons.mpr ⟨(q9inT3 99 rfl rfl), q9wv_X8_headsOf⟩), _, rfl, rfl⟩
noncomputable def q9i_X8_spanOf : q9INST := (yX8_spanOf, cX8_spanOf, 4, (some .int), (3, 47, 0, 0), q9dcQ 0x200000001000000000000000005040000000000000003000200010300000302000201000100030ffffffffe0fffffffff00000e0200100200000004, q9dcP 0x1000002020000010200000002000000050500000000000000030002000103000401000ffffffffe0fffffffff000ffffffffe0fffffffff00000e020010020000000501, [], [], [])
noncomputable def q9e_X8_spanOf : q9EN := (q9TBL, q9fs_X8, q9ps_X8, [], [(72, 0, 8, q9i_X8_rateOf), (78, 0, 8, q9i_X8_headsOf)], [], (3, 47, 0, 0), 4, [], [], [])
noncomputable def q9cu_X8_spanOf : List q9CUT := []
set_option maxRecDepth 100000 in
set_option maxHeartbeats 4000000 in
theorem q9c_X8_spanOf (l : Launch) (hst : l.stackTraces = false) : q9CON O l q9TBL q9ALLW q9i_X8_spanOf := q9con_of (q := q9i_X8_spanOf) (n := q9e_X8_spanOf) (K := []) (K2 := []) (cuts := q9cu_X8_spanOf) (f := 22) hst (by decide +kernel) (fun h => absurd rfl h) ⟨q9goodA, q9fs_X8_ok, q9ps_X8_ok, (List.forall_mem_cons.mpr ⟨⟨⟨q9c_X8_rateOf l hst, q9lk_X8_72_X8_rateOf⟩, rfl⟩, (List.forall_mem_cons.mpr ⟨⟨⟨q9c_X8_headsOf l hst, q9lk_X8_78_X8_headsOf⟩, rfl⟩, (fun _ h => absurd h List.not_mem_nil)⟩)⟩), (fun _ h => absurd h List.not_mem_nil), q9kas_ok, (fun _ h => absurd h List.not_mem_nil), (fun _ h => absurd h List.not_mem_nil), (fun _ h => absurd h List.not_mem_nil)⟩ rfl rfl rfl (by decide +kernel)
set_option maxRecDepth 100000 in
theorem q9wk_X7_isCast : GoodIn q9ALLW [.code yX7_isCast cX7_isCast 2 (some .boolean), .initialized (yX7_isCast).cls] := q9goodW _ (List.forall_mem_cons.mpr ⟨(q9inT6 175 rfl rfl), (List.forall_mem_cons.mpr ⟨(q9inT1 26 rfl rfl), (fun _ h => absurd h List.not_mem_nil)⟩)⟩)
set_option maxRecDepth 100000 in
theorem q9wv_X7_isCast : ∀ w ∈ ([.instanceMethod yX7_isCast, .selects (yX7_isCast).cls yX7_isCast yX7_isCast] : List Cond), w ∈ q9ALLW := (List.forall_mem_cons.mpr ⟨(q9inT6 173 rfl rfl), (List.forall_mem_cons.mpr ⟨(q9inT6 174 rfl rfl), (fun _ h => absurd h List.not_mem_nil)⟩)⟩)
set_option maxRecDepth 100000 in
theorem q9lk_X8_82_X7_isCast : q9LKs q9ALLW RX8 (82, 0, 7, q9i_X7_isCast) := ⟨q9wk_X7_isCast, ⟨by decide, by decide, by decide +kernel⟩, q9goodW _ (List.forall_mem_cons.mpr ⟨(q9inT6 172 rfl rfl), q9wv_X7_isCast⟩), _, rfl, rfl⟩
set_option maxRecDepth 100000 in
theorem q9lk_X8_86_X5_strained : q9LKs q9ALLW RX8 (86, 0, 5, q9i_X5_strained) := ⟨q9wk_X5_strained, ⟨by decide, by decide, by decide +kernel⟩, q9goodW _ (List.forall_mem_cons.mpr ⟨(q9inT6 176 rfl rfl), q9wv_X5_strained⟩), _, rfl, rfl⟩
noncomputable def q9i_X8_breachIn : q9INST := (yX8_breachIn, cX8_breachIn, 6, (some .int), (4, 72, 0, 0), q9dcQ 0x200000001000000000000000005040000000000000003000200010300000302000201000100030ffffffffe0fffffffff00000e0200100200000004, q9dcP 0x10000020200000102000000020000000505000000000000000300020001030004010001be01000ffffffffe0fffffffff00000e020010020000000501, [], [], [])
noncomputable def q9e_X8_breachIn : q9EN := (q9TBL, q9fs_X8, q9ps_X8, [], [(82, 0, 7, q9i_X7_isCast), (86, 0, 5, q9i_X5_strained)], [], (4, 72, 0, 0), 6, [], [], [])
noncomputable def q9cu_X8_breachIn : List q9CUT := q9dcKs 0xc9abc00001004020c9abc0000030000030000000200000001000000000000000005050000000000000003000200010300000403000302000201000100041000000ffffffffe0fffffffff00000e02001002000000050201
set_option maxRecDepth 100000 in
set_option maxHeartbeats 4000000 in
theorem q9c_X8_breachIn (l : Launch) (hst : l.stackTraces = false) : q9CON O l q9TBL q9ALLW q9i_X8_breachIn := q9con_of (q := q9i_X8_breachIn) (n := q9e_X8_breachIn) (K := []) (K2 := []) (cuts := q9cu_X8_breachIn) (f := 57) hst (by decide +kernel) (fun h => absurd rfl h) ⟨q9goodA, q9fs_X8_ok, q9ps_X8_ok, (List.forall_mem_cons.mpr ⟨⟨⟨q9c_X7_isCast l hst, q9lk_X8_82_X7_isCast⟩, rfl⟩, (List.forall_mem_cons.mpr ⟨⟨⟨q9c_X5_strained l hst, q9lk_X8_86_X5_strained⟩, rfl⟩, (fun _ h => absurd h List.not_mem_nil)⟩)⟩), (fun _ h => absurd h List.not_mem_nil), q9kas_ok, (fun _ h => absurd h List.not_mem_nil), (fun _ h => absurd h List.not_mem_nil), (fun _ h => absurd h List.not_mem_nil)⟩ rfl rfl rfl (by decide +kernel)
set_option maxRecDepth 100000 in
theorem q9lk_X8_90_X7_isTied : q9LKs q9ALLW RX8 (90, 0, 7, q9i_X7_isTied) := ⟨q9wk_X7_isTied, ⟨by decide, by decide, by decide +kernel⟩, q9goodW _ (List.forall_mem_cons.mpr ⟨(q9inT6 191 rfl rfl), q9wv_X7_isTied⟩), _, rfl, rfl⟩
set_option maxRecDepth 100000 in
theorem q9lk_X8_94_X5_upright : q9LKs q9ALLW RX8 (94, 0, 5, q9i_X5_upright) := ⟨q9wk_X5_upright, ⟨by decide, by decide, by decide +kernel⟩, q9goodW _ (List.forall_mem_cons.mpr ⟨(q9inT6 192 rfl rfl), q9wv_X5_upright⟩), _, rfl, rfl⟩
noncomputable def q9i_X8_fallenIn : q9INST := (yX8_fallenIn, cX8_fallenIn, 5, (some .int), (5, 100, 0, 0), q9dcQ 0x200000001000000000000000005040000000000000003000200010300000302000201000100030ffffffffe0fffffffff00000e0200100200000004, q9dcP 0x1000002020000010200000002000000050500000000000000030002000103000401000e01000ffffffffe0fffffffff00000e020010020000000501, [], [100134, 100135], [])
noncomputable def q9e_X8_fallenIn : q9EN := (q9TBL, q9fs_X8, q9ps_X8, [100134, 100135], [(82, 0, 7, q9i_X7_isCast), (90, 0, 7, q9i_X7_isTied), (94, 0, 5, q9i_X5_upright)], [], (5, 100, 0, 0), 5, [], [], [])
noncomputable def q9cu_X8_fallenIn : List q9CUT := q9dcKs 0xc9abc00001004020c9abc0000030000030000000200000001000000000000000005050000000000000003000200010300000403000302000201000100041000000ffffffffe0fffffffff00000e02001002000000050201
set_option maxRecDepth 100000 in
set_option maxHeartbeats 4000000 in
theorem q9c_X8_fallenIn (l : Launch) (hst : l.stackTraces = false) : q9CON O l q9TBL q9ALLW q9i_X8_fallenIn := q9con_of (q := q9i_X8_fallenIn) (n := q9e_X8_fallenIn) (K := []) (K2 := []) (cuts := q9cu_X8_fallenIn) (f := 47) hst (by decide +kernel) (fun h => absurd rfl h) ⟨q9goodA, q9fs_X8_ok, q9ps_X8_ok, (List.forall_mem_cons.mpr ⟨⟨⟨q9c_X7_isCast l hst, q9lk_X8_82_X7_isCast⟩, rfl⟩, (List.forall_mem_cons.mpr ⟨⟨⟨q9c_X7_isTied l hst, q9lk_X8_90_X7_isTied⟩, rfl⟩, (List.forall_mem_cons.mpr ⟨⟨⟨q9c_X5_upright l hst, q9lk_X8_94_X5_upright⟩, rfl⟩, (fun _ h => absurd h List.not_mem_nil)⟩)⟩)⟩), (fun _ h => absurd h List.not_mem_nil), q9kas_ok, (fun _ h => absurd h List.not_mem_nil), (fun _ h => absurd h List.not_mem_nil), (fun _ h => absurd h List.not_mem_nil)⟩ rfl rfl rfl (by decide +kernel)
set_option maxRecDepth 100000 in
theorem q9lk_X8_119_X7_voiceLetter : q9LKs q9ALLW RX8 (119, 0, 7, q9i_X7_voiceLetter) := ⟨q9wk_X7_voiceLetter, ⟨by decide, by decide, by decide +kernel⟩, q9goodW _ (List.forall_mem_cons.mpr ⟨(q9inT6 214 rfl rfl), q9wv_X7_voiceLetter⟩), _, rfl, rfl⟩
set_option maxRecDepth 100000 in
theorem q9wk_X8_mouthFor : GoodIn q9ALLW [.code yX8_mouthFor cX8_mouthFor 2 (some .int), .initialized (yX8_mouthFor).cls] := q9goodW _ (List.forall_mem_cons.mpr ⟨(q9inT6 113 rfl rfl), (List.forall_mem_cons.mpr ⟨(q9inT1 2 rfl rfl), (fun _ h => absurd h List.not_mem_nil)⟩)⟩)
set_option maxRecDepth 100000 in
theorem q9wv_X8_mouthFor : ∀ w ∈ ([.instanceMethod yX8_mouthFor, .selects (yX8_mouthFor).cls yX8_mouthFor yX8_mouthFor] : List Cond), w ∈ q9ALLW := (List.forall_mem_cons.mpr ⟨(q9inT6 111 rfl rfl), (List.forall_mem_cons.mpr ⟨(q9inT6 112 rfl rfl), (fun _ h => absurd h List.not_mem_nil)⟩)⟩)
set_option maxRecDepth 100000 in
theorem q9lk_X8_122_X8_mouthFor : q9LKs q9ALLW RX8 (122, 0, 8, q9i_X8_mouthFor) := ⟨q9wk_X8_mouthFor, ⟨by decide, by decide, by decide +kernel⟩, q9goodW _ (List.forall_mem_cons.mpr ⟨(q9inT6 215 rfl rfl), q9wv_X8_mouthFor⟩), _, rfl, rfl⟩
noncomputable def q9i_X8_sameMouths : q9INST := (yX8_sameMouths, cX8_sameMouths, 5, (some .boolean), (3, 44, 0, 0), q9dcQ 0x300000002000000010000000000000000050500000000000000040003000200010400000403000302000201000100040ffffffffe0fffffffff000ffffffffe0fffffffff00000e0200100200000005, q9dcP 0x2020300000302000002020000010200000002000000050600000000000005020201000400030002000104020001007e00000ffffffffe0fffffffff000ffffffffe0fffffffff00000e02001002000000060002020300000302000002020000010200000002000000050600000000000005020201000400030002000104000001007e02000ffffffffe0fffffffff000ffffffffe0fffffffff00000e020010020000000602, [], [], [])
noncomputable def q9e_X8_sameMouths : q9EN := (q9TBL, q9fs_X8, q9ps_X8, [], [(119, 0, 7, q9i_X7_voiceLetter), (122, 0, 8, q9i_X8_mouthFor)], [], (3, 44, 0, 0), 5, [], [], [])
noncomputable def q9cu_X8_sameMouths : List q9CUT := q9dcKs 0xc9aba000001a005020c9aba00000300000400000003000000020000000100000000000000000506000000000000000400030002000104000005040004030003020002010001000501a000000ffffffffe0fffffffff000ffffffffe0fffffffff00000e02001002000000060301
set_option maxRecDepth 100000 in
set_option maxHeartbeats 4000000 in
theorem q9c_X8_sameMouths (l : Launch) (hst : l.stackTraces = false) : q9CON O l q9TBL q9ALLW q9i_X8_sameMouths := q9con_of (q := q9i_X8_sameMouths) (n := q9e_X8_sameMouths) (K := []) (K2 := []) (cuts := q9cu_X8_sameMouths) (f := 30) hst (by decide +kernel) (fun h => absurd rfl h) ⟨q9goodA, q9fs_X8_ok, q9ps_X8_ok, (List.forall_mem_cons.mpr ⟨⟨⟨q9c_X7_voiceLetter l hst, q9lk_X8_119_X7_voiceLetter⟩, rfl⟩, (List.forall_mem_cons.mpr ⟨⟨⟨q9c_X8_mouthFor l hst, q9lk_X8_122_X8_mouthFor⟩, rfl⟩, (fun _ h => absurd h List.not_mem_nil)⟩)⟩), (fun _ h => absurd h List.not_mem_nil), q9kas_ok, (fun _ h => absurd h List.not_mem_nil), (fun _ h => absurd h List.not_mem_nil), (fun _ h => absurd h List.not_mem_nil)⟩ rfl rfl rfl (by decide +kernel)
set_option maxRecDepth 100000 in
theorem q9lk_X8_53_X11_entry_k148 : q9LKs q9ALLW RX8 (53, 2, 0, q9i_X11_entry_k148) := ⟨q9wk_X11_entry, ⟨by decide, by decide, by decide +kernel⟩, List.mem_of_getElem? (i := 5) rfl, q9goodW _ q9wv_X11_entry⟩
set_option maxRecDepth 100000 in
theorem q9lk_X8_53_X11_entry_k149 : q9LKs q9ALLW RX8 (53, 2, 0, q9i_X11_entry_k149) := ⟨q9wk_X11_entry, ⟨by decide, by decide, by decide +kernel⟩, List.mem_of_getElem? (i := 5) rfl, q9goodW _ q9wv_X11_entry⟩
set_option maxRecDepth 100000 in
theorem q9wk_X7_axisOf : GoodIn q9ALLW [.code yX7_axisOf cX7_axisOf 3 (some .int), .initialized (yX7_axisOf).cls] := q9goodW _ (List.forall_mem_cons.mpr ⟨(q9inT6 124 rfl rfl), (List.forall_mem_cons.mpr ⟨(q9inT1 26 rfl rfl), (fun _ h => absurd h List.not_mem_nil)⟩)⟩)
set_option maxRecDepth 100000 in
theorem q9wv_X7_axisOf : ∀ w ∈ ([.instanceMethod yX7_axisOf, .selects (yX7_axisOf).cls yX7_axisOf yX7_axisOf] : List Cond), w ∈ q9ALLW := (List.forall_mem_cons.mpr ⟨(q9inT6 122 rfl rfl), (List.forall_mem_cons.mpr ⟨(q9inT6 123 rfl rfl), (fun _ h => absurd h List.not_mem_nil)⟩)⟩)
set_option maxRecDepth 100000 in
theorem q9lk_X8_104_X7_axisOf : q9LKs q9ALLW RX8 (104, 0, 7, q9i_X7_axisOf) := ⟨q9wk_X7_axisOf, ⟨by decide, by decide, by decide +kernel⟩, q9goodW _ (List.forall_mem_cons.mpr ⟨(q9inT6 208 rfl rfl), q9wv_X7_axisOf⟩), _, rfl, rfl⟩
set_option maxRecDepth 100000 in
theorem q9lk_X8_110_X7_trackStep : q9LKs q9ALLW RX8 (110, 0, 7, q9i_X7_trackStep) := ⟨q9wk_X7_trackStep, ⟨by decide, by decide, by decide +kernel⟩, q9goodW _ (List.forall_mem_cons.mpr ⟨(q9inT6 209 rfl rfl), q9wv_X7_trackStep⟩), _, rfl, rfl⟩
set_option maxRecDepth 100000 in
theorem q9wk_X8_sameMouths : GoodIn q9ALLW [.code yX8_sameMouths cX8_sameMouths 5 (some .boolean), .initialized (yX8_sameMouths).cls] := q9goodW _ (List.forall_mem_cons.mpr ⟨(q9inT6 213 rfl rfl), (List.forall_mem_cons.mpr ⟨(q9inT1 2 rfl rfl), (fun _ h => absurd h List.not_mem_nil)⟩)⟩)
set_option maxRecDepth 100000 in
theorem q9wv_X8_sameMouths : ∀ w ∈ ([.instanceMethod yX8_sameMouths, .selects (yX8_sameMouths).cls yX8_sameMouths yX8_sameMouths] : List Cond), w ∈ q9ALLW := (List.forall_mem_cons.mpr ⟨(q9inT6 212 rfl rfl), (List.forall_mem_cons.mpr ⟨(q9inW 46 rfl rfl), (fun _ h => absurd h List.not_mem_nil)⟩)⟩)
set_option maxRecDepth 100000 in
theorem q9lk_X8_113_X8_sameMouths : q9LKs q9ALLW RX8 (113, 0, 8, q9i_X8_sameMouths) := ⟨q9wk_X8_sameMouths, ⟨by decide, by decide, by decide +kernel⟩, q9goodW _ (List.forall_mem_cons.mpr ⟨(q9inT6 210 rfl rfl), q9wv_X8_sameMouths⟩), _, rfl, rfl⟩
noncomputable def q9i_X8_sameFrames : q9INST := (yX8_sameFrames, cX8_sameFrames, 5, (some .boolean), (4, 68, 0, 0), q9dcQ 0x300000002000000010000000000000000050500000000000000040003000200010400000403000302000201000100040ffffffffe0fffffffff000ffffffffe0fffffffff00000e0200100200000005, q9dcP 0x102030002020300000302000002020000010200000002000000050700000000000006010200050202020004000300020001040200010001c800007e00000ffffffffe0fffffffff000ffffffffe0fffffffff00000e0200100200000007000003020000020200000102000000020000000505000000000000000400030002000104000001000ffffffffe0fffffffff000ffffffffe0fffffffff00000e020010020000000502, [], [], [])
noncomputable def q9e_X8_sameFrames : q9EN := (q9TBL, q9fs_X8, q9ps_X8, [], [(104, 0, 7, q9i_X7_axisOf), (110, 0, 7, q9i_X7_trackStep), (113, 0, 8, q9i_X8_sameMouths)], [(53, 2, 0, q9i_X11_entry_k148), (53, 2, 0, q9i_X11_entry_k149)], (4, 68, 0, 0), 5, [], [], [])
noncomputable def q9cu_X8_sameFrames : List q9CUT := q9dcKs 0xc999e000001c805020c999e00000300000400000003000000020000000100000000000000000506000000000000000400030002000104000005040004030003020002010001000501c800000ffffffffe0fffffffff000ffffffffe0fffffffff00000e0200100200000006510c99e200000605020c99e20000030000040000000300000002000000010000000000000000050600000000000000040003000200010400000504000403000302000201000100050600000ffffffffe0fffffffff000ffffffffe0fffffffff00000e02001002000000062f02
set_option maxRecDepth 100000 in
set_option maxHeartbeats 4000000 in
theorem q9c_X8_sameFrames (l : Launch) (hst : l.stackTraces = false) : q9CON O l q9TBL q9ALLW q9i_X8_sameFrames := q9con_of (q := q9i_X8_sameFrames) (n := q9e_X8_sameFrames) (K := []) (K2 := []) (cuts := q9cu_X8_sameFrames) (f := 75) hst (by decide +kernel) (fun h => absurd rfl h) ⟨q9goodA, q9fs_X8_ok, q9ps_X8_ok, (List.forall_mem_cons.mpr ⟨⟨⟨q9c_X7_axisOf l hst, q9lk_X8_104_X7_axisOf⟩, rfl⟩, (List.forall_mem_cons.mpr ⟨⟨⟨q9c_X7_trackStep l hst, q9lk_X8_110_X7_trackStep⟩, rfl⟩, (List.forall_mem_cons.mpr ⟨⟨⟨q9c_X8_sameMouths l hst, q9lk_X8_113_X8_sameMouths⟩, rfl⟩, (fun _ h => absurd h List.not_mem_nil)⟩)⟩)⟩), (List.forall_mem_cons.mpr ⟨⟨⟨q9c_X11_entry_k148 l hst, q9lk_X8_53_X11_entry_k148⟩, by decide⟩, (List.forall_mem_cons.mpr ⟨⟨⟨q9c_X11_entry_k149 l hst, q9lk_X8_53_X11_entry_k149⟩, by decide⟩, (fun _ h => absurd h List.not_mem_nil)⟩)⟩), q9kas_ok, (fun _ h => absurd h List.not_mem_nil), (fun _ h => absurd h List.not_mem_nil), (fun _ h => absurd h List.not_mem_nil)⟩ rfl rfl rfl (by decide +kernel)
set_option maxRecDepth 100000 in
theorem q9wk_X8_sameFrames : GoodIn q9ALLW [.code yX8_sameFrames cX8_sameFrames 5 (some .boolean), .initialized (yX8_sameFrames).cls] := q9goodW _ (List.forall_mem_cons.mpr ⟨(q9inT6 207 rfl rfl), (List.forall_mem_cons.mpr ⟨(q9inT1 2 rfl rfl), (fun _ h => absurd h List.not_mem_nil)⟩)⟩)
set_option maxRecDepth 100000 in
theorem q9wv_X8_sameFrames : ∀ w ∈ ([.instanceMethod yX8_sameFrames, .selects (yX8_sameFrames).cls yX8_sameFrames yX8_sameFrames] : List Cond), w ∈ q9ALLW := (List.forall_mem_cons.mpr ⟨(q9inT6 205 rfl rfl), (List.forall_mem_cons.mpr ⟨(q9inT6 206 rfl rfl), (fun _ h => absurd h List.not_mem_nil)⟩)⟩)
set_option maxRecDepth 100000 in
theorem q9lk_X8_125_X8_sameFrames : q9LKs q9ALLW RX8 (125, 0, 8, q9i_X8_sameFrames) := ⟨q9wk_X8_sameFrames, ⟨by decide, by decide, by decide +kernel⟩, q9goodW _ (List.forall_mem_cons.mpr ⟨(q9inT7 138 rfl rfl), q9wv_X8_sameFrames⟩), _, rfl, rfl⟩
noncomputable def q9i_X8_restartFor : q9INST := (yX8_restartFor, cX8_restartFor, 4, (some .int), (5, 92, 0, 0), q9dcQ 0x200000001000000000000000005040000000000000003000200010300000302000201000100030ffffffffe0fffffffff00000e0200100200000004, q9dcP 0x1000002020000010200000002000000050500000000000000030002000103000401000ffffffffe00000ffffffffe0fffffffff00000e020010020000000501, [], [], [])
noncomputable def q9e_X8_restartFor : q9EN := (q9TBL, q9fs_X8, q9ps_X8, [], [(125, 0, 8, q9i_X8_sameFrames)], [], (5, 92, 0, 0), 4, [], [], [])
noncomputable def q9cu_X8_restartFor : List q9CUT := q9dcKs 0xc9abc0000108080808003010c9abc0000030000020200000300000001000000000000000005050000000000000004000200010300000303000201000100030ffffffffe0fffffffff000ffffffffe0fffffffff00000e02001002000000050201
set_option maxRecDepth 100000 in
set_option maxHeartbeats 4000000 in
theorem q9c_X8_restartFor (l : Launch) (hst : l.stackTraces = false) : q9CON O l q9TBL q9ALLW q9i_X8_restartFor := q9con_of (q := q9i_X8_restartFor) (n := q9e_X8_restartFor) (K := []) (K2 := []) (cuts := q9cu_X8_restartFor) (f := 24) hst (by decide +kernel) (fun h => absurd rfl h) ⟨q9goodA, q9fs_X8_ok, q9ps_X8_ok, (List.forall_mem_cons.mpr ⟨⟨⟨q9c_X8_sameFrames l hst, q9lk_X8_125_X8_sameFrames⟩, rfl⟩, (fun _ h => absurd h List.not_mem_nil)⟩), (fun _ h => absurd h List.not_mem_nil), q9kas_ok, (fun _ h => absurd h List.not_mem_nil), (fun _ h => absurd h List.not_mem_nil), (fun _ h => absurd h List.not_mem_nil)⟩ rfl rfl rfl (by decide +kernel)
noncomputable def q9i_X8_kitsOf : q9INST := (yX8_kitsOf, cX8_kitsOf, 5, (some .int), (1, 1, 0, 0), q9dcQ 0x10000000000000000050300000000000000020001020000020100010002000e0200100200000003, q9dcP 0x1000001020000000200000005040000000000000002000102000301000ffffffffe0fffffffff00000e020010020000000401, [], [], [])
noncomputable def q9e_X8_kitsOf : q9EN := (q9TBL, q9fs_X8, q9ps_X8, [], [], [], (1, 1, 0, 0), 5, [], [], [])
noncomputable def q9cu_X8_kitsOf : List q9CUT := q9dcKs 0xc9ab800001004020c9ab8000003000003000000020000000100000000000000000505000000000000000200010200000403000302000201000100041000000ffffffffe0fffffffff00000e02001002000000050401
set_option maxRecDepth 100000 in
set_option maxHeartbeats 4000000 in
theorem q9c_X8_kitsOf (l : Launch) (hst : l.stackTraces = false) : q9CON O l q9TBL q9ALLW q9i_X8_kitsOf := q9con_of (q := q9i_X8_kitsOf) (n := q9e_X8_kitsOf) (K := []) (K2 := []) (cuts := q9cu_X8_kitsOf) (f := 41) hst (by decide +kernel) (fun h => absurd rfl h) ⟨q9goodA, q9fs_X8_ok, q9ps_X8_ok, (fun _ h => absurd h List.not_mem_nil), (fun _ h => absurd h List.not_mem_nil), q9kas_ok, (fun _ h => absurd h List.not_mem_nil), (fun _ h => absurd h List.not_mem_nil), (fun _ h => absurd h List.not_mem_nil)⟩ rfl rfl rfl (by decide +kernel)
set_option maxRecDepth 100000 in
theorem q9wk_X8_kitsOf : GoodIn q9ALLW [.code yX8_kitsOf cX8_kitsOf 5 (some .int), .initialized (yX8_kitsOf).cls] := q9goodW _ (List.forall_mem_cons.mpr ⟨(q9inT3 120 rfl rfl), (List.forall_mem_cons.mpr ⟨(q9inT1 2 rfl rfl), (fun _ h => absurd h List.not_mem_nil)⟩)⟩)
set_option maxRecDepth 100000 in
theorem q9wv_X8_kitsOf : ∀ w ∈ ([.instanceMethod yX8_kitsOf, .selects (yX8_kitsOf).cls yX8_kitsOf yX8_kitsOf] : List Cond), w ∈ q9ALLW := (List.forall_mem_cons.mpr ⟨(q9inT3 119 rfl rfl), (List.forall_mem_cons.mpr ⟨(q9inW 5 rfl rfl), (fun _ h => absurd h List.not_mem_nil)⟩)⟩)
set_option maxRecDepth 100000 in
theorem q9lk_X8_131_X8_kitsOf : q9LKs q9ALLW RX8 (131, 0, 8, q9i_X8_kitsOf) := ⟨q9wk_X8_kitsOf, ⟨by decide, by decide, by decide +kernel⟩, q9goodW _ (List.forall_mem_cons.mpr ⟨(q9inT3 117 rfl rfl), q9wv_X8_kitsOf⟩), _, rfl, rfl⟩
noncomputable def q9i_X8_collide : q9INST := (yX8_collide, cX8_collide, 3, (some .boolean), (2, 25, 0, 0), q9dcQ 0x20000000100000000000000000504000000000000000300020001030000030200020100010003000e02000e0200100200000004, q9dcP 0x50203000503030000020200000102000000020000000506000000000000050502000405030200030002000103020001000ffffffffe0fffffffff000ffffffffe0fffffffff00000e02000e02001002000000060005020300050303000302030003030300000202000001020000000200000005080000000000000705020006050300050302000403030400030002000103000001000ffffffffe0fffffffff000ffffffffe0fffffffff000ffffffffe0fffffffff000ffffffffe0fffffffff00000e02000e020010020000000802, [], [], [])
noncomputable def q9e_X8_collide : q9EN := (q9TBL, q9fs_X8, q9ps_X8, [], [(131, 0, 8, q9i_X8_kitsOf)], [], (2, 25, 0, 0), 3, [], [], [])
noncomputable def q9cu_X8_collide : List q9CUT := []
set_option maxRecDepth 100000 in
set_option maxHeartbeats 4000000 in
theorem q9c_X8_collide (l : Launch) (hst : l.stackTraces = false) : q9CON O l q9TBL q9ALLW q9i_X8_collide := q9con_of (q := q9i_X8_collide) (n := q9e_X8_collide) (K := []) (K2 := []) (cuts := q9cu_X8_collide) (f := 35) hst (by decide +kernel) (fun h => absurd rfl h) ⟨q9goodA, q9fs_X8_ok, q9ps_X8_ok, (List.forall_mem_cons.mpr ⟨⟨⟨q9c_X8_kitsOf l hst, q9lk_X8_131_X8_kitsOf⟩, rfl⟩, (fun _ h => absurd h List.not_mem_nil)⟩), (fun _ h => absurd h List.not_mem_nil), q9kas_ok, (fun _ h => absurd h List.not_mem_nil), (fun _ h => absurd h List.not_mem_nil), (fun _ h => absurd h List.not_mem_nil)⟩ rfl rfl rfl (by decide +kernel)
noncomputable def q9i_X3_addRow : q9INST := (yX3_addRow, cX3_addRow, 4, (some .int), (1, 1, 0, 0), q9dcQ 0x300000002000000010000000000000000050500000000000000040003000200010400000403000302000201000100040ffffffffe0fffffffff000ffffffffe0fffffffff000ffffffffe0fffffffff0000060200000005, q9dcP 0x1000003020000020200000102000000020000000506000000000000000400030002000104000501001801000ffffffffe0fffffffff000ffffffffe0fffffffff000ffffffffe0fffffffff000006020000000601, [], [193, 100115, 100116, 100117], [])
noncomputable def q9e_X3_addRow : q9EN := (q9TBL, q9fs_X3, q9ps_X3, [193, 100115, 100116, 100117], [], [], (1, 1, 0, 0), 4, [], [], [])
noncomputable def q9cu_X3_addRow : List q9CUT := []
set_option maxRecDepth 100000 in
set_option maxHeartbeats 4000000 in
theorem q9c_X3_addRow (l : Launch) (hst : l.stackTraces = false) : q9CON O l q9TBL q9ALLW q9i_X3_addRow := q9con_of (q := q9i_X3_addRow) (n := q9e_X3_addRow) (K := []) (K2 := []) (cuts := q9cu_X3_addRow) (f := 38) hst (by decide +kernel) (fun h => absurd rfl h) ⟨q9goodA, q9fs_X3_ok, q9ps_X3_ok, (fun _ h => absurd h List.not_mem_nil), (fun _ h => absurd h List.not_mem_nil), q9kas_ok, (fun _ h => absurd h List.not_mem_nil), (fun _ h => absurd h List.not_mem_nil), (fun _ h => absurd h List.not_mem_nil)⟩ rfl rfl rfl (by decide +kernel)
set_option maxRecDepth 100000 in
theorem q9lk_X3_41_X11_entry_k115 : q9LKs q9ALLW RX3 (41, 2, 0, q9i_X11_entry_k115) := ⟨q9wk_X11_entry, ⟨by decide, by decide, by decide +kernel⟩, List.mem_of_getElem? (i := 4) rfl, q9goodW _ q9wv_X11_entry⟩
set_option maxRecDepth 100000 in
theorem q9wk_X8_shotAt : GoodIn q9ALLW [.code yX8_shotAt cX8_shotAt 2 (some (.object "PuppetFilm$Shot")), .initialized (yX8_shotAt).cls] := q9goodW _ (List.forall_mem_cons.mpr ⟨(q9inT3 74 rfl rfl), (List.forall_mem_cons.mpr ⟨(q9inT1 2 rfl rfl), (fun _ h => absurd h List.not_mem_nil)⟩)⟩)
set_option maxRecDepth 100000 in
theorem q9wv_X8_shotAt : ∀ w ∈ ([.instanceMethod yX8_shotAt, .selects (yX8_shotAt).cls yX8_shotAt yX8_shotAt] : List Cond), w ∈ q9ALLW := (List.forall_mem_cons.mpr ⟨(q9inT3 72 rfl rfl), (List.forall_mem_cons.mpr ⟨(q9inT3 73 rfl rfl), (fun _ h => absurd h List.not_mem_nil)⟩)⟩)
set_option maxRecDepth 100000 in
theorem q9lk_X3_45_X8_shotAt : q9LKs q9ALLW RX3 (45, 0, 8, q9i_X8_shotAt) := ⟨q9wk_X8_shotAt, ⟨by decide, by decide, by decide +kernel⟩, q9goodW _ (List.forall_mem_cons.mpr ⟨(q9inT3 71 rfl rfl), q9wv_X8_shotAt⟩), _, rfl, rfl⟩
noncomputable def q9i_X3_shotIn : q9INST := (yX3_shotIn, cX3_shotIn, 2, (some (.object "PuppetFilm$Shot")), (2, 23, 0, 0), q9dcQ 0x100000000000000000503000000000000000200010200000201000100020ffffffffe0fffffffff0000060200000003, q9dcP 0x100000102000000020000000504000000000000000200010200030100000e030ffffffffe0fffffffff000006020000000400000001000001020000000200000005040000000000000002000102000301000000040ffffffffe0fffffffff000006020000000402, [], [], [])
noncomputable def q9e_X3_shotIn : q9EN := (q9TBL, q9fs_X3, q9ps_X3, [], [(45, 0, 8, q9i_X8_shotAt)], [(41, 2, 0, q9i_X11_entry_k115)], (2, 23, 0, 0), 2, [], [], [])
noncomputable def q9cu_X3_shotIn : List q9CUT := []
set_option maxRecDepth 100000 in
set_option maxHeartbeats 4000000 in
theorem q9c_X3_shotIn (l : Launch) (hst : l.stackTraces = false) : q9CON O l q9TBL q9ALLW q9i_X3_shotIn := q9con_of (q := q9i_X3_shotIn) (n := q9e_X3_shotIn) (K := []) (K2 := []) (cuts := q9cu_X3_shotIn) (f := 15) hst (by decide +kernel) (fun h => absurd rfl h) ⟨q9goodA, q9fs_X3_ok, q9ps_X3_ok, (List.forall_mem_cons.mpr ⟨⟨⟨q9c_X8_shotAt l hst, q9lk_X3_45_X8_shotAt⟩, rfl⟩, (fun _ h => absurd h List.not_mem_nil)⟩), (List.forall_mem_cons.mpr ⟨⟨⟨q9c_X11_entry_k115 l hst, q9lk_X3_41_X11_entry_k115⟩, by decide⟩, (fun _ h => absurd h List.not_mem_nil)⟩), q9kas_ok, (fun _ h => absurd h List.not_mem_nil), (fun _ h => absurd h List.not_mem_nil), (fun _ h => absurd h List.not_mem_nil)⟩ rfl rfl rfl (by decide +kernel)
