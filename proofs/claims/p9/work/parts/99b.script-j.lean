variable {O : ORC}
noncomputable def q9i_X10_5AQ_number : q9INST := (yX10_number, cX10_number, 5, (some .int), (1, 1, 0, 0), q9dcQ 0x3010300000200000001000000000000000005050000000000000403010100040003000200010400000302000201000100031202000ffffffffe0fffffffff000ffffffffe0fffffffff0000140200000005, q9dcP 0x3020000020200000102000000020000000505000000000000000400030002000104010001001202000ffffffffe0fffffffff000ffffffffe0fffffffff000014020000000501, [], [], [])
noncomputable def q9e_X10_5AQ_number : q9EN := (q9TBL, q9fs_X10, q9ps_X10, [], [], [], (1, 1, 0, 0), 5, [], [], [])
noncomputable def q9cu_X10_5AQ_number : List q9CUT := []
set_option maxRecDepth 100000 in
set_option maxHeartbeats 4000000 in
theorem q9c_X10_5AQ_number (l : Launch) (hst : l.stackTraces = false) : q9CON O l q9TBL q9ALLW q9i_X10_5AQ_number := q9con_of (q := q9i_X10_5AQ_number) (n := q9e_X10_5AQ_number) (K := []) (K2 := []) (cuts := q9cu_X10_5AQ_number) (f := 10) hst (by decide +kernel) (fun h => absurd rfl h) ⟨q9goodA, q9fs_X10_ok, q9ps_X10_ok, (fun _ h => absurd h List.not_mem_nil), (fun _ h => absurd h List.not_mem_nil), q9kas_ok, (fun _ h => absurd h List.not_mem_nil), (fun _ h => absurd h List.not_mem_nil), (fun _ h => absurd h List.not_mem_nil)⟩ rfl rfl rfl (by decide +kernel)
set_option maxRecDepth 100000 in
theorem q9lk_X10_47_X10_5Q_fail : q9LKs q9ALLW RX10 (47, 0, 10, q9i_X10_5Q_fail) := ⟨q9wk_X10_fail, ⟨by decide, by decide, by decide +kernel⟩, q9goodW _ (List.forall_mem_cons.mpr ⟨(q9inT4 200 rfl rfl), q9wv_X10_fail⟩), _, rfl, rfl⟩
noncomputable def q9i_X10_5Q_needSign : q9INST := (yX10_needSign, cX10_needSign, 2, none, (2, 23, 0, 0), q9dcQ 0x30103000001000000000000000005040000000000000303010100030002000103000002010001000212020001fe020000140200000004, q9dcP 0x2020000010200000002000000050400000000000000030002000103000012020001fe02000014020000000401, [], [], [])
noncomputable def q9e_X10_5Q_needSign : q9EN := (q9TBL, q9fs_X10, q9ps_X10, [], [(47, 0, 10, q9i_X10_5Q_fail)], [], (2, 23, 0, 0), 2, [], [], [])
noncomputable def q9cu_X10_5Q_needSign : List q9CUT := []
set_option maxRecDepth 100000 in
set_option maxHeartbeats 4000000 in
theorem q9c_X10_5Q_needSign (l : Launch) (hst : l.stackTraces = false) : q9CON O l q9TBL q9ALLW q9i_X10_5Q_needSign := q9con_of (q := q9i_X10_5Q_needSign) (n := q9e_X10_5Q_needSign) (K := []) (K2 := []) (cuts := q9cu_X10_5Q_needSign) (f := 14) hst (by decide +kernel) (fun h => absurd rfl h) ⟨q9goodA, q9fs_X10_ok, q9ps_X10_ok, (List.forall_mem_cons.mpr ⟨⟨⟨q9c_X10_5Q_fail l hst, q9lk_X10_47_X10_5Q_fail⟩, rfl⟩, (fun _ h => absurd h List.not_mem_nil)⟩), (fun _ h => absurd h List.not_mem_nil), q9kas_ok, (fun _ h => absurd h List.not_mem_nil), (fun _ h => absurd h List.not_mem_nil), (fun _ h => absurd h List.not_mem_nil)⟩ rfl rfl rfl (by decide +kernel)
noncomputable def q9i_X10_5Q_trySign : q9INST := (yX10_trySign, cX10_trySign, 2, (some .boolean), (1, 1, 0, 0), q9dcQ 0x30103000001000000000000000005040000000000000303010100030002000103000002010001000212020001fe020000140200000004, q9dcP 0x20200000102000000020000000504000000000000000300020001030000010012020001fe02000014020000000401, [], [], [])
noncomputable def q9e_X10_5Q_trySign : q9EN := (q9TBL, q9fs_X10, q9ps_X10, [], [], [], (1, 1, 0, 0), 2, [], [], [])
noncomputable def q9cu_X10_5Q_trySign : List q9CUT := []
set_option maxRecDepth 100000 in
set_option maxHeartbeats 4000000 in
theorem q9c_X10_5Q_trySign (l : Launch) (hst : l.stackTraces = false) : q9CON O l q9TBL q9ALLW q9i_X10_5Q_trySign := q9con_of (q := q9i_X10_5Q_trySign) (n := q9e_X10_5Q_trySign) (K := []) (K2 := []) (cuts := q9cu_X10_5Q_trySign) (f := 10) hst (by decide +kernel) (fun h => absurd rfl h) ⟨q9goodA, q9fs_X10_ok, q9ps_X10_ok, (fun _ h => absurd h List.not_mem_nil), (fun _ h => absurd h List.not_mem_nil), q9kas_ok, (fun _ h => absurd h List.not_mem_nil), (fun _ h => absurd h List.not_mem_nil), (fun _ h => absurd h List.not_mem_nil)⟩ rfl rfl rfl (by decide +kernel)
