variable {O : ORC}
noncomputable def q9i_X12_F_may : q9INST := (yX12_may, cX12_may, 3, (some .boolean), (1, 1, 0, 0), q9dcQ 0x103000002000000010000000000000000050500000000000004000101000400030002000104000003020002010001000300000006020002020000180200000005, q9dcP 0x302000002020000010200000002000000050500000000000004000101000400030002000104020001000000000602000202000018020000000501, [], [], [])
noncomputable def q9e_X12_F_may : q9EN := (q9TBL, q9fs_X12, q9ps_X12, [], [], [], (1, 1, 0, 0), 3, [], [], [])
noncomputable def q9cu_X12_F_may : List q9CUT := []
set_option maxRecDepth 100000 in
set_option maxHeartbeats 4000000 in
theorem q9c_X12_F_may (l : Launch) (hst : l.stackTraces = false) : q9CON O l q9TBL q9ALLW q9i_X12_F_may := q9con_of (q := q9i_X12_F_may) (n := q9e_X12_F_may) (K := []) (K2 := []) (cuts := q9cu_X12_F_may) (f := 13) hst (by decide +kernel) (fun h => absurd rfl h) ⟨q9goodA, q9fs_X12_ok, q9ps_X12_ok, (fun _ h => absurd h List.not_mem_nil), (fun _ h => absurd h List.not_mem_nil), q9kas_ok, (fun _ h => absurd h List.not_mem_nil), (fun _ h => absurd h List.not_mem_nil), (fun _ h => absurd h List.not_mem_nil)⟩ rfl rfl rfl (by decide +kernel)
noncomputable def q9i_X12_T_may : q9INST := (yX12_may, cX12_may, 3, (some .boolean), (1, 1, 0, 0), q9dcQ 0x103000002000000010000000000000000050500000000000004000101000400030002000104000003020002010001000300000006020000000000180200000005, q9dcP 0x302000002020000010200000002000000050500000000000003000101000400030002000104000001000000000602000000000018020000000501, [], [768], [])
noncomputable def q9e_X12_T_may : q9EN := (q9TBL, q9fs_X12, q9ps_X12, [768], [], [], (1, 1, 0, 0), 3, [], [], [])
noncomputable def q9cu_X12_T_may : List q9CUT := []
set_option maxRecDepth 100000 in
set_option maxHeartbeats 4000000 in
theorem q9c_X12_T_may (l : Launch) (hst : l.stackTraces = false) : q9CON O l q9TBL q9ALLW q9i_X12_T_may := q9con_of (q := q9i_X12_T_may) (n := q9e_X12_T_may) (K := []) (K2 := []) (cuts := q9cu_X12_T_may) (f := 18) hst (by decide +kernel) (fun h => absurd rfl h) ⟨q9goodA, q9fs_X12_ok, q9ps_X12_ok, (fun _ h => absurd h List.not_mem_nil), (fun _ h => absurd h List.not_mem_nil), q9kas_ok, (fun _ h => absurd h List.not_mem_nil), (fun _ h => absurd h List.not_mem_nil), (fun _ h => absurd h List.not_mem_nil)⟩ rfl rfl rfl (by decide +kernel)
set_option maxRecDepth 100000 in
theorem q9lk_X12_267_X12_L_within : q9LKs q9ALLW RX12 (267, 1, 0, q9i_X12_L_within) := ⟨q9wk_X12_within, ⟨by decide, by decide, by decide +kernel⟩, q9goodW _ (List.forall_mem_cons.mpr ⟨(q9inT9 185 rfl rfl), q9wv_X12_within⟩)⟩
set_option maxRecDepth 100000 in
theorem q9lk_X12_271_X12_T_may : q9LKs q9ALLW RX12 (271, 0, 12, q9i_X12_T_may) := ⟨q9wk_X12_may, ⟨by decide, by decide, by decide +kernel⟩, q9goodW _ (List.forall_mem_cons.mpr ⟨(q9inT9 188 rfl rfl), q9wv_X12_may⟩), _, rfl, rfl⟩
set_option maxRecDepth 100000 in
theorem q9lk_X12_267_X12_M_within : q9LKs q9ALLW RX12 (267, 1, 0, q9i_X12_M_within) := ⟨q9wk_X12_within, ⟨by decide, by decide, by decide +kernel⟩, q9goodW _ (List.forall_mem_cons.mpr ⟨(q9inT9 185 rfl rfl), q9wv_X12_within⟩)⟩
set_option maxRecDepth 100000 in
theorem q9lk_X12_267_X12_F_within : q9LKs q9ALLW RX12 (267, 1, 0, q9i_X12_F_within) := ⟨q9wk_X12_within, ⟨by decide, by decide, by decide +kernel⟩, q9goodW _ (List.forall_mem_cons.mpr ⟨(q9inT9 185 rfl rfl), q9wv_X12_within⟩)⟩
set_option maxRecDepth 100000 in
theorem q9lk_X12_271_X12_F_may : q9LKs q9ALLW RX12 (271, 0, 12, q9i_X12_F_may) := ⟨q9wk_X12_may, ⟨by decide, by decide, by decide +kernel⟩, q9goodW _ (List.forall_mem_cons.mpr ⟨(q9inT9 188 rfl rfl), q9wv_X12_may⟩), _, rfl, rfl⟩
noncomputable def q9i_X12_F0_thrown : q9INST := (yX12_thrown, cX12_thrown, 1, (some .int), (1, 1, 0, 0), q9dcQ 0x103000000000000000503000000000000020001010002000102000001000100000000180200000003, q9dcP 0x1020000000200000005030000000000000002000102000201000000000018020000000301, [], [], [])
noncomputable def q9e_X12_F0_thrown : q9EN := (q9TBL, q9fs_X12, q9ps_X12, [], [], [], (1, 1, 0, 0), 1, [], [], [])
noncomputable def q9cu_X12_F0_thrown : List q9CUT := []
set_option maxRecDepth 100000 in
set_option maxHeartbeats 4000000 in
theorem q9c_X12_F0_thrown (l : Launch) (hst : l.stackTraces = false) : q9CON O l q9TBL q9ALLW q9i_X12_F0_thrown := q9con_of (q := q9i_X12_F0_thrown) (n := q9e_X12_F0_thrown) (K := []) (K2 := []) (cuts := q9cu_X12_F0_thrown) (f := 8) hst (by decide +kernel) (fun h => absurd rfl h) ⟨q9goodA, q9fs_X12_ok, q9ps_X12_ok, (fun _ h => absurd h List.not_mem_nil), (fun _ h => absurd h List.not_mem_nil), q9kas_ok, (fun _ h => absurd h List.not_mem_nil), (fun _ h => absurd h List.not_mem_nil), (fun _ h => absurd h List.not_mem_nil)⟩ rfl rfl rfl (by decide +kernel)
noncomputable def q9i_X12_F1_thrown : q9INST := (yX12_thrown, cX12_thrown, 1, (some .int), (1, 1, 0, 0), q9dcQ 0x103000000000000000503000000000000020001010002000102000001000102020000180200000003, q9dcP 0x1020000000200000005030000000000000002000102000201000202000018020000000301, [], [], [])
noncomputable def q9e_X12_F1_thrown : q9EN := (q9TBL, q9fs_X12, q9ps_X12, [], [], [], (1, 1, 0, 0), 1, [], [], [])
noncomputable def q9cu_X12_F1_thrown : List q9CUT := []
set_option maxRecDepth 100000 in
set_option maxHeartbeats 4000000 in
theorem q9c_X12_F1_thrown (l : Launch) (hst : l.stackTraces = false) : q9CON O l q9TBL q9ALLW q9i_X12_F1_thrown := q9con_of (q := q9i_X12_F1_thrown) (n := q9e_X12_F1_thrown) (K := []) (K2 := []) (cuts := q9cu_X12_F1_thrown) (f := 8) hst (by decide +kernel) (fun h => absurd rfl h) ⟨q9goodA, q9fs_X12_ok, q9ps_X12_ok, (fun _ h => absurd h List.not_mem_nil), (fun _ h => absurd h List.not_mem_nil), q9kas_ok, (fun _ h => absurd h List.not_mem_nil), (fun _ h => absurd h List.not_mem_nil), (fun _ h => absurd h List.not_mem_nil)⟩ rfl rfl rfl (by decide +kernel)
noncomputable def q9i_X12_F2_thrown : q9INST := (yX12_thrown, cX12_thrown, 1, (some .int), (1, 1, 0, 0), q9dcQ 0x103000000000000000503000000000000020001010002000102000001000104040000180200000003, q9dcP 0x1020000000200000005030000000000000002000102000201000404000018020000000301, [], [], [])
noncomputable def q9e_X12_F2_thrown : q9EN := (q9TBL, q9fs_X12, q9ps_X12, [], [], [], (1, 1, 0, 0), 1, [], [], [])
noncomputable def q9cu_X12_F2_thrown : List q9CUT := []
set_option maxRecDepth 100000 in
set_option maxHeartbeats 4000000 in
theorem q9c_X12_F2_thrown (l : Launch) (hst : l.stackTraces = false) : q9CON O l q9TBL q9ALLW q9i_X12_F2_thrown := q9con_of (q := q9i_X12_F2_thrown) (n := q9e_X12_F2_thrown) (K := []) (K2 := []) (cuts := q9cu_X12_F2_thrown) (f := 8) hst (by decide +kernel) (fun h => absurd rfl h) ⟨q9goodA, q9fs_X12_ok, q9ps_X12_ok, (fun _ h => absurd h List.not_mem_nil), (fun _ h => absurd h List.not_mem_nil), q9kas_ok, (fun _ h => absurd h List.not_mem_nil), (fun _ h => absurd h List.not_mem_nil), (fun _ h => absurd h List.not_mem_nil)⟩ rfl rfl rfl (by decide +kernel)
noncomputable def q9i_X8_A_addPuppet : q9INST := (yX8_addPuppet, cX8_addPuppet, 3, (some .int), (1, 1, 0, 0), q9dcQ 0x402081f9e0004080fce000408000304080000010300010103000001000000000000000005090000000000040002081f9e000004070fce000004060003000405040000000200000a02000400010003010104000400030002000104000002010001000201c901c90001cd01cd0001cb01cb0001c701c7000002b0020e0000000a0200100200000009, q9dcP 0x1f9e0004080fce0004080005040800010103000003020000020200000102000000020000000509000000020305010503021f9e000004080fce0000040700050004060300050101010004000300020001040003010001cd01cd0001cb01cb0001c701c7001002000002b0020e0000000a020010020000000901, [], [513, 100152], [])
noncomputable def q9e_X8_A_addPuppet : q9EN := (q9TBL, q9fs_X8, q9ps_X8, [513, 100152], [], [], (1, 1, 0, 0), 3, [], [], [])
noncomputable def q9cu_X8_A_addPuppet : List q9CUT := []
set_option maxRecDepth 100000 in
set_option maxHeartbeats 4000000 in
theorem q9c_X8_A_addPuppet (l : Launch) (hst : l.stackTraces = false) : q9CON O l q9TBL q9ALLW q9i_X8_A_addPuppet := q9con_of (q := q9i_X8_A_addPuppet) (n := q9e_X8_A_addPuppet) (K := []) (K2 := []) (cuts := q9cu_X8_A_addPuppet) (f := 26) hst (by decide +kernel) (fun h => absurd rfl h) ⟨q9goodA, q9fs_X8_ok, q9ps_X8_ok, (fun _ h => absurd h List.not_mem_nil), (fun _ h => absurd h List.not_mem_nil), q9kas_ok, (fun _ h => absurd h List.not_mem_nil), (fun _ h => absurd h List.not_mem_nil), (fun _ h => absurd h List.not_mem_nil)⟩ rfl rfl rfl (by decide +kernel)
set_option maxRecDepth 100000 in
theorem q9lk_X11_81_X8_A_addPuppet : q9LKs q9ALLW RX11 (81, 0, 8, q9i_X8_A_addPuppet) := ⟨q9wk_X8_addPuppet, ⟨by decide, by decide, by decide +kernel⟩, q9goodW _ (List.forall_mem_cons.mpr ⟨(q9inT3 40 rfl rfl), q9wv_X8_addPuppet⟩), _, rfl, rfl⟩
noncomputable def q9i_X11_A1_puppet : q9INST := (yX11_puppet, cX11_puppet, 1, (some .int), (2, 40, 8, 95), q9dcQ 0x1f9e0004080fce00040800030408000002030001020300000103000000000000000508000000001f9e000004070fce0000040600030004050300040002000301020002000103000400030002000104000001000101cd01cd0001cb01cb0001c701c7000002b0020e000000100200160200000008, q9dcP 0x1f9e0004080fce00040800050408000102030000030200000202000001020000000200000005095f0800020305010503021f9e000004080fce0000040700050004060300050102010004000300020001040003010001cd01cd0001cb01cb0001c701c7001002000002b0020e00000010020016020000000901, [], [513, 1601, 1602, 1603, 1604, 1605, 1606, 1607, 100152], [])
noncomputable def q9e_X11_A1_puppet : q9EN := (q9TBL, q9fs_X11, q9ps_X11, [513, 1601, 1602, 1603, 1604, 1605, 1606, 1607, 100152], [(81, 0, 8, q9i_X8_A_addPuppet)], [], (2, 40, 8, 95), 1, [], [], [])
noncomputable def q9cu_X11_A1_puppet : List q9CUT := []
set_option maxRecDepth 100000 in
set_option maxHeartbeats 4000000 in
theorem q9c_X11_A1_puppet (l : Launch) (hst : l.stackTraces = false) : q9CON O l q9TBL q9ALLW q9i_X11_A1_puppet := q9con_ofX (XP := fun _ _ => True) (mac := q9newF [(18, 78, 5, 22, (80, 2, 5, q9i_X5_init))] q9e_X11_A1_puppet [] [] cX11_puppet [(5, 0, (0, 0)), (1, 0, (0, 0)), (3, 1, (0, 0))] 2) (q := q9i_X11_A1_puppet) (n := q9e_X11_A1_puppet) (K := []) (K2 := []) (cuts := q9cu_X11_A1_puppet) (f := 15) hst (by decide +kernel) (fun h => absurd rfl h) ⟨q9goodA, q9fs_X11_ok, q9ps_X11_ok, (List.forall_mem_cons.mpr ⟨⟨⟨q9c_X8_A_addPuppet l hst, q9lk_X11_81_X8_A_addPuppet⟩, rfl⟩, (fun _ h => absurd h List.not_mem_nil)⟩), (fun _ h => absurd h List.not_mem_nil), q9kas_ok, (fun _ h => absurd h List.not_mem_nil), (fun _ h => absurd h List.not_mem_nil), (fun _ h => absurd h List.not_mem_nil)⟩ rfl rfl rfl (q9macx_newF (XP := fun _ _ => True) (l := l) (cc := cX11_puppet) rfl [(18, 78, 5, 22, (80, 2, 5, q9i_X5_init))] (List.forall_mem_cons.mpr ⟨⟨_, _, 11, _, rfl, q9uw_5, tyX5_ok, (q9inT2 235 rfl rfl), (q9inT2 236 rfl rfl), (q9inT1 13 rfl rfl), by decide +kernel, by decide +kernel, by decide +kernel, q9c_X5_init l hst, q9lki_X11_80_X5_init, q9dfl_5⟩, (fun _ h => absurd h List.not_mem_nil)⟩) [(5, 0, (0, 0)), (1, 0, (0, 0)), (3, 1, (0, 0))] 2) (by decide +kernel)
