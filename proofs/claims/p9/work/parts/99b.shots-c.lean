variable {O : ORC}
noncomputable def q9i_X12_5C_shot : q9INST := (yX12_shot, cX12_shot, 5, (some .int), (2, 23, 0, 0), q9dcQ 0x260103000c01030000010000000000000000050500000000030201000004260100030c0102000400030002000104000002010001000218180006a0000006a0000000180200000005, q9dcP 0x103000003020000020200000102000000020000000506000000000302010000050001010004000300020001040000010004040018180006a0000006a000000018020000000601, [], [768], [])
noncomputable def q9e_X12_5C_shot : q9EN := (q9TBL, q9fs_X12, q9ps_X12, [768], [(271, 0, 12, q9i_X12_F_may), (271, 0, 12, q9i_X12_T_may)], [], (2, 23, 0, 0), 5, [], [], [])
noncomputable def q9cu_X12_5C_shot : List q9CUT := []
set_option maxRecDepth 100000 in
set_option maxHeartbeats 4000000 in
theorem q9c_X12_5C_shot (l : Launch) (hst : l.stackTraces = false) : q9CON O l q9TBL q9ALLW q9i_X12_5C_shot := q9con_of (q := q9i_X12_5C_shot) (n := q9e_X12_5C_shot) (K := []) (K2 := []) (cuts := q9cu_X12_5C_shot) (f := 31) hst (by decide +kernel) (fun h => absurd rfl h) ⟨q9goodA, q9fs_X12_ok, q9ps_X12_ok, (List.forall_mem_cons.mpr ⟨⟨⟨q9c_X12_F_may l hst, q9lk_X12_271_X12_F_may⟩, rfl⟩, (List.forall_mem_cons.mpr ⟨⟨⟨q9c_X12_T_may l hst, q9lk_X12_271_X12_T_may⟩, rfl⟩, (fun _ h => absurd h List.not_mem_nil)⟩)⟩), (fun _ h => absurd h List.not_mem_nil), q9kas_ok, (fun _ h => absurd h List.not_mem_nil), (fun _ h => absurd h List.not_mem_nil), (fun _ h => absurd h List.not_mem_nil)⟩ rfl rfl rfl (by decide +kernel)
noncomputable def q9i_X11_5_fault : q9INST := (yX11_fault, cX11_fault, 1, (some .int), (1, 1, 0, 0), q9dcQ 0xa0103000000000000000503000000000000020a0101000200010200000100010ffffffffe0fffffffff0000160200000003, q9dcP 0x1020000000200000005030000000000000002000102000201000ffffffffe0fffffffff000016020000000301, [], [], [])
noncomputable def q9e_X11_5_fault : q9EN := (q9TBL, q9fs_X11, q9ps_X11, [], [], [], (1, 1, 0, 0), 1, [], [], [])
noncomputable def q9cu_X11_5_fault : List q9CUT := []
set_option maxRecDepth 100000 in
set_option maxHeartbeats 4000000 in
theorem q9c_X11_5_fault (l : Launch) (hst : l.stackTraces = false) : q9CON O l q9TBL q9ALLW q9i_X11_5_fault := q9con_of (q := q9i_X11_5_fault) (n := q9e_X11_5_fault) (K := []) (K2 := []) (cuts := q9cu_X11_5_fault) (f := 8) hst (by decide +kernel) (fun h => absurd rfl h) ⟨q9goodA, q9fs_X11_ok, q9ps_X11_ok, (fun _ h => absurd h List.not_mem_nil), (fun _ h => absurd h List.not_mem_nil), q9kas_ok, (fun _ h => absurd h List.not_mem_nil), (fun _ h => absurd h List.not_mem_nil), (fun _ h => absurd h List.not_mem_nil)⟩ rfl rfl rfl (by decide +kernel)
noncomputable def q9i_X12_5_fault : q9INST := (yX12_fault, cX12_fault, 1, (some .int), (1, 1, 0, 0), q9dcQ 0x14010300000000000000050300000000000002140101000200010200000100010ffffffffe0fffffffff0000180200000003, q9dcP 0x1020000000200000005030000000000000002000102000201000ffffffffe0fffffffff000018020000000301, [], [768], [])
noncomputable def q9e_X12_5_fault : q9EN := (q9TBL, q9fs_X12, q9ps_X12, [768], [], [], (1, 1, 0, 0), 1, [], [], [])
noncomputable def q9cu_X12_5_fault : List q9CUT := []
set_option maxRecDepth 100000 in
set_option maxHeartbeats 4000000 in
theorem q9c_X12_5_fault (l : Launch) (hst : l.stackTraces = false) : q9CON O l q9TBL q9ALLW q9i_X12_5_fault := q9con_of (q := q9i_X12_5_fault) (n := q9e_X12_5_fault) (K := []) (K2 := []) (cuts := q9cu_X12_5_fault) (f := 11) hst (by decide +kernel) (fun h => absurd rfl h) ⟨q9goodA, q9fs_X12_ok, q9ps_X12_ok, (fun _ h => absurd h List.not_mem_nil), (fun _ h => absurd h List.not_mem_nil), q9kas_ok, (fun _ h => absurd h List.not_mem_nil), (fun _ h => absurd h List.not_mem_nil), (fun _ h => absurd h List.not_mem_nil)⟩ rfl rfl rfl (by decide +kernel)
