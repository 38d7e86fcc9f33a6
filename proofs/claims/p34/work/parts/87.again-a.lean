variable {O : ORC}
noncomputable def q9i_X12_copy_keptWorkedIn : q9INST := (yX12_copy, cX12_copy, 3, none, (1, 1, 0, 0), q9dcQ 0x100000000000000000503000000000000000200010200000201000100020003cc020003de0200000003, q9dcP 0x102000000020000000503000000000000000200010200000003cc020003de020000000301, [], [100230], [])
noncomputable def q9e_X12_copy_keptWorkedIn : q9EN := (q9TBL, q9fs_X12, q9ps_X12, [100230], [], [], (1, 1, 0, 0), 3, [], [], [])
noncomputable def q9cu_X12_copy_keptWorkedIn : List q9CUT := q9dcKs 0xc9abc00000c03020c9abc0000030000020000000100000000000000000504000000000000000200010200000302000201000100030c00000003cc020003de02000000040201
set_option maxRecDepth 100000 in
set_option maxHeartbeats 4000000 in
theorem q9c_X12_copy_keptWorkedIn (l : Launch) (hst : l.stackTraces = false) : q9CON O l q9TBL q9ALLW q9i_X12_copy_keptWorkedIn := q9con_of (q := q9i_X12_copy_keptWorkedIn) (n := q9e_X12_copy_keptWorkedIn) (K := []) (K2 := []) (cuts := q9cu_X12_copy_keptWorkedIn) (f := 20) hst (by decide +kernel) (fun h => absurd rfl h) ⟨q9goodA, q9fs_X12_ok, q9ps_X12_ok, (fun _ h => absurd h List.not_mem_nil), (fun _ h => absurd h List.not_mem_nil), q9kas_ok, (fun _ h => absurd h List.not_mem_nil), (fun _ h => absurd h List.not_mem_nil), (fun _ h => absurd h List.not_mem_nil)⟩ rfl rfl rfl (by decide +kernel)
noncomputable def q9i_X12_copy_worked : q9INST := (yX12_copy, cX12_copy, 3, none, (1, 1, 0, 0), q9dcQ 0x100000000000000000503000000000000000200010200000201000100020003e0020003ce0200000003, q9dcP 0x102000000020000000503000000000000000200010200000003e0020003ce020000000301, [], [100240], [])
noncomputable def q9e_X12_copy_worked : q9EN := (q9TBL, q9fs_X12, q9ps_X12, [100240], [], [], (1, 1, 0, 0), 3, [], [], [])
noncomputable def q9cu_X12_copy_worked : List q9CUT := q9dcKs 0xc9abc00000c03020c9abc0000030000020000000100000000000000000504000000000000000200010200000302000201000100030c00000003e0020003ce02000000040201
set_option maxRecDepth 100000 in
set_option maxHeartbeats 4000000 in
theorem q9c_X12_copy_worked (l : Launch) (hst : l.stackTraces = false) : q9CON O l q9TBL q9ALLW q9i_X12_copy_worked := q9con_of (q := q9i_X12_copy_worked) (n := q9e_X12_copy_worked) (K := []) (K2 := []) (cuts := q9cu_X12_copy_worked) (f := 20) hst (by decide +kernel) (fun h => absurd rfl h) ⟨q9goodA, q9fs_X12_ok, q9ps_X12_ok, (fun _ h => absurd h List.not_mem_nil), (fun _ h => absurd h List.not_mem_nil), q9kas_ok, (fun _ h => absurd h List.not_mem_nil), (fun _ h => absurd h List.not_mem_nil), (fun _ h => absurd h List.not_mem_nil)⟩ rfl rfl rfl (by decide +kernel)
noncomputable def q9i_X12_copy_keptWorked : q9INST := (yX12_copy, cX12_copy, 3, none, (1, 1, 0, 0), q9dcQ 0x100000000000000000503000000000000000200010200000201000100020003ce020003e00200000003, q9dcP 0x102000000020000000503000000000000000200010200000003ce020003e0020000000301, [], [100231], [])
noncomputable def q9e_X12_copy_keptWorked : q9EN := (q9TBL, q9fs_X12, q9ps_X12, [100231], [], [], (1, 1, 0, 0), 3, [], [], [])
noncomputable def q9cu_X12_copy_keptWorked : List q9CUT := q9dcKs 0xc9abc00000c03020c9abc0000030000020000000100000000000000000504000000000000000200010200000302000201000100030c00000003ce020003e002000000040201
set_option maxRecDepth 100000 in
set_option maxHeartbeats 4000000 in
theorem q9c_X12_copy_keptWorked (l : Launch) (hst : l.stackTraces = false) : q9CON O l q9TBL q9ALLW q9i_X12_copy_keptWorked := q9con_of (q := q9i_X12_copy_keptWorked) (n := q9e_X12_copy_keptWorked) (K := []) (K2 := []) (cuts := q9cu_X12_copy_keptWorked) (f := 20) hst (by decide +kernel) (fun h => absurd rfl h) ⟨q9goodA, q9fs_X12_ok, q9ps_X12_ok, (fun _ h => absurd h List.not_mem_nil), (fun _ h => absurd h List.not_mem_nil), q9kas_ok, (fun _ h => absurd h List.not_mem_nil), (fun _ h => absurd h List.not_mem_nil), (fun _ h => absurd h List.not_mem_nil)⟩ rfl rfl rfl (by decide +kernel)
noncomputable def q9i_X12_copy_queued : q9INST := (yX12_copy, cX12_copy, 3, none, (1, 1, 0, 0), q9dcQ 0x100000000000000000503000000000000000200010200000201000100020003e2020003d20200000003, q9dcP 0x102000000020000000503000000000000000200010200000003e2020003d2020000000301, [], [100241], [])
noncomputable def q9e_X12_copy_queued : q9EN := (q9TBL, q9fs_X12, q9ps_X12, [100241], [], [], (1, 1, 0, 0), 3, [], [], [])
noncomputable def q9cu_X12_copy_queued : List q9CUT := q9dcKs 0xc9abc00000603020c9abc0000030000020000000100000000000000000504000000000000000200010200000302000201000100030600000003e2020003d202000000040201
set_option maxRecDepth 100000 in
set_option maxHeartbeats 4000000 in
theorem q9c_X12_copy_queued (l : Launch) (hst : l.stackTraces = false) : q9CON O l q9TBL q9ALLW q9i_X12_copy_queued := q9con_of (q := q9i_X12_copy_queued) (n := q9e_X12_copy_queued) (K := []) (K2 := []) (cuts := q9cu_X12_copy_queued) (f := 20) hst (by decide +kernel) (fun h => absurd rfl h) ⟨q9goodA, q9fs_X12_ok, q9ps_X12_ok, (fun _ h => absurd h List.not_mem_nil), (fun _ h => absurd h List.not_mem_nil), q9kas_ok, (fun _ h => absurd h List.not_mem_nil), (fun _ h => absurd h List.not_mem_nil), (fun _ h => absurd h List.not_mem_nil)⟩ rfl rfl rfl (by decide +kernel)
noncomputable def q9i_X12_copy_keptQueued : q9INST := (yX12_copy, cX12_copy, 3, none, (1, 1, 0, 0), q9dcQ 0x100000000000000000503000000000000000200010200000201000100020003d2020003e20200000003, q9dcP 0x102000000020000000503000000000000000200010200000003d2020003e2020000000301, [], [100233], [])
noncomputable def q9e_X12_copy_keptQueued : q9EN := (q9TBL, q9fs_X12, q9ps_X12, [100233], [], [], (1, 1, 0, 0), 3, [], [], [])
noncomputable def q9cu_X12_copy_keptQueued : List q9CUT := q9dcKs 0xc9abc00000603020c9abc0000030000020000000100000000000000000504000000000000000200010200000302000201000100030600000003d2020003e202000000040201
set_option maxRecDepth 100000 in
set_option maxHeartbeats 4000000 in
theorem q9c_X12_copy_keptQueued (l : Launch) (hst : l.stackTraces = false) : q9CON O l q9TBL q9ALLW q9i_X12_copy_keptQueued := q9con_of (q := q9i_X12_copy_keptQueued) (n := q9e_X12_copy_keptQueued) (K := []) (K2 := []) (cuts := q9cu_X12_copy_keptQueued) (f := 20) hst (by decide +kernel) (fun h => absurd rfl h) ⟨q9goodA, q9fs_X12_ok, q9ps_X12_ok, (fun _ h => absurd h List.not_mem_nil), (fun _ h => absurd h List.not_mem_nil), q9kas_ok, (fun _ h => absurd h List.not_mem_nil), (fun _ h => absurd h List.not_mem_nil), (fun _ h => absurd h List.not_mem_nil)⟩ rfl rfl rfl (by decide +kernel)
noncomputable def q9i_X12_copy_queue : q9INST := (yX12_copy, cX12_copy, 3, none, (1, 1, 0, 0), q9dcQ 0x100000000000000000503000000000000000200010200000201000100020003e4020003d40200000003, q9dcP 0x102000000020000000503000000000000000200010200000003e4020003d4020000000301, [], [100242], [])
noncomputable def q9e_X12_copy_queue : q9EN := (q9TBL, q9fs_X12, q9ps_X12, [100242], [], [], (1, 1, 0, 0), 3, [], [], [])
noncomputable def q9cu_X12_copy_queue : List q9CUT := q9dcKs 0xc9abc00003e03020c9abc0000030000020000000100000000000000000504000000000000000200010200000302000201000100033e00000003e4020003d402000000040201
set_option maxRecDepth 100000 in
set_option maxHeartbeats 4000000 in
theorem q9c_X12_copy_queue (l : Launch) (hst : l.stackTraces = false) : q9CON O l q9TBL q9ALLW q9i_X12_copy_queue := q9con_of (q := q9i_X12_copy_queue) (n := q9e_X12_copy_queue) (K := []) (K2 := []) (cuts := q9cu_X12_copy_queue) (f := 20) hst (by decide +kernel) (fun h => absurd rfl h) ⟨q9goodA, q9fs_X12_ok, q9ps_X12_ok, (fun _ h => absurd h List.not_mem_nil), (fun _ h => absurd h List.not_mem_nil), q9kas_ok, (fun _ h => absurd h List.not_mem_nil), (fun _ h => absurd h List.not_mem_nil), (fun _ h => absurd h List.not_mem_nil)⟩ rfl rfl rfl (by decide +kernel)
noncomputable def q9i_X12_copy_keptQueue : q9INST := (yX12_copy, cX12_copy, 3, none, (1, 1, 0, 0), q9dcQ 0x100000000000000000503000000000000000200010200000201000100020003d4020003e40200000003, q9dcP 0x102000000020000000503000000000000000200010200000003d4020003e4020000000301, [], [100234], [])
noncomputable def q9e_X12_copy_keptQueue : q9EN := (q9TBL, q9fs_X12, q9ps_X12, [100234], [], [], (1, 1, 0, 0), 3, [], [], [])
noncomputable def q9cu_X12_copy_keptQueue : List q9CUT := q9dcKs 0xc9abc00003e03020c9abc0000030000020000000100000000000000000504000000000000000200010200000302000201000100033e00000003d4020003e402000000040201
set_option maxRecDepth 100000 in
set_option maxHeartbeats 4000000 in
theorem q9c_X12_copy_keptQueue (l : Launch) (hst : l.stackTraces = false) : q9CON O l q9TBL q9ALLW q9i_X12_copy_keptQueue := q9con_of (q := q9i_X12_copy_keptQueue) (n := q9e_X12_copy_keptQueue) (K := []) (K2 := []) (cuts := q9cu_X12_copy_keptQueue) (f := 20) hst (by decide +kernel) (fun h => absurd rfl h) ⟨q9goodA, q9fs_X12_ok, q9ps_X12_ok, (fun _ h => absurd h List.not_mem_nil), (fun _ h => absurd h List.not_mem_nil), q9kas_ok, (fun _ h => absurd h List.not_mem_nil), (fun _ h => absurd h List.not_mem_nil), (fun _ h => absurd h List.not_mem_nil)⟩ rfl rfl rfl (by decide +kernel)
noncomputable def q9i_X12_copy_onNow : q9INST := (yX12_copy, cX12_copy, 3, none, (1, 1, 0, 0), q9dcQ 0x100000000000000000503000000000000000200010200000201000100020003e6020003d60200000003, q9dcP 0x102000000020000000503000000000000000200010200000003e6020003d6020000000301, [], [100243], [])
noncomputable def q9e_X12_copy_onNow : q9EN := (q9TBL, q9fs_X12, q9ps_X12, [100243], [], [], (1, 1, 0, 0), 3, [], [], [])
noncomputable def q9cu_X12_copy_onNow : List q9CUT := q9dcKs 0xc9abc00000603020c9abc0000030000020000000100000000000000000504000000000000000200010200000302000201000100030600000003e6020003d602000000040201
set_option maxRecDepth 100000 in
set_option maxHeartbeats 4000000 in
theorem q9c_X12_copy_onNow (l : Launch) (hst : l.stackTraces = false) : q9CON O l q9TBL q9ALLW q9i_X12_copy_onNow := q9con_of (q := q9i_X12_copy_onNow) (n := q9e_X12_copy_onNow) (K := []) (K2 := []) (cuts := q9cu_X12_copy_onNow) (f := 20) hst (by decide +kernel) (fun h => absurd rfl h) ⟨q9goodA, q9fs_X12_ok, q9ps_X12_ok, (fun _ h => absurd h List.not_mem_nil), (fun _ h => absurd h List.not_mem_nil), q9kas_ok, (fun _ h => absurd h List.not_mem_nil), (fun _ h => absurd h List.not_mem_nil), (fun _ h => absurd h List.not_mem_nil)⟩ rfl rfl rfl (by decide +kernel)
noncomputable def q9i_X12_copy_keptOn : q9INST := (yX12_copy, cX12_copy, 3, none, (1, 1, 0, 0), q9dcQ 0x100000000000000000503000000000000000200010200000201000100020003d6020003e60200000003, q9dcP 0x102000000020000000503000000000000000200010200000003d6020003e6020000000301, [], [100235], [])
noncomputable def q9e_X12_copy_keptOn : q9EN := (q9TBL, q9fs_X12, q9ps_X12, [100235], [], [], (1, 1, 0, 0), 3, [], [], [])
noncomputable def q9cu_X12_copy_keptOn : List q9CUT := q9dcKs 0xc9abc00000603020c9abc0000030000020000000100000000000000000504000000000000000200010200000302000201000100030600000003d6020003e602000000040201
set_option maxRecDepth 100000 in
set_option maxHeartbeats 4000000 in
theorem q9c_X12_copy_keptOn (l : Launch) (hst : l.stackTraces = false) : q9CON O l q9TBL q9ALLW q9i_X12_copy_keptOn := q9con_of (q := q9i_X12_copy_keptOn) (n := q9e_X12_copy_keptOn) (K := []) (K2 := []) (cuts := q9cu_X12_copy_keptOn) (f := 20) hst (by decide +kernel) (fun h => absurd rfl h) ⟨q9goodA, q9fs_X12_ok, q9ps_X12_ok, (fun _ h => absurd h List.not_mem_nil), (fun _ h => absurd h List.not_mem_nil), q9kas_ok, (fun _ h => absurd h List.not_mem_nil), (fun _ h => absurd h List.not_mem_nil), (fun _ h => absurd h List.not_mem_nil)⟩ rfl rfl rfl (by decide +kernel)
noncomputable def q9i_X12_copy_dressing : q9INST := (yX12_copy, cX12_copy, 3, none, (1, 1, 0, 0), q9dcQ 0x100000000000000000503000000000000000200010200000201000100020003e8020003d80200000003, q9dcP 0x102000000020000000503000000000000000200010200000003e8020003d8020000000301, [], [100244], [])
noncomputable def q9e_X12_copy_dressing : q9EN := (q9TBL, q9fs_X12, q9ps_X12, [100244], [], [], (1, 1, 0, 0), 3, [], [], [])
noncomputable def q9cu_X12_copy_dressing : List q9CUT := q9dcKs 0xc9abc00000603020c9abc0000030000020000000100000000000000000504000000000000000200010200000302000201000100030600000003e8020003d802000000040201
set_option maxRecDepth 100000 in
set_option maxHeartbeats 4000000 in
theorem q9c_X12_copy_dressing (l : Launch) (hst : l.stackTraces = false) : q9CON O l q9TBL q9ALLW q9i_X12_copy_dressing := q9con_of (q := q9i_X12_copy_dressing) (n := q9e_X12_copy_dressing) (K := []) (K2 := []) (cuts := q9cu_X12_copy_dressing) (f := 20) hst (by decide +kernel) (fun h => absurd rfl h) ⟨q9goodA, q9fs_X12_ok, q9ps_X12_ok, (fun _ h => absurd h List.not_mem_nil), (fun _ h => absurd h List.not_mem_nil), q9kas_ok, (fun _ h => absurd h List.not_mem_nil), (fun _ h => absurd h List.not_mem_nil), (fun _ h => absurd h List.not_mem_nil)⟩ rfl rfl rfl (by decide +kernel)
noncomputable def q9i_X12_copy_keptDressing : q9INST := (yX12_copy, cX12_copy, 3, none, (1, 1, 0, 0), q9dcQ 0x100000000000000000503000000000000000200010200000201000100020003d8020003e80200000003, q9dcP 0x102000000020000000503000000000000000200010200000003d8020003e8020000000301, [], [100236], [])
noncomputable def q9e_X12_copy_keptDressing : q9EN := (q9TBL, q9fs_X12, q9ps_X12, [100236], [], [], (1, 1, 0, 0), 3, [], [], [])
noncomputable def q9cu_X12_copy_keptDressing : List q9CUT := q9dcKs 0xc9abc00000603020c9abc0000030000020000000100000000000000000504000000000000000200010200000302000201000100030600000003d8020003e802000000040201
set_option maxRecDepth 100000 in
set_option maxHeartbeats 4000000 in
theorem q9c_X12_copy_keptDressing (l : Launch) (hst : l.stackTraces = false) : q9CON O l q9TBL q9ALLW q9i_X12_copy_keptDressing := q9con_of (q := q9i_X12_copy_keptDressing) (n := q9e_X12_copy_keptDressing) (K := []) (K2 := []) (cuts := q9cu_X12_copy_keptDressing) (f := 20) hst (by decide +kernel) (fun h => absurd rfl h) ⟨q9goodA, q9fs_X12_ok, q9ps_X12_ok, (fun _ h => absurd h List.not_mem_nil), (fun _ h => absurd h List.not_mem_nil), q9kas_ok, (fun _ h => absurd h List.not_mem_nil), (fun _ h => absurd h List.not_mem_nil), (fun _ h => absurd h List.not_mem_nil)⟩ rfl rfl rfl (by decide +kernel)
noncomputable def q9i_X12_copy_dressed : q9INST := (yX12_copy, cX12_copy, 3, none, (1, 1, 0, 0), q9dcQ 0x100000000000000000503000000000000000200010200000201000100020003ea020003da0200000003, q9dcP 0x102000000020000000503000000000000000200010200000003ea020003da020000000301, [], [100245], [])
noncomputable def q9e_X12_copy_dressed : q9EN := (q9TBL, q9fs_X12, q9ps_X12, [100245], [], [], (1, 1, 0, 0), 3, [], [], [])
noncomputable def q9cu_X12_copy_dressed : List q9CUT := q9dcKs 0xc9abc00000603020c9abc0000030000020000000100000000000000000504000000000000000200010200000302000201000100030600000003ea020003da02000000040201
set_option maxRecDepth 100000 in
set_option maxHeartbeats 4000000 in
theorem q9c_X12_copy_dressed (l : Launch) (hst : l.stackTraces = false) : q9CON O l q9TBL q9ALLW q9i_X12_copy_dressed := q9con_of (q := q9i_X12_copy_dressed) (n := q9e_X12_copy_dressed) (K := []) (K2 := []) (cuts := q9cu_X12_copy_dressed) (f := 20) hst (by decide +kernel) (fun h => absurd rfl h) ⟨q9goodA, q9fs_X12_ok, q9ps_X12_ok, (fun _ h => absurd h List.not_mem_nil), (fun _ h => absurd h List.not_mem_nil), q9kas_ok, (fun _ h => absurd h List.not_mem_nil), (fun _ h => absurd h List.not_mem_nil), (fun _ h => absurd h List.not_mem_nil)⟩ rfl rfl rfl (by decide +kernel)
noncomputable def q9i_X12_copy_keptDressed : q9INST := (yX12_copy, cX12_copy, 3, none, (1, 1, 0, 0), q9dcQ 0x100000000000000000503000000000000000200010200000201000100020003da020003ea0200000003, q9dcP 0x102000000020000000503000000000000000200010200000003da020003ea020000000301, [], [100237], [])
noncomputable def q9e_X12_copy_keptDressed : q9EN := (q9TBL, q9fs_X12, q9ps_X12, [100237], [], [], (1, 1, 0, 0), 3, [], [], [])
noncomputable def q9cu_X12_copy_keptDressed : List q9CUT := q9dcKs 0xc9abc00000603020c9abc0000030000020000000100000000000000000504000000000000000200010200000302000201000100030600000003da020003ea02000000040201
set_option maxRecDepth 100000 in
set_option maxHeartbeats 4000000 in
theorem q9c_X12_copy_keptDressed (l : Launch) (hst : l.stackTraces = false) : q9CON O l q9TBL q9ALLW q9i_X12_copy_keptDressed := q9con_of (q := q9i_X12_copy_keptDressed) (n := q9e_X12_copy_keptDressed) (K := []) (K2 := []) (cuts := q9cu_X12_copy_keptDressed) (f := 20) hst (by decide +kernel) (fun h => absurd rfl h) ⟨q9goodA, q9fs_X12_ok, q9ps_X12_ok, (fun _ h => absurd h List.not_mem_nil), (fun _ h => absurd h List.not_mem_nil), q9kas_ok, (fun _ h => absurd h List.not_mem_nil), (fun _ h => absurd h List.not_mem_nil), (fun _ h => absurd h List.not_mem_nil)⟩ rfl rfl rfl (by decide +kernel)
noncomputable def q9i_X12_copy_standsIn : q9INST := (yX12_copy, cX12_copy, 3, none, (1, 1, 0, 0), q9dcQ 0x100000000000000000503000000000000000200010200000201000100020003ec020003dc0200000003, q9dcP 0x102000000020000000503000000000000000200010200000003ec020003dc020000000301, [], [100246], [])
noncomputable def q9e_X12_copy_standsIn : q9EN := (q9TBL, q9fs_X12, q9ps_X12, [100246], [], [], (1, 1, 0, 0), 3, [], [], [])
noncomputable def q9cu_X12_copy_standsIn : List q9CUT := q9dcKs 0xc9abc00001003020c9abc0000030000020000000100000000000000000504000000000000000200010200000302000201000100031000000003ec020003dc02000000040201
set_option maxRecDepth 100000 in
set_option maxHeartbeats 4000000 in
theorem q9c_X12_copy_standsIn (l : Launch) (hst : l.stackTraces = false) : q9CON O l q9TBL q9ALLW q9i_X12_copy_standsIn := q9con_of (q := q9i_X12_copy_standsIn) (n := q9e_X12_copy_standsIn) (K := []) (K2 := []) (cuts := q9cu_X12_copy_standsIn) (f := 20) hst (by decide +kernel) (fun h => absurd rfl h) ⟨q9goodA, q9fs_X12_ok, q9ps_X12_ok, (fun _ h => absurd h List.not_mem_nil), (fun _ h => absurd h List.not_mem_nil), q9kas_ok, (fun _ h => absurd h List.not_mem_nil), (fun _ h => absurd h List.not_mem_nil), (fun _ h => absurd h List.not_mem_nil)⟩ rfl rfl rfl (by decide +kernel)
noncomputable def q9i_X12_copy_keptStands : q9INST := (yX12_copy, cX12_copy, 3, none, (1, 1, 0, 0), q9dcQ 0x100000000000000000503000000000000000200010200000201000100020003dc020003ec0200000003, q9dcP 0x102000000020000000503000000000000000200010200000003dc020003ec020000000301, [], [100238], [])
noncomputable def q9e_X12_copy_keptStands : q9EN := (q9TBL, q9fs_X12, q9ps_X12, [100238], [], [], (1, 1, 0, 0), 3, [], [], [])
noncomputable def q9cu_X12_copy_keptStands : List q9CUT := q9dcKs 0xc9abc00001003020c9abc0000030000020000000100000000000000000504000000000000000200010200000302000201000100031000000003dc020003ec02000000040201
set_option maxRecDepth 100000 in
set_option maxHeartbeats 4000000 in
theorem q9c_X12_copy_keptStands (l : Launch) (hst : l.stackTraces = false) : q9CON O l q9TBL q9ALLW q9i_X12_copy_keptStands := q9con_of (q := q9i_X12_copy_keptStands) (n := q9e_X12_copy_keptStands) (K := []) (K2 := []) (cuts := q9cu_X12_copy_keptStands) (f := 20) hst (by decide +kernel) (fun h => absurd rfl h) ⟨q9goodA, q9fs_X12_ok, q9ps_X12_ok, (fun _ h => absurd h List.not_mem_nil), (fun _ h => absurd h List.not_mem_nil), q9kas_ok, (fun _ h => absurd h List.not_mem_nil), (fun _ h => absurd h List.not_mem_nil), (fun _ h => absurd h List.not_mem_nil)⟩ rfl rfl rfl (by decide +kernel)
set_option maxRecDepth 100000 in
theorem q9wk_X12_copy : GoodIn q9ALLW [.code yX12_copy cX12_copy 3 none, .initialized (yX12_copy).cls] := q9goodW _ (List.forall_mem_cons.mpr ⟨(q9inT11 123 rfl rfl), (List.forall_mem_cons.mpr ⟨(q9inT1 12 rfl rfl), (fun _ h => absurd h List.not_mem_nil)⟩)⟩)
set_option maxRecDepth 100000 in
theorem q9wv_X12_copy : ∀ w ∈ ([.static yX12_copy] : List Cond), w ∈ q9ALLW := (List.forall_mem_cons.mpr ⟨(q9inT11 122 rfl rfl), (fun _ h => absurd h List.not_mem_nil)⟩)
set_option maxRecDepth 100000 in
theorem q9lk_X12_564_X12_copy : q9LKs q9ALLW RX12 (564, 1, 0, q9i_X12_copy) := ⟨q9wk_X12_copy, ⟨by decide, by decide, by decide +kernel⟩, q9goodW _ (List.forall_mem_cons.mpr ⟨(q9inT11 121 rfl rfl), q9wv_X12_copy⟩)⟩
set_option maxRecDepth 100000 in
theorem q9lk_X12_564_X12_copy_dressed : q9LKs q9ALLW RX12 (564, 1, 0, q9i_X12_copy_dressed) := ⟨q9wk_X12_copy, ⟨by decide, by decide, by decide +kernel⟩, q9goodW _ (List.forall_mem_cons.mpr ⟨(q9inT11 121 rfl rfl), q9wv_X12_copy⟩)⟩
set_option maxRecDepth 100000 in
theorem q9lk_X12_564_X12_copy_dressing : q9LKs q9ALLW RX12 (564, 1, 0, q9i_X12_copy_dressing) := ⟨q9wk_X12_copy, ⟨by decide, by decide, by decide +kernel⟩, q9goodW _ (List.forall_mem_cons.mpr ⟨(q9inT11 121 rfl rfl), q9wv_X12_copy⟩)⟩
set_option maxRecDepth 100000 in
theorem q9lk_X12_564_X12_copy_keptDressed : q9LKs q9ALLW RX12 (564, 1, 0, q9i_X12_copy_keptDressed) := ⟨q9wk_X12_copy, ⟨by decide, by decide, by decide +kernel⟩, q9goodW _ (List.forall_mem_cons.mpr ⟨(q9inT11 121 rfl rfl), q9wv_X12_copy⟩)⟩
set_option maxRecDepth 100000 in
theorem q9lk_X12_564_X12_copy_keptDressing : q9LKs q9ALLW RX12 (564, 1, 0, q9i_X12_copy_keptDressing) := ⟨q9wk_X12_copy, ⟨by decide, by decide, by decide +kernel⟩, q9goodW _ (List.forall_mem_cons.mpr ⟨(q9inT11 121 rfl rfl), q9wv_X12_copy⟩)⟩
set_option maxRecDepth 100000 in
theorem q9lk_X12_564_X12_copy_keptOn : q9LKs q9ALLW RX12 (564, 1, 0, q9i_X12_copy_keptOn) := ⟨q9wk_X12_copy, ⟨by decide, by decide, by decide +kernel⟩, q9goodW _ (List.forall_mem_cons.mpr ⟨(q9inT11 121 rfl rfl), q9wv_X12_copy⟩)⟩
set_option maxRecDepth 100000 in
theorem q9lk_X12_564_X12_copy_keptQueue : q9LKs q9ALLW RX12 (564, 1, 0, q9i_X12_copy_keptQueue) := ⟨q9wk_X12_copy, ⟨by decide, by decide, by decide +kernel⟩, q9goodW _ (List.forall_mem_cons.mpr ⟨(q9inT11 121 rfl rfl), q9wv_X12_copy⟩)⟩
set_option maxRecDepth 100000 in
theorem q9lk_X12_564_X12_copy_keptQueued : q9LKs q9ALLW RX12 (564, 1, 0, q9i_X12_copy_keptQueued) := ⟨q9wk_X12_copy, ⟨by decide, by decide, by decide +kernel⟩, q9goodW _ (List.forall_mem_cons.mpr ⟨(q9inT11 121 rfl rfl), q9wv_X12_copy⟩)⟩
set_option maxRecDepth 100000 in
theorem q9lk_X12_564_X12_copy_keptStands : q9LKs q9ALLW RX12 (564, 1, 0, q9i_X12_copy_keptStands) := ⟨q9wk_X12_copy, ⟨by decide, by decide, by decide +kernel⟩, q9goodW _ (List.forall_mem_cons.mpr ⟨(q9inT11 121 rfl rfl), q9wv_X12_copy⟩)⟩
set_option maxRecDepth 100000 in
theorem q9lk_X12_564_X12_copy_keptWorked : q9LKs q9ALLW RX12 (564, 1, 0, q9i_X12_copy_keptWorked) := ⟨q9wk_X12_copy, ⟨by decide, by decide, by decide +kernel⟩, q9goodW _ (List.forall_mem_cons.mpr ⟨(q9inT11 121 rfl rfl), q9wv_X12_copy⟩)⟩
set_option maxRecDepth 100000 in
theorem q9lk_X12_564_X12_copy_keptWorkedIn : q9LKs q9ALLW RX12 (564, 1, 0, q9i_X12_copy_keptWorkedIn) := ⟨q9wk_X12_copy, ⟨by decide, by decide, by decide +kernel⟩, q9goodW _ (List.forall_mem_cons.mpr ⟨(q9inT11 121 rfl rfl), q9wv_X12_copy⟩)⟩
set_option maxRecDepth 100000 in
theorem q9lk_X12_564_X12_copy_onNow : q9LKs q9ALLW RX12 (564, 1, 0, q9i_X12_copy_onNow) := ⟨q9wk_X12_copy, ⟨by decide, by decide, by decide +kernel⟩, q9goodW _ (List.forall_mem_cons.mpr ⟨(q9inT11 121 rfl rfl), q9wv_X12_copy⟩)⟩
set_option maxRecDepth 100000 in
theorem q9lk_X12_564_X12_copy_queue : q9LKs q9ALLW RX12 (564, 1, 0, q9i_X12_copy_queue) := ⟨q9wk_X12_copy, ⟨by decide, by decide, by decide +kernel⟩, q9goodW _ (List.forall_mem_cons.mpr ⟨(q9inT11 121 rfl rfl), q9wv_X12_copy⟩)⟩
set_option maxRecDepth 100000 in
theorem q9lk_X12_564_X12_copy_queued : q9LKs q9ALLW RX12 (564, 1, 0, q9i_X12_copy_queued) := ⟨q9wk_X12_copy, ⟨by decide, by decide, by decide +kernel⟩, q9goodW _ (List.forall_mem_cons.mpr ⟨(q9inT11 121 rfl rfl), q9wv_X12_copy⟩)⟩
set_option maxRecDepth 100000 in
theorem q9lk_X12_564_X12_copy_standsIn : q9LKs q9ALLW RX12 (564, 1, 0, q9i_X12_copy_standsIn) := ⟨q9wk_X12_copy, ⟨by decide, by decide, by decide +kernel⟩, q9goodW _ (List.forall_mem_cons.mpr ⟨(q9inT11 121 rfl rfl), q9wv_X12_copy⟩)⟩
set_option maxRecDepth 100000 in
theorem q9lk_X12_564_X12_copy_worked : q9LKs q9ALLW RX12 (564, 1, 0, q9i_X12_copy_worked) := ⟨q9wk_X12_copy, ⟨by decide, by decide, by decide +kernel⟩, q9goodW _ (List.forall_mem_cons.mpr ⟨(q9inT11 121 rfl rfl), q9wv_X12_copy⟩)⟩
set_option maxRecDepth 100000 in
theorem q9wk_X12_isIdle : GoodIn q9ALLW [.code yX12_isIdle cX12_isIdle 1 (some .boolean), .initialized (yX12_isIdle).cls] := q9goodW _ (List.forall_mem_cons.mpr ⟨(q9inT11 127 rfl rfl), (List.forall_mem_cons.mpr ⟨(q9inT1 12 rfl rfl), (fun _ h => absurd h List.not_mem_nil)⟩)⟩)
set_option maxRecDepth 100000 in
theorem q9wv_X12_isIdle : ∀ w ∈ ([.instanceMethod yX12_isIdle, .selects (yX12_isIdle).cls yX12_isIdle yX12_isIdle] : List Cond), w ∈ q9ALLW := (List.forall_mem_cons.mpr ⟨(q9inT11 126 rfl rfl), (List.forall_mem_cons.mpr ⟨(q9inW 116 rfl rfl), (fun _ h => absurd h List.not_mem_nil)⟩)⟩)
set_option maxRecDepth 100000 in
theorem q9lk_X12_568_X12_isIdle : q9LKs q9ALLW RX12 (568, 0, 12, q9i_X12_isIdle) := ⟨q9wk_X12_isIdle, ⟨by decide, by decide, by decide +kernel⟩, q9goodW _ (List.forall_mem_cons.mpr ⟨(q9inT11 124 rfl rfl), q9wv_X12_isIdle⟩), _, rfl, rfl⟩
