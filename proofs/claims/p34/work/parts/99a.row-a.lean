variable {O : ORC}
noncomputable def q9i_X12_F_within : q9INST := (yX12_within, cX12_within, 3, (some .boolean), (1, 1, 0, 0), q9dcQ 0x200000001000000000000000005040000000003010001020200000003000200010300000302000201000100030ffffffffe0fffffffff000ffffffffe0fffffffff000ffffffffe0fffffffff0000000004, q9dcP 0x2020000010200000002000000050400000000030200010200030103000000030002000103020001000ffffffffe0fffffffff000ffffffffe0fffffffff000ffffffffe0fffffffff000000000401, [], [], [])
noncomputable def q9e_X12_F_within : q9EN := (q9TBL, q9fs_X12, q9ps_X12, [], [], [], (1, 1, 0, 0), 3, [], [], [])
noncomputable def q9cu_X12_F_within : List q9CUT := []
set_option maxRecDepth 100000 in
set_option maxHeartbeats 4000000 in
theorem q9c_X12_F_within (l : Launch) (hst : l.stackTraces = false) : q9CON O l q9TBL q9ALLW q9i_X12_F_within := q9con_of (q := q9i_X12_F_within) (n := q9e_X12_F_within) (K := []) (K2 := []) (cuts := q9cu_X12_F_within) (f := 14) hst (by decide +kernel) (fun h => absurd rfl h) ⟨q9goodA, q9fs_X12_ok, q9ps_X12_ok, (fun _ h => absurd h List.not_mem_nil), (fun _ h => absurd h List.not_mem_nil), q9kas_ok, (fun _ h => absurd h List.not_mem_nil), (fun _ h => absurd h List.not_mem_nil), (fun _ h => absurd h List.not_mem_nil)⟩ rfl rfl rfl (by decide +kernel)
noncomputable def q9i_X12_L_within : q9INST := (yX12_within, cX12_within, 3, (some .boolean), (1, 1, 0, 0), q9dcQ 0x200000001000000000000000005040000000102010100000003000200010300000302000201000100030ffffffffe0fffffffff000ffffffffe0fffffffff000ffffffffe0fffffffff0000000004, q9dcP 0x2020000010200000002000000050400000001020101000000030002000103000001000ffffffffe0fffffffff000ffffffffe0ffffffffd000ffffffffc0fffffffff000000000401, [], [], [])
noncomputable def q9e_X12_L_within : q9EN := (q9TBL, q9fs_X12, q9ps_X12, [], [], [], (1, 1, 0, 0), 3, [], [], [])
noncomputable def q9cu_X12_L_within : List q9CUT := []
set_option maxRecDepth 100000 in
set_option maxHeartbeats 4000000 in
theorem q9c_X12_L_within (l : Launch) (hst : l.stackTraces = false) : q9CON O l q9TBL q9ALLW q9i_X12_L_within := q9con_of (q := q9i_X12_L_within) (n := q9e_X12_L_within) (K := []) (K2 := []) (cuts := q9cu_X12_L_within) (f := 10) hst (by decide +kernel) (fun h => absurd rfl h) ⟨q9goodA, q9fs_X12_ok, q9ps_X12_ok, (fun _ h => absurd h List.not_mem_nil), (fun _ h => absurd h List.not_mem_nil), q9kas_ok, (fun _ h => absurd h List.not_mem_nil), (fun _ h => absurd h List.not_mem_nil), (fun _ h => absurd h List.not_mem_nil)⟩ rfl rfl rfl (by decide +kernel)
noncomputable def q9i_X12_M_within : q9INST := (yX12_within, cX12_within, 3, (some .boolean), (1, 1, 0, 0), q9dcQ 0x200000001000000000000000005040000000101030100000003000200010300000302000201000100030ffffffffe0fffffffff000ffffffffe0fffffffff000ffffffffe0fffffffff0000000004, q9dcP 0x2020000010200000002000000050400000001010301000000030002000103000001000ffffffffc0fffffffff000ffffffffe0fffffffff000ffffffffe0ffffffffd000000000401, [], [], [])
noncomputable def q9e_X12_M_within : q9EN := (q9TBL, q9fs_X12, q9ps_X12, [], [], [], (1, 1, 0, 0), 3, [], [], [])
noncomputable def q9cu_X12_M_within : List q9CUT := []
set_option maxRecDepth 100000 in
set_option maxHeartbeats 4000000 in
theorem q9c_X12_M_within (l : Launch) (hst : l.stackTraces = false) : q9CON O l q9TBL q9ALLW q9i_X12_M_within := q9con_of (q := q9i_X12_M_within) (n := q9e_X12_M_within) (K := []) (K2 := []) (cuts := q9cu_X12_M_within) (f := 15) hst (by decide +kernel) (fun h => absurd rfl h) ⟨q9goodA, q9fs_X12_ok, q9ps_X12_ok, (fun _ h => absurd h List.not_mem_nil), (fun _ h => absurd h List.not_mem_nil), q9kas_ok, (fun _ h => absurd h List.not_mem_nil), (fun _ h => absurd h List.not_mem_nil), (fun _ h => absurd h List.not_mem_nil)⟩ rfl rfl rfl (by decide +kernel)
