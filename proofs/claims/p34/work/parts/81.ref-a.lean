variable {O : ORC}
noncomputable def q9i_X11_within : q9INST := (yX11_within, cX11_within, 3, (some .boolean), (1, 1, 0, 0), q9dcQ 0x200000001000000000000000005040000000000000003000200010300000302000201000100030ffffffffe0fffffffff000ffffffffe0fffffffff000ffffffffe0fffffffff0000000004, q9dcP 0x2020000010200000002000000050400000000030200010200030103000000030002000103020001000ffffffffe0fffffffff000ffffffffe0fffffffff000ffffffffe0fffffffff0000000004000002020000010200000002000000050400000000000000030002000103000001000ffffffffe0fffffffff000ffffffffe0fffffffff000ffffffffe0fffffffff000000000402, [], [], [])
noncomputable def q9e_X11_within : q9EN := (q9TBL, q9fs_X11, q9ps_X11, [], [], [], (1, 1, 0, 0), 3, [], [], [])
noncomputable def q9cu_X11_within : List q9CUT := []
set_option maxRecDepth 100000 in
set_option maxHeartbeats 4000000 in
theorem q9c_X11_within (l : Launch) (hst : l.stackTraces = false) : q9CON O l q9TBL q9ALLW q9i_X11_within := q9con_of (q := q9i_X11_within) (n := q9e_X11_within) (K := []) (K2 := []) (cuts := q9cu_X11_within) (f := 18) hst (by decide +kernel) (fun h => absurd rfl h) ⟨q9goodA, q9fs_X11_ok, q9ps_X11_ok, (fun _ h => absurd h List.not_mem_nil), (fun _ h => absurd h List.not_mem_nil), q9kas_ok, (fun _ h => absurd h List.not_mem_nil), (fun _ h => absurd h List.not_mem_nil), (fun _ h => absurd h List.not_mem_nil)⟩ rfl rfl rfl (by decide +kernel)
noncomputable def q9i_X12_within : q9INST := (yX12_within, cX12_within, 3, (some .boolean), (1, 1, 0, 0), q9dcQ 0x200000001000000000000000005040000000000000003000200010300000302000201000100030ffffffffe0fffffffff000ffffffffe0fffffffff000ffffffffe0fffffffff0000000004, q9dcP 0x2020000010200000002000000050400000000030200010200030103000000030002000103020001000ffffffffe0fffffffff000ffffffffe0fffffffff000ffffffffe0fffffffff0000000004000002020000010200000002000000050400000000000000030002000103000001000ffffffffe0fffffffff000ffffffffe0fffffffff000ffffffffe0fffffffff000000000402, [], [], [])
noncomputable def q9e_X12_within : q9EN := (q9TBL, q9fs_X12, q9ps_X12, [], [], [], (1, 1, 0, 0), 3, [], [], [])
noncomputable def q9cu_X12_within : List q9CUT := []
set_option maxRecDepth 100000 in
set_option maxHeartbeats 4000000 in
theorem q9c_X12_within (l : Launch) (hst : l.stackTraces = false) : q9CON O l q9TBL q9ALLW q9i_X12_within := q9con_of (q := q9i_X12_within) (n := q9e_X12_within) (K := []) (K2 := []) (cuts := q9cu_X12_within) (f := 18) hst (by decide +kernel) (fun h => absurd rfl h) ⟨q9goodA, q9fs_X12_ok, q9ps_X12_ok, (fun _ h => absurd h List.not_mem_nil), (fun _ h => absurd h List.not_mem_nil), q9kas_ok, (fun _ h => absurd h List.not_mem_nil), (fun _ h => absurd h List.not_mem_nil), (fun _ h => absurd h List.not_mem_nil)⟩ rfl rfl rfl (by decide +kernel)
noncomputable def q9i_X11_hasBit : q9INST := (yX11_hasBit, cX11_hasBit, 2, (some .boolean), (1, 1, 0, 0), q9dcQ 0x100000000000000000503000000000000000200010200000201000100020ffffffffe0fffffffff000ffffffffe0fffffffff0000000003, q9dcP 0x1020000000200000005030000000000000002000102020001003e00000ffffffffe0fffffffff0000000003000001020000000200000005030000000000000002000102000001000ffffffffe0fffffffff000ffffffffe0fffffffff000000000302, [], [], [])
noncomputable def q9e_X11_hasBit : q9EN := (q9TBL, q9fs_X11, q9ps_X11, [], [], [], (1, 1, 0, 0), 2, [], [], [])
noncomputable def q9cu_X11_hasBit : List q9CUT := []
set_option maxRecDepth 100000 in
set_option maxHeartbeats 4000000 in
theorem q9c_X11_hasBit (l : Launch) (hst : l.stackTraces = false) : q9CON O l q9TBL q9ALLW q9i_X11_hasBit := q9con_of (q := q9i_X11_hasBit) (n := q9e_X11_hasBit) (K := []) (K2 := []) (cuts := q9cu_X11_hasBit) (f := 25) hst (by decide +kernel) (fun h => absurd rfl h) ⟨q9goodA, q9fs_X11_ok, q9ps_X11_ok, (fun _ h => absurd h List.not_mem_nil), (fun _ h => absurd h List.not_mem_nil), q9kas_ok, (fun _ h => absurd h List.not_mem_nil), (fun _ h => absurd h List.not_mem_nil), (fun _ h => absurd h List.not_mem_nil)⟩ rfl rfl rfl (by decide +kernel)
noncomputable def q9i_X12_may : q9INST := (yX12_may, cX12_may, 3, (some .boolean), (1, 1, 0, 0), q9dcQ 0x2000000010000000000000000050400000000000000030002000103000003020002010001000306020002000000180200000004, q9dcP 0x20200000102000000020000000504000000000000000300020001030200010006020002020000180200000004000002020000010200000002000000050400000000000000030002000103000001000602000200000018020000000402, [], [768], [])
noncomputable def q9e_X12_may : q9EN := (q9TBL, q9fs_X12, q9ps_X12, [768], [], [], (1, 1, 0, 0), 3, [], [], [])
noncomputable def q9cu_X12_may : List q9CUT := []
set_option maxRecDepth 100000 in
set_option maxHeartbeats 4000000 in
theorem q9c_X12_may (l : Launch) (hst : l.stackTraces = false) : q9CON O l q9TBL q9ALLW q9i_X12_may := q9con_of (q := q9i_X12_may) (n := q9e_X12_may) (K := []) (K2 := []) (cuts := q9cu_X12_may) (f := 31) hst (by decide +kernel) (fun h => absurd rfl h) ⟨q9goodA, q9fs_X12_ok, q9ps_X12_ok, (fun _ h => absurd h List.not_mem_nil), (fun _ h => absurd h List.not_mem_nil), q9kas_ok, (fun _ h => absurd h List.not_mem_nil), (fun _ h => absurd h List.not_mem_nil), (fun _ h => absurd h List.not_mem_nil)⟩ rfl rfl rfl (by decide +kernel)
set_option maxRecDepth 100000 in
theorem q9wk_X12_within : GoodIn q9ALLW [.code yX12_within cX12_within 3 (some .boolean), .initialized (yX12_within).cls] := q9goodW _ (List.forall_mem_cons.mpr ⟨(q9inT9 187 rfl rfl), (List.forall_mem_cons.mpr ⟨(q9inT1 12 rfl rfl), (fun _ h => absurd h List.not_mem_nil)⟩)⟩)
set_option maxRecDepth 100000 in
theorem q9wv_X12_within : ∀ w ∈ ([.static yX12_within] : List Cond), w ∈ q9ALLW := (List.forall_mem_cons.mpr ⟨(q9inT9 186 rfl rfl), (fun _ h => absurd h List.not_mem_nil)⟩)
set_option maxRecDepth 100000 in
theorem q9lk_X12_267_X12_within : q9LKs q9ALLW RX12 (267, 1, 0, q9i_X12_within) := ⟨q9wk_X12_within, ⟨by decide, by decide, by decide +kernel⟩, q9goodW _ (List.forall_mem_cons.mpr ⟨(q9inT9 185 rfl rfl), q9wv_X12_within⟩)⟩
set_option maxRecDepth 100000 in
theorem q9wk_X12_may : GoodIn q9ALLW [.code yX12_may cX12_may 3 (some .boolean), .initialized (yX12_may).cls] := q9goodW _ (List.forall_mem_cons.mpr ⟨(q9inT9 191 rfl rfl), (List.forall_mem_cons.mpr ⟨(q9inT1 12 rfl rfl), (fun _ h => absurd h List.not_mem_nil)⟩)⟩)
set_option maxRecDepth 100000 in
theorem q9wv_X12_may : ∀ w ∈ ([.instanceMethod yX12_may, .selects (yX12_may).cls yX12_may yX12_may] : List Cond), w ∈ q9ALLW := (List.forall_mem_cons.mpr ⟨(q9inT9 190 rfl rfl), (List.forall_mem_cons.mpr ⟨(q9inW 63 rfl rfl), (fun _ h => absurd h List.not_mem_nil)⟩)⟩)
set_option maxRecDepth 100000 in
theorem q9lk_X12_271_X12_may : q9LKs q9ALLW RX12 (271, 0, 12, q9i_X12_may) := ⟨q9wk_X12_may, ⟨by decide, by decide, by decide +kernel⟩, q9goodW _ (List.forall_mem_cons.mpr ⟨(q9inT9 188 rfl rfl), q9wv_X12_may⟩), _, rfl, rfl⟩
noncomputable def q9i_X12_isPuppet : q9INST := (yX12_isPuppet, cX12_isPuppet, 3, (some .boolean), (2, 23, 0, 0), q9dcQ 0x200000001000000000000000005040000000000000003000200010300000302000201000100030602000ffffffffe0fffffffff0000180200000004, q9dcP 0x1010300000202000001020000000200000005050000000104020100000401010100030002000103020001001002000602000e0000001802000000050001010300000202000001020000000200000005050000000000000401010100030002000103000001001000000602000ffffffffe0fffffffff000018020000000502, [], [768], [])
noncomputable def q9e_X12_isPuppet : q9EN := (q9TBL, q9fs_X12, q9ps_X12, [768], [(271, 0, 12, q9i_X12_may)], [(267, 1, 0, q9i_X12_within)], (2, 23, 0, 0), 3, [], [], [])
noncomputable def q9cu_X12_isPuppet : List q9CUT := []
set_option maxRecDepth 100000 in
set_option maxHeartbeats 4000000 in
theorem q9c_X12_isPuppet (l : Launch) (hst : l.stackTraces = false) : q9CON O l q9TBL q9ALLW q9i_X12_isPuppet := q9con_of (q := q9i_X12_isPuppet) (n := q9e_X12_isPuppet) (K := []) (K2 := []) (cuts := q9cu_X12_isPuppet) (f := 20) hst (by decide +kernel) (fun h => absurd rfl h) ⟨q9goodA, q9fs_X12_ok, q9ps_X12_ok, (List.forall_mem_cons.mpr ⟨⟨⟨q9c_X12_may l hst, q9lk_X12_271_X12_may⟩, rfl⟩, (fun _ h => absurd h List.not_mem_nil)⟩), (List.forall_mem_cons.mpr ⟨⟨⟨q9c_X12_within l hst, q9lk_X12_267_X12_within⟩, by decide⟩, (fun _ h => absurd h List.not_mem_nil)⟩), q9kas_ok, (fun _ h => absurd h List.not_mem_nil), (fun _ h => absurd h List.not_mem_nil), (fun _ h => absurd h List.not_mem_nil)⟩ rfl rfl rfl (by decide +kernel)
set_option maxRecDepth 100000 in
theorem q9wk_X12_isSmall : GoodIn q9ALLW [.code yX12_isSmall cX12_isSmall 1 (some .boolean), .initialized (yX12_isSmall).cls] := q9goodW _ (List.forall_mem_cons.mpr ⟨(q9inT9 234 rfl rfl), (List.forall_mem_cons.mpr ⟨(q9inT1 12 rfl rfl), (fun _ h => absurd h List.not_mem_nil)⟩)⟩)
set_option maxRecDepth 100000 in
theorem q9wv_X12_isSmall : ∀ w ∈ ([.static yX12_isSmall] : List Cond), w ∈ q9ALLW := (List.forall_mem_cons.mpr ⟨(q9inT9 233 rfl rfl), (fun _ h => absurd h List.not_mem_nil)⟩)
set_option maxRecDepth 100000 in
theorem q9wk_X12_isPuppet : GoodIn q9ALLW [.code yX12_isPuppet cX12_isPuppet 3 (some .boolean), .initialized (yX12_isPuppet).cls] := q9goodW _ (List.forall_mem_cons.mpr ⟨(q9inT9 184 rfl rfl), (List.forall_mem_cons.mpr ⟨(q9inT1 12 rfl rfl), (fun _ h => absurd h List.not_mem_nil)⟩)⟩)
set_option maxRecDepth 100000 in
theorem q9wv_X12_isPuppet : ∀ w ∈ ([.instanceMethod yX12_isPuppet, .selects (yX12_isPuppet).cls yX12_isPuppet yX12_isPuppet] : List Cond), w ∈ q9ALLW := (List.forall_mem_cons.mpr ⟨(q9inT9 183 rfl rfl), (List.forall_mem_cons.mpr ⟨(q9inW 62 rfl rfl), (fun _ h => absurd h List.not_mem_nil)⟩)⟩)
set_option maxRecDepth 100000 in
theorem q9lk_X12_275_X12_isPuppet : q9LKs q9ALLW RX12 (275, 0, 12, q9i_X12_isPuppet) := ⟨q9wk_X12_isPuppet, ⟨by decide, by decide, by decide +kernel⟩, q9goodW _ (List.forall_mem_cons.mpr ⟨(q9inT9 181 rfl rfl), q9wv_X12_isPuppet⟩), _, rfl, rfl⟩
noncomputable def q9i_X12_sound : q9INST := (yX12_sound, cX12_sound, 4, (some .int), (2, 23, 0, 0), q9dcQ 0x200000001000000000000000005040000000000000003000200010300000302000201000100030ffffffffe0fffffffff000ffffffffe0fffffffff0000180200000004, q9dcP 0x1000002020000010200000002000000050500000000000000030002000103000401000ffffffffe0fffffffff000ffffffffe0fffffffff000ffffffffe0fffffffff000018020000000501, [], [768, 100176], [])
noncomputable def q9e_X12_sound : q9EN := (q9TBL, q9fs_X12, q9ps_X12, [768, 100176], [(271, 0, 12, q9i_X12_may)], [(267, 1, 0, q9i_X12_within)], (2, 23, 0, 0), 4, [], [], [])
noncomputable def q9cu_X12_sound : List q9CUT := []
set_option maxRecDepth 100000 in
set_option maxHeartbeats 4000000 in
theorem q9c_X12_sound (l : Launch) (hst : l.stackTraces = false) : q9CON O l q9TBL q9ALLW q9i_X12_sound := q9con_of (q := q9i_X12_sound) (n := q9e_X12_sound) (K := []) (K2 := []) (cuts := q9cu_X12_sound) (f := 53) hst (by decide +kernel) (fun h => absurd rfl h) ⟨q9goodA, q9fs_X12_ok, q9ps_X12_ok, (List.forall_mem_cons.mpr ⟨⟨⟨q9c_X12_may l hst, q9lk_X12_271_X12_may⟩, rfl⟩, (fun _ h => absurd h List.not_mem_nil)⟩), (List.forall_mem_cons.mpr ⟨⟨⟨q9c_X12_within l hst, q9lk_X12_267_X12_within⟩, by decide⟩, (fun _ h => absurd h List.not_mem_nil)⟩), q9kas_ok, (fun _ h => absurd h List.not_mem_nil), (fun _ h => absurd h List.not_mem_nil), (fun _ h => absurd h List.not_mem_nil)⟩ rfl rfl rfl (by decide +kernel)
noncomputable def q9i_X12_F_fine0 : q9INST := (yX12_fine, cX12_fine, 1, (some .boolean), (1, 1, 0, 0), q9dcQ 0xf0103000000000000000503000000000000020f01010002000102000001000106a0000000180200000003, q9dcP 0xf010300000102000000020000000504000000000203000302020000030f010100020001020000010006a0000006a000000018020000000401, [], [], [])
noncomputable def q9e_X12_F_fine0 : q9EN := (q9TBL, q9fs_X12, q9ps_X12, [], [], [], (1, 1, 0, 0), 1, [], [], [])
noncomputable def q9cu_X12_F_fine0 : List q9CUT := []
set_option maxRecDepth 100000 in
set_option maxHeartbeats 4000000 in
theorem q9c_X12_F_fine0 (l : Launch) (hst : l.stackTraces = false) : q9CON O l q9TBL q9ALLW q9i_X12_F_fine0 := q9con_of (q := q9i_X12_F_fine0) (n := q9e_X12_F_fine0) (K := []) (K2 := []) (cuts := q9cu_X12_F_fine0) (f := 11) hst (by decide +kernel) (fun h => absurd rfl h) ⟨q9goodA, q9fs_X12_ok, q9ps_X12_ok, (fun _ h => absurd h List.not_mem_nil), (fun _ h => absurd h List.not_mem_nil), q9kas_ok, (fun _ h => absurd h List.not_mem_nil), (fun _ h => absurd h List.not_mem_nil), (fun _ h => absurd h List.not_mem_nil)⟩ rfl rfl rfl (by decide +kernel)
