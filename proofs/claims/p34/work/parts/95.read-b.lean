variable {O : ORC}
noncomputable def q9i_X12_E_readEase : q9INST := (yX12_readEase, cX12_readEase, 3, (some .int), (2, 21, 0, 0), q9dcQ 0xf0103000000000000000503000000000000020f0101000101000001000106a0000000180200000003, q9dcP 0x20000000502000000000000000101000001000018020000000201, [], [], [])
noncomputable def q9e_X12_E_readEase : q9EN := (q9TBL, q9fs_X12, q9ps_X12, [], [(302, 0, 12, q9i_X12_F_fine0)], [], (2, 21, 0, 0), 3, [], [], [])
noncomputable def q9cu_X12_E_readEase : List q9CUT := []
set_option maxRecDepth 100000 in
set_option maxHeartbeats 4000000 in
theorem q9c_X12_E_readEase (l : Launch) (hst : l.stackTraces = false) : q9CON O l q9TBL q9ALLW q9i_X12_E_readEase := q9con_of (q := q9i_X12_E_readEase) (n := q9e_X12_E_readEase) (K := []) (K2 := []) (cuts := q9cu_X12_E_readEase) (f := 10) hst (by decide +kernel) (fun h => absurd rfl h) ⟨q9goodA, q9fs_X12_ok, q9ps_X12_ok, (List.forall_mem_cons.mpr ⟨⟨⟨q9c_X12_F_fine0 l hst, q9lk_X12_302_X12_F_fine0⟩, rfl⟩, (fun _ h => absurd h List.not_mem_nil)⟩), (fun _ h => absurd h List.not_mem_nil), q9kas_ok, (fun _ h => absurd h List.not_mem_nil), (fun _ h => absurd h List.not_mem_nil), (fun _ h => absurd h List.not_mem_nil)⟩ rfl rfl rfl (by decide +kernel)
set_option maxRecDepth 100000 in
theorem q9lk_X12_321_X12_E_number : q9LKs q9ALLW RX12 (321, 0, 12, q9i_X12_E_number) := ⟨q9wk_X12_number, ⟨by decide, by decide, by decide +kernel⟩, q9goodW _ (List.forall_mem_cons.mpr ⟨(q9inT10 11 rfl rfl), q9wv_X12_number⟩), _, rfl, rfl⟩
set_option maxRecDepth 100000 in
theorem q9wk_X12_readWho : GoodIn q9ALLW [.code yX12_readWho cX12_readWho 2 (some .int), .initialized (yX12_readWho).cls] := q9goodW _ (List.forall_mem_cons.mpr ⟨(q9inT10 27 rfl rfl), (List.forall_mem_cons.mpr ⟨(q9inT1 12 rfl rfl), (fun _ h => absurd h List.not_mem_nil)⟩)⟩)
set_option maxRecDepth 100000 in
theorem q9wv_X12_readWho : ∀ w ∈ ([.instanceMethod yX12_readWho, .selects (yX12_readWho).cls yX12_readWho yX12_readWho] : List Cond), w ∈ q9ALLW := (List.forall_mem_cons.mpr ⟨(q9inT10 26 rfl rfl), (List.forall_mem_cons.mpr ⟨(q9inW 73 rfl rfl), (fun _ h => absurd h List.not_mem_nil)⟩)⟩)
set_option maxRecDepth 100000 in
theorem q9wk_X12_need : GoodIn q9ALLW [.code yX12_need cX12_need 2 none, .initialized (yX12_need).cls] := q9goodW _ (List.forall_mem_cons.mpr ⟨(q9inT10 31 rfl rfl), (List.forall_mem_cons.mpr ⟨(q9inT1 12 rfl rfl), (fun _ h => absurd h List.not_mem_nil)⟩)⟩)
set_option maxRecDepth 100000 in
theorem q9wv_X12_need : ∀ w ∈ ([.instanceMethod yX12_need, .selects (yX12_need).cls yX12_need yX12_need] : List Cond), w ∈ q9ALLW := (List.forall_mem_cons.mpr ⟨(q9inT10 30 rfl rfl), (List.forall_mem_cons.mpr ⟨(q9inW 74 rfl rfl), (fun _ h => absurd h List.not_mem_nil)⟩)⟩)
set_option maxRecDepth 100000 in
theorem q9lk_X12_338_X12_E_need : q9LKs q9ALLW RX12 (338, 0, 12, q9i_X12_E_need) := ⟨q9wk_X12_need, ⟨by decide, by decide, by decide +kernel⟩, q9goodW _ (List.forall_mem_cons.mpr ⟨(q9inT10 28 rfl rfl), q9wv_X12_need⟩), _, rfl, rfl⟩
set_option maxRecDepth 100000 in
theorem q9wk_X12_needWord : GoodIn q9ALLW [.code yX12_needWord cX12_needWord 2 none, .initialized (yX12_needWord).cls] := q9goodW _ (List.forall_mem_cons.mpr ⟨(q9inT10 35 rfl rfl), (List.forall_mem_cons.mpr ⟨(q9inT1 12 rfl rfl), (fun _ h => absurd h List.not_mem_nil)⟩)⟩)
set_option maxRecDepth 100000 in
theorem q9wv_X12_needWord : ∀ w ∈ ([.instanceMethod yX12_needWord, .selects (yX12_needWord).cls yX12_needWord yX12_needWord] : List Cond), w ∈ q9ALLW := (List.forall_mem_cons.mpr ⟨(q9inT10 34 rfl rfl), (List.forall_mem_cons.mpr ⟨(q9inW 75 rfl rfl), (fun _ h => absurd h List.not_mem_nil)⟩)⟩)
set_option maxRecDepth 100000 in
theorem q9lk_X12_342_X12_E_needWord : q9LKs q9ALLW RX12 (342, 0, 12, q9i_X12_E_needWord) := ⟨q9wk_X12_needWord, ⟨by decide, by decide, by decide +kernel⟩, q9goodW _ (List.forall_mem_cons.mpr ⟨(q9inT10 32 rfl rfl), q9wv_X12_needWord⟩), _, rfl, rfl⟩
set_option maxRecDepth 100000 in
theorem q9wk_X12_readEase : GoodIn q9ALLW [.code yX12_readEase cX12_readEase 3 (some .int), .initialized (yX12_readEase).cls] := q9goodW _ (List.forall_mem_cons.mpr ⟨(q9inT10 39 rfl rfl), (List.forall_mem_cons.mpr ⟨(q9inT1 12 rfl rfl), (fun _ h => absurd h List.not_mem_nil)⟩)⟩)
set_option maxRecDepth 100000 in
theorem q9wv_X12_readEase : ∀ w ∈ ([.instanceMethod yX12_readEase, .selects (yX12_readEase).cls yX12_readEase yX12_readEase] : List Cond), w ∈ q9ALLW := (List.forall_mem_cons.mpr ⟨(q9inT10 38 rfl rfl), (List.forall_mem_cons.mpr ⟨(q9inW 76 rfl rfl), (fun _ h => absurd h List.not_mem_nil)⟩)⟩)
set_option maxRecDepth 100000 in
theorem q9lk_X12_345_X12_E_readEase : q9LKs q9ALLW RX12 (345, 0, 12, q9i_X12_E_readEase) := ⟨q9wk_X12_readEase, ⟨by decide, by decide, by decide +kernel⟩, q9goodW _ (List.forall_mem_cons.mpr ⟨(q9inT10 36 rfl rfl), q9wv_X12_readEase⟩), _, rfl, rfl⟩
set_option maxRecDepth 100000 in
theorem q9wk_X12_kindOf : GoodIn q9ALLW [.code yX12_kindOf cX12_kindOf 1 (some .int), .initialized (yX12_kindOf).cls] := q9goodW _ (List.forall_mem_cons.mpr ⟨(q9inT9 237 rfl rfl), (List.forall_mem_cons.mpr ⟨(q9inT1 12 rfl rfl), (fun _ h => absurd h List.not_mem_nil)⟩)⟩)
set_option maxRecDepth 100000 in
theorem q9wv_X12_kindOf : ∀ w ∈ ([.static yX12_kindOf] : List Cond), w ∈ q9ALLW := (List.forall_mem_cons.mpr ⟨(q9inT9 236 rfl rfl), (fun _ h => absurd h List.not_mem_nil)⟩)
set_option maxRecDepth 100000 in
theorem q9wk_X12_readMove : GoodIn q9ALLW [.code yX12_readMove cX12_readMove 7 none, .initialized (yX12_readMove).cls] := q9goodW _ (List.forall_mem_cons.mpr ⟨(q9inT10 23 rfl rfl), (List.forall_mem_cons.mpr ⟨(q9inT1 12 rfl rfl), (fun _ h => absurd h List.not_mem_nil)⟩)⟩)
set_option maxRecDepth 100000 in
theorem q9wv_X12_readMove : ∀ w ∈ ([.instanceMethod yX12_readMove, .selects (yX12_readMove).cls yX12_readMove yX12_readMove] : List Cond), w ∈ q9ALLW := (List.forall_mem_cons.mpr ⟨(q9inT10 22 rfl rfl), (List.forall_mem_cons.mpr ⟨(q9inW 72 rfl rfl), (fun _ h => absurd h List.not_mem_nil)⟩)⟩)
set_option maxRecDepth 100000 in
theorem q9wk_X12_readSay : GoodIn q9ALLW [.code yX12_readSay cX12_readSay 3 none, .initialized (yX12_readSay).cls] := q9goodW _ (List.forall_mem_cons.mpr ⟨(q9inT10 47 rfl rfl), (List.forall_mem_cons.mpr ⟨(q9inT1 12 rfl rfl), (fun _ h => absurd h List.not_mem_nil)⟩)⟩)
set_option maxRecDepth 100000 in
theorem q9wv_X12_readSay : ∀ w ∈ ([.instanceMethod yX12_readSay, .selects (yX12_readSay).cls yX12_readSay yX12_readSay] : List Cond), w ∈ q9ALLW := (List.forall_mem_cons.mpr ⟨(q9inT10 46 rfl rfl), (List.forall_mem_cons.mpr ⟨(q9inW 77 rfl rfl), (fun _ h => absurd h List.not_mem_nil)⟩)⟩)
set_option maxRecDepth 100000 in
theorem q9wk_X12_readRig : GoodIn q9ALLW [.code yX12_readRig cX12_readRig 3 none, .initialized (yX12_readRig).cls] := q9goodW _ (List.forall_mem_cons.mpr ⟨(q9inT10 51 rfl rfl), (List.forall_mem_cons.mpr ⟨(q9inT1 12 rfl rfl), (fun _ h => absurd h List.not_mem_nil)⟩)⟩)
set_option maxRecDepth 100000 in
theorem q9wv_X12_readRig : ∀ w ∈ ([.instanceMethod yX12_readRig, .selects (yX12_readRig).cls yX12_readRig yX12_readRig] : List Cond), w ∈ q9ALLW := (List.forall_mem_cons.mpr ⟨(q9inT10 50 rfl rfl), (List.forall_mem_cons.mpr ⟨(q9inW 78 rfl rfl), (fun _ h => absurd h List.not_mem_nil)⟩)⟩)
set_option maxRecDepth 100000 in
theorem q9wk_X12_readCamera : GoodIn q9ALLW [.code yX12_readCamera cX12_readCamera 3 none, .initialized (yX12_readCamera).cls] := q9goodW _ (List.forall_mem_cons.mpr ⟨(q9inT10 55 rfl rfl), (List.forall_mem_cons.mpr ⟨(q9inT1 12 rfl rfl), (fun _ h => absurd h List.not_mem_nil)⟩)⟩)
set_option maxRecDepth 100000 in
theorem q9wv_X12_readCamera : ∀ w ∈ ([.instanceMethod yX12_readCamera, .selects (yX12_readCamera).cls yX12_readCamera yX12_readCamera] : List Cond), w ∈ q9ALLW := (List.forall_mem_cons.mpr ⟨(q9inT10 54 rfl rfl), (List.forall_mem_cons.mpr ⟨(q9inW 79 rfl rfl), (fun _ h => absurd h List.not_mem_nil)⟩)⟩)
set_option maxRecDepth 100000 in
theorem q9wk_X12_readOne : GoodIn q9ALLW [.code yX12_readOne cX12_readOne 4 none, .initialized (yX12_readOne).cls] := q9goodW _ (List.forall_mem_cons.mpr ⟨(q9inT9 227 rfl rfl), (List.forall_mem_cons.mpr ⟨(q9inT1 12 rfl rfl), (fun _ h => absurd h List.not_mem_nil)⟩)⟩)
set_option maxRecDepth 100000 in
theorem q9wv_X12_readOne : ∀ w ∈ ([.instanceMethod yX12_readOne, .selects (yX12_readOne).cls yX12_readOne yX12_readOne] : List Cond), w ∈ q9ALLW := (List.forall_mem_cons.mpr ⟨(q9inT9 226 rfl rfl), (List.forall_mem_cons.mpr ⟨(q9inW 67 rfl rfl), (fun _ h => absurd h List.not_mem_nil)⟩)⟩)
set_option maxRecDepth 100000 in
theorem q9wk_X12_readRepeat : GoodIn q9ALLW [.code yX12_readRepeat cX12_readRepeat 3 none, .initialized (yX12_readRepeat).cls] := q9goodW _ (List.forall_mem_cons.mpr ⟨(q9inT10 61 rfl rfl), (List.forall_mem_cons.mpr ⟨(q9inT1 12 rfl rfl), (fun _ h => absurd h List.not_mem_nil)⟩)⟩)
set_option maxRecDepth 100000 in
theorem q9wv_X12_readRepeat : ∀ w ∈ ([.instanceMethod yX12_readRepeat, .selects (yX12_readRepeat).cls yX12_readRepeat yX12_readRepeat] : List Cond), w ∈ q9ALLW := (List.forall_mem_cons.mpr ⟨(q9inT10 60 rfl rfl), (List.forall_mem_cons.mpr ⟨(q9inW 80 rfl rfl), (fun _ h => absurd h List.not_mem_nil)⟩)⟩)
