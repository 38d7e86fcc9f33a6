variable {O : ORC}
set_option maxRecDepth 100000 in
theorem q9wk_X10_wordIs : GoodIn q9ALLW [.code yX10_wordIs cX10_wordIs 3 (some .boolean), .initialized (yX10_wordIs).cls] := q9goodW _ (List.forall_mem_cons.mpr ⟨(q9inT4 225 rfl rfl), (List.forall_mem_cons.mpr ⟨(q9inT1 5 rfl rfl), (fun _ h => absurd h List.not_mem_nil)⟩)⟩)
set_option maxRecDepth 100000 in
theorem q9wv_X10_wordIs : ∀ w ∈ ([.instanceMethod yX10_wordIs, .selects (yX10_wordIs).cls yX10_wordIs yX10_wordIs] : List Cond), w ∈ q9ALLW := (List.forall_mem_cons.mpr ⟨(q9inT4 223 rfl rfl), (List.forall_mem_cons.mpr ⟨(q9inT4 224 rfl rfl), (fun _ h => absurd h List.not_mem_nil)⟩)⟩)
set_option maxRecDepth 100000 in
theorem q9lk_X10_76_X10_wordIs_t8 : q9LKs q9ALLW RX10 (76, 0, 10, q9i_X10_wordIs_t8) := ⟨q9wk_X10_wordIs, ⟨by decide, by decide, by decide +kernel⟩, q9goodW _ (List.forall_mem_cons.mpr ⟨(q9inT5 79 rfl rfl), q9wv_X10_wordIs⟩), _, rfl, rfl⟩
set_option maxRecDepth 100000 in
theorem q9wk_X10_takeWord : GoodIn q9ALLW [.code yX10_takeWord cX10_takeWord 1 none, .initialized (yX10_takeWord).cls] := q9goodW _ (List.forall_mem_cons.mpr ⟨(q9inT4 211 rfl rfl), (List.forall_mem_cons.mpr ⟨(q9inT1 5 rfl rfl), (fun _ h => absurd h List.not_mem_nil)⟩)⟩)
set_option maxRecDepth 100000 in
theorem q9wv_X10_takeWord : ∀ w ∈ ([.instanceMethod yX10_takeWord, .selects (yX10_takeWord).cls yX10_takeWord yX10_takeWord] : List Cond), w ∈ q9ALLW := (List.forall_mem_cons.mpr ⟨(q9inT4 209 rfl rfl), (List.forall_mem_cons.mpr ⟨(q9inT4 210 rfl rfl), (fun _ h => absurd h List.not_mem_nil)⟩)⟩)
set_option maxRecDepth 100000 in
theorem q9lk_X10_76_X10_wordIs_t13 : q9LKs q9ALLW RX10 (76, 0, 10, q9i_X10_wordIs_t13) := ⟨q9wk_X10_wordIs, ⟨by decide, by decide, by decide +kernel⟩, q9goodW _ (List.forall_mem_cons.mpr ⟨(q9inT5 79 rfl rfl), q9wv_X10_wordIs⟩), _, rfl, rfl⟩
set_option maxRecDepth 100000 in
theorem q9wk_X6_kindOfWord : GoodIn q9ALLW [.code yX6_kindOfWord cX6_kindOfWord 1 (some .int), .initialized (yX6_kindOfWord).cls] := q9goodW _ (List.forall_mem_cons.mpr ⟨(q9inT4 220 rfl rfl), (List.forall_mem_cons.mpr ⟨(q9inT1 4 rfl rfl), (fun _ h => absurd h List.not_mem_nil)⟩)⟩)
set_option maxRecDepth 100000 in
theorem q9wv_X6_kindOfWord : ∀ w ∈ ([.instanceMethod yX6_kindOfWord, .selects (yX6_kindOfWord).cls yX6_kindOfWord yX6_kindOfWord] : List Cond), w ∈ q9ALLW := (List.forall_mem_cons.mpr ⟨(q9inT4 219 rfl rfl), (List.forall_mem_cons.mpr ⟨(q9inW 26 rfl rfl), (fun _ h => absurd h List.not_mem_nil)⟩)⟩)
set_option maxRecDepth 100000 in
theorem q9wk_X6_readAim : GoodIn q9ALLW [.code yX6_readAim cX6_readAim 5 none, .initialized (yX6_readAim).cls] := q9goodW _ (List.forall_mem_cons.mpr ⟨(q9inT5 62 rfl rfl), (List.forall_mem_cons.mpr ⟨(q9inT1 4 rfl rfl), (fun _ h => absurd h List.not_mem_nil)⟩)⟩)
set_option maxRecDepth 100000 in
theorem q9wv_X6_readAim : ∀ w ∈ ([.instanceMethod yX6_readAim, .selects (yX6_readAim).cls yX6_readAim yX6_readAim] : List Cond), w ∈ q9ALLW := (List.forall_mem_cons.mpr ⟨(q9inT5 61 rfl rfl), (List.forall_mem_cons.mpr ⟨(q9inW 30 rfl rfl), (fun _ h => absurd h List.not_mem_nil)⟩)⟩)
set_option maxRecDepth 100000 in
theorem q9wk_X6_readEase : GoodIn q9ALLW [.code yX6_readEase cX6_readEase 1 (some .int), .initialized (yX6_readEase).cls] := q9goodW _ (List.forall_mem_cons.mpr ⟨(q9inT5 83 rfl rfl), (List.forall_mem_cons.mpr ⟨(q9inT1 4 rfl rfl), (fun _ h => absurd h List.not_mem_nil)⟩)⟩)
set_option maxRecDepth 100000 in
theorem q9wv_X6_readEase : ∀ w ∈ ([.instanceMethod yX6_readEase, .selects (yX6_readEase).cls yX6_readEase yX6_readEase] : List Cond), w ∈ q9ALLW := (List.forall_mem_cons.mpr ⟨(q9inT5 82 rfl rfl), (List.forall_mem_cons.mpr ⟨(q9inW 32 rfl rfl), (fun _ h => absurd h List.not_mem_nil)⟩)⟩)
set_option maxRecDepth 100000 in
theorem q9wk_X10_needWord : GoodIn q9ALLW [.code yX10_needWord cX10_needWord 2 none, .initialized (yX10_needWord).cls] := q9goodW _ (List.forall_mem_cons.mpr ⟨(q9inT5 77 rfl rfl), (List.forall_mem_cons.mpr ⟨(q9inT1 5 rfl rfl), (fun _ h => absurd h List.not_mem_nil)⟩)⟩)
set_option maxRecDepth 100000 in
theorem q9wv_X10_needWord : ∀ w ∈ ([.instanceMethod yX10_needWord, .selects (yX10_needWord).cls yX10_needWord yX10_needWord] : List Cond), w ∈ q9ALLW := (List.forall_mem_cons.mpr ⟨(q9inT5 75 rfl rfl), (List.forall_mem_cons.mpr ⟨(q9inT5 76 rfl rfl), (fun _ h => absurd h List.not_mem_nil)⟩)⟩)
set_option maxRecDepth 100000 in
theorem q9lk_X6_131_X10_wordIs_t14 : q9LKs q9ALLW RX6 (131, 0, 10, q9i_X10_wordIs_t14) := ⟨q9wk_X10_wordIs, ⟨by decide, by decide, by decide +kernel⟩, q9goodW _ (List.forall_mem_cons.mpr ⟨(q9inT4 222 rfl rfl), q9wv_X10_wordIs⟩), _, rfl, rfl⟩
set_option maxRecDepth 100000 in
theorem q9lk_X6_131_X10_wordIs_t15 : q9LKs q9ALLW RX6 (131, 0, 10, q9i_X10_wordIs_t15) := ⟨q9wk_X10_wordIs, ⟨by decide, by decide, by decide +kernel⟩, q9goodW _ (List.forall_mem_cons.mpr ⟨(q9inT4 222 rfl rfl), q9wv_X10_wordIs⟩), _, rfl, rfl⟩
set_option maxRecDepth 100000 in
theorem q9wk_X6_openRepeat : GoodIn q9ALLW [.code yX6_openRepeat cX6_openRepeat 2 none, .initialized (yX6_openRepeat).cls] := q9goodW _ (List.forall_mem_cons.mpr ⟨(q9inT5 49 rfl rfl), (List.forall_mem_cons.mpr ⟨(q9inT1 4 rfl rfl), (fun _ h => absurd h List.not_mem_nil)⟩)⟩)
set_option maxRecDepth 100000 in
theorem q9wv_X6_openRepeat : ∀ w ∈ ([.instanceMethod yX6_openRepeat, .selects (yX6_openRepeat).cls yX6_openRepeat yX6_openRepeat] : List Cond), w ∈ q9ALLW := (List.forall_mem_cons.mpr ⟨(q9inT5 48 rfl rfl), (List.forall_mem_cons.mpr ⟨(q9inW 28 rfl rfl), (fun _ h => absurd h List.not_mem_nil)⟩)⟩)
set_option maxRecDepth 100000 in
theorem q9wk_X6_readMove : GoodIn q9ALLW [.code yX6_readMove cX6_readMove 4 none, .initialized (yX6_readMove).cls] := q9goodW _ (List.forall_mem_cons.mpr ⟨(q9inT5 58 rfl rfl), (List.forall_mem_cons.mpr ⟨(q9inT1 4 rfl rfl), (fun _ h => absurd h List.not_mem_nil)⟩)⟩)
set_option maxRecDepth 100000 in
theorem q9wv_X6_readMove : ∀ w ∈ ([.instanceMethod yX6_readMove, .selects (yX6_readMove).cls yX6_readMove yX6_readMove] : List Cond), w ∈ q9ALLW := (List.forall_mem_cons.mpr ⟨(q9inT5 57 rfl rfl), (List.forall_mem_cons.mpr ⟨(q9inW 29 rfl rfl), (fun _ h => absurd h List.not_mem_nil)⟩)⟩)
set_option maxRecDepth 100000 in
theorem q9wk_X6_readSay : GoodIn q9ALLW [.code yX6_readSay cX6_readSay 2 none, .initialized (yX6_readSay).cls] := q9goodW _ (List.forall_mem_cons.mpr ⟨(q9inT5 91 rfl rfl), (List.forall_mem_cons.mpr ⟨(q9inT1 4 rfl rfl), (fun _ h => absurd h List.not_mem_nil)⟩)⟩)
set_option maxRecDepth 100000 in
theorem q9wv_X6_readSay : ∀ w ∈ ([.instanceMethod yX6_readSay, .selects (yX6_readSay).cls yX6_readSay yX6_readSay] : List Cond), w ∈ q9ALLW := (List.forall_mem_cons.mpr ⟨(q9inT5 90 rfl rfl), (List.forall_mem_cons.mpr ⟨(q9inW 33 rfl rfl), (fun _ h => absurd h List.not_mem_nil)⟩)⟩)
set_option maxRecDepth 100000 in
theorem q9wk_X6_readSwitch : GoodIn q9ALLW [.code yX6_readSwitch cX6_readSwitch 1 (some .int), .initialized (yX6_readSwitch).cls] := q9goodW _ (List.forall_mem_cons.mpr ⟨(q9inT5 96 rfl rfl), (List.forall_mem_cons.mpr ⟨(q9inT1 4 rfl rfl), (fun _ h => absurd h List.not_mem_nil)⟩)⟩)
set_option maxRecDepth 100000 in
theorem q9wv_X6_readSwitch : ∀ w ∈ ([.instanceMethod yX6_readSwitch, .selects (yX6_readSwitch).cls yX6_readSwitch yX6_readSwitch] : List Cond), w ∈ q9ALLW := (List.forall_mem_cons.mpr ⟨(q9inT5 95 rfl rfl), (List.forall_mem_cons.mpr ⟨(q9inW 34 rfl rfl), (fun _ h => absurd h List.not_mem_nil)⟩)⟩)
set_option maxRecDepth 100000 in
theorem q9wk_X6_readCamera : GoodIn q9ALLW [.code yX6_readCamera cX6_readCamera 2 none, .initialized (yX6_readCamera).cls] := q9goodW _ (List.forall_mem_cons.mpr ⟨(q9inT5 102 rfl rfl), (List.forall_mem_cons.mpr ⟨(q9inT1 4 rfl rfl), (fun _ h => absurd h List.not_mem_nil)⟩)⟩)
set_option maxRecDepth 100000 in
theorem q9wv_X6_readCamera : ∀ w ∈ ([.instanceMethod yX6_readCamera, .selects (yX6_readCamera).cls yX6_readCamera yX6_readCamera] : List Cond), w ∈ q9ALLW := (List.forall_mem_cons.mpr ⟨(q9inT5 101 rfl rfl), (List.forall_mem_cons.mpr ⟨(q9inW 35 rfl rfl), (fun _ h => absurd h List.not_mem_nil)⟩)⟩)
set_option maxRecDepth 100000 in
theorem q9wk_X10_load : GoodIn q9ALLW [.code yX10_load cX10_load 3 none, .initialized (yX10_load).cls] := q9goodW _ (List.forall_mem_cons.mpr ⟨(q9inT4 174 rfl rfl), (List.forall_mem_cons.mpr ⟨(q9inT1 5 rfl rfl), (fun _ h => absurd h List.not_mem_nil)⟩)⟩)
set_option maxRecDepth 100000 in
theorem q9wv_X10_load : ∀ w ∈ ([.instanceMethod yX10_load, .selects (yX10_load).cls yX10_load yX10_load] : List Cond), w ∈ q9ALLW := (List.forall_mem_cons.mpr ⟨(q9inT4 172 rfl rfl), (List.forall_mem_cons.mpr ⟨(q9inT4 173 rfl rfl), (fun _ h => absurd h List.not_mem_nil)⟩)⟩)
set_option maxRecDepth 100000 in
theorem q9wk_J7_fill_d0a16 : GoodIn q9ALLW [.code yJ7_fill_d0a16 cJ7_fill_d0a16 5 none, .initialized (yJ7_fill_d0a16).cls] := q9goodW _ (List.forall_mem_cons.mpr ⟨(q9inT4 180 rfl rfl), (List.forall_mem_cons.mpr ⟨(q9inT1 3 rfl rfl), (fun _ h => absurd h List.not_mem_nil)⟩)⟩)
set_option maxRecDepth 100000 in
theorem q9wv_J7_fill_d0a16 : ∀ w ∈ ([.static yJ7_fill_d0a16] : List Cond), w ∈ q9ALLW := (List.forall_mem_cons.mpr ⟨(q9inT4 179 rfl rfl), (fun _ h => absurd h List.not_mem_nil)⟩)
set_option maxRecDepth 100000 in
theorem q9wk_X6_closeRepeat : GoodIn q9ALLW [.code yX6_closeRepeat cX6_closeRepeat 3 none, .initialized (yX6_closeRepeat).cls] := q9goodW _ (List.forall_mem_cons.mpr ⟨(q9inT4 193 rfl rfl), (List.forall_mem_cons.mpr ⟨(q9inT1 4 rfl rfl), (fun _ h => absurd h List.not_mem_nil)⟩)⟩)
set_option maxRecDepth 100000 in
theorem q9wv_X6_closeRepeat : ∀ w ∈ ([.instanceMethod yX6_closeRepeat, .selects (yX6_closeRepeat).cls yX6_closeRepeat yX6_closeRepeat] : List Cond), w ∈ q9ALLW := (List.forall_mem_cons.mpr ⟨(q9inT4 192 rfl rfl), (List.forall_mem_cons.mpr ⟨(q9inW 24 rfl rfl), (fun _ h => absurd h List.not_mem_nil)⟩)⟩)
set_option maxRecDepth 100000 in
theorem q9wk_X6_beginLine : GoodIn q9ALLW [.code yX6_beginLine cX6_beginLine 3 (some (.object "PuppetFilm$Line")), .initialized (yX6_beginLine).cls] := q9goodW _ (List.forall_mem_cons.mpr ⟨(q9inT4 207 rfl rfl), (List.forall_mem_cons.mpr ⟨(q9inT1 4 rfl rfl), (fun _ h => absurd h List.not_mem_nil)⟩)⟩)
set_option maxRecDepth 100000 in
theorem q9wv_X6_beginLine : ∀ w ∈ ([.instanceMethod yX6_beginLine, .selects (yX6_beginLine).cls yX6_beginLine yX6_beginLine] : List Cond), w ∈ q9ALLW := (List.forall_mem_cons.mpr ⟨(q9inT4 206 rfl rfl), (List.forall_mem_cons.mpr ⟨(q9inW 25 rfl rfl), (fun _ h => absurd h List.not_mem_nil)⟩)⟩)
set_option maxRecDepth 100000 in
theorem q9wk_X6_readRest : GoodIn q9ALLW [.code yX6_readRest cX6_readRest 2 none, .initialized (yX6_readRest).cls] := q9goodW _ (List.forall_mem_cons.mpr ⟨(q9inT5 45 rfl rfl), (List.forall_mem_cons.mpr ⟨(q9inT1 4 rfl rfl), (fun _ h => absurd h List.not_mem_nil)⟩)⟩)
set_option maxRecDepth 100000 in
theorem q9wv_X6_readRest : ∀ w ∈ ([.instanceMethod yX6_readRest, .selects (yX6_readRest).cls yX6_readRest yX6_readRest] : List Cond), w ∈ q9ALLW := (List.forall_mem_cons.mpr ⟨(q9inT5 44 rfl rfl), (List.forall_mem_cons.mpr ⟨(q9inW 27 rfl rfl), (fun _ h => absurd h List.not_mem_nil)⟩)⟩)
