/-! the words of the tables that are good ones, and what follows for the links -/
noncomputable def q9ALLW : List Cond := lw_tbl.filter goodWord
theorem q9inW {w : Cond} (i : Nat) (h : lw_tbl[i]? = some w) (g : goodWord w = true) : w ∈ q9ALLW := List.mem_filter.mpr ⟨List.mem_of_getElem? h, g⟩
theorem q9inT1 {w : Cond} (i : Nat) (h : tables_1_1[i]? = some w) (g : goodWord w = true) : w ∈ q9ALLW := List.mem_filter.mpr ⟨List.mem_append_right _ (show w ∈ tables_1 from List.mem_append_left _ (List.mem_of_getElem? h)), g⟩
theorem q9inT2 {w : Cond} (i : Nat) (h : tables_1_2[i]? = some w) (g : goodWord w = true) : w ∈ q9ALLW := List.mem_filter.mpr ⟨List.mem_append_right _ (show w ∈ tables_1 from List.mem_append_right _ (List.mem_append_left _ (List.mem_of_getElem? h))), g⟩
theorem q9inT3 {w : Cond} (i : Nat) (h : tables_1_3[i]? = some w) (g : goodWord w = true) : w ∈ q9ALLW := List.mem_filter.mpr ⟨List.mem_append_right _ (show w ∈ tables_1 from List.mem_append_right _ (List.mem_append_right _ (List.mem_append_left _ (List.mem_of_getElem? h)))), g⟩
theorem q9inT4 {w : Cond} (i : Nat) (h : tables_1_4[i]? = some w) (g : goodWord w = true) : w ∈ q9ALLW := List.mem_filter.mpr ⟨List.mem_append_right _ (show w ∈ tables_1 from List.mem_append_right _ (List.mem_append_right _ (List.mem_append_right _ (List.mem_append_left _ (List.mem_of_getElem? h))))), g⟩
theorem q9inT5 {w : Cond} (i : Nat) (h : tables_1_5[i]? = some w) (g : goodWord w = true) : w ∈ q9ALLW := List.mem_filter.mpr ⟨List.mem_append_right _ (show w ∈ tables_1 from List.mem_append_right _ (List.mem_append_right _ (List.mem_append_right _ (List.mem_append_right _ (List.mem_append_left _ (List.mem_of_getElem? h)))))), g⟩
theorem q9inT6 {w : Cond} (i : Nat) (h : tables_1_6[i]? = some w) (g : goodWord w = true) : w ∈ q9ALLW := List.mem_filter.mpr ⟨List.mem_append_right _ (show w ∈ tables_1 from List.mem_append_right _ (List.mem_append_right _ (List.mem_append_right _ (List.mem_append_right _ (List.mem_append_right _ (List.mem_append_left _ (List.mem_of_getElem? h))))))), g⟩
theorem q9inT7 {w : Cond} (i : Nat) (h : tables_1_7[i]? = some w) (g : goodWord w = true) : w ∈ q9ALLW := List.mem_filter.mpr ⟨List.mem_append_right _ (show w ∈ tables_1 from List.mem_append_right _ (List.mem_append_right _ (List.mem_append_right _ (List.mem_append_right _ (List.mem_append_right _ (List.mem_append_right _ (List.mem_append_left _ (List.mem_of_getElem? h)))))))), g⟩
theorem q9inT8 {w : Cond} (i : Nat) (h : tables_1_8[i]? = some w) (g : goodWord w = true) : w ∈ q9ALLW := List.mem_filter.mpr ⟨List.mem_append_right _ (show w ∈ tables_1 from List.mem_append_right _ (List.mem_append_right _ (List.mem_append_right _ (List.mem_append_right _ (List.mem_append_right _ (List.mem_append_right _ (List.mem_append_right _ (List.mem_append_left _ (List.mem_of_getElem? h))))))))), g⟩
theorem q9inT9 {w : Cond} (i : Nat) (h : tables_1_9[i]? = some w) (g : goodWord w = true) : w ∈ q9ALLW := List.mem_filter.mpr ⟨List.mem_append_right _ (show w ∈ tables_1 from List.mem_append_right _ (List.mem_append_right _ (List.mem_append_right _ (List.mem_append_right _ (List.mem_append_right _ (List.mem_append_right _ (List.mem_append_right _ (List.mem_append_right _ (List.mem_append_left _ (List.mem_of_getElem? h)))))))))), g⟩
theorem q9inT10 {w : Cond} (i : Nat) (h : tables_1_10[i]? = some w) (g : goodWord w = true) : w ∈ q9ALLW := List.mem_filter.mpr ⟨List.mem_append_right _ (show w ∈ tables_1 from List.mem_append_right _ (List.mem_append_right _ (List.mem_append_right _ (List.mem_append_right _ (List.mem_append_right _ (List.mem_append_right _ (List.mem_append_right _ (List.mem_append_right _ (List.mem_append_right _ (List.mem_append_left _ (List.mem_of_getElem? h))))))))))), g⟩
theorem q9inT11 {w : Cond} (i : Nat) (h : tables_1_11[i]? = some w) (g : goodWord w = true) : w ∈ q9ALLW := List.mem_filter.mpr ⟨List.mem_append_right _ (show w ∈ tables_1 from List.mem_append_right _ (List.mem_append_right _ (List.mem_append_right _ (List.mem_append_right _ (List.mem_append_right _ (List.mem_append_right _ (List.mem_append_right _ (List.mem_append_right _ (List.mem_append_right _ (List.mem_append_right _ ((List.mem_of_getElem? h)))))))))))), g⟩
theorem q9goodW (ws : List Cond) (h : ∀ w ∈ ws, w ∈ q9ALLW) : GoodIn q9ALLW ws := fun w hw => ⟨h w hw, good_of_word (List.mem_filter.mp (h w hw)).2⟩
theorem q9goodA : GoodIn q9ALLW q9ALLW := q9goodW q9ALLW fun _ h => h
theorem q9inR {ws : List Cond} (is : List Nat) (h : ws = is.filterMap (fun i => lw_tbl[i]?)) (g : ws.all goodWord = true) : ∀ w ∈ ws, w ∈ q9ALLW := by
  intro w hw
  refine List.mem_filter.mpr ⟨?_, List.all_eq_true.mp g w hw⟩
  rw [h] at hw
  obtain ⟨i, -, hi⟩ := List.mem_filterMap.mp hw
  exact List.mem_of_getElem? hi
noncomputable def q9pcT (k : Nat) : List Cond := match k with
  | 0 => lw_tbl
  | 1 => tables_1_1
  | 2 => tables_1_2
  | 3 => tables_1_3
  | 4 => tables_1_4
  | 5 => tables_1_5
  | 6 => tables_1_6
  | 7 => tables_1_7
  | 8 => tables_1_8
  | 9 => tables_1_9
  | 10 => tables_1_10
  | 11 => tables_1_11
  | _ => []
theorem q9pcT_in {w : Cond} : ∀ k : Nat, w ∈ q9pcT k → w ∈ lw_tbl
  | 0, h => h
  | 1, h => List.mem_append_right _ (show w ∈ tables_1 from (List.mem_append_left _ h))
  | 2, h => List.mem_append_right _ (show w ∈ tables_1 from (List.mem_append_right _ (List.mem_append_left _ h)))
  | 3, h => List.mem_append_right _ (show w ∈ tables_1 from (List.mem_append_right _ (List.mem_append_right _ (List.mem_append_left _ h))))
  | 4, h => List.mem_append_right _ (show w ∈ tables_1 from (List.mem_append_right _ (List.mem_append_right _ (List.mem_append_right _ (List.mem_append_left _ h)))))
  | 5, h => List.mem_append_right _ (show w ∈ tables_1 from (List.mem_append_right _ (List.mem_append_right _ (List.mem_append_right _ (List.mem_append_right _ (List.mem_append_left _ h))))))
  | 6, h => List.mem_append_right _ (show w ∈ tables_1 from (List.mem_append_right _ (List.mem_append_right _ (List.mem_append_right _ (List.mem_append_right _ (List.mem_append_right _ (List.mem_append_left _ h)))))))
  | 7, h => List.mem_append_right _ (show w ∈ tables_1 from (List.mem_append_right _ (List.mem_append_right _ (List.mem_append_right _ (List.mem_append_right _ (List.mem_append_right _ (List.mem_append_right _ (List.mem_append_left _ h))))))))
  | 8, h => List.mem_append_right _ (show w ∈ tables_1 from (List.mem_append_right _ (List.mem_append_right _ (List.mem_append_right _ (List.mem_append_right _ (List.mem_append_right _ (List.mem_append_right _ (List.mem_append_right _ (List.mem_append_left _ h)))))))))
  | 9, h => List.mem_append_right _ (show w ∈ tables_1 from (List.mem_append_right _ (List.mem_append_right _ (List.mem_append_right _ (List.mem_append_right _ (List.mem_append_right _ (List.mem_append_right _ (List.mem_append_right _ (List.mem_append_right _ (List.mem_append_left _ h))))))))))
  | 10, h => List.mem_append_right _ (show w ∈ tables_1 from (List.mem_append_right _ (List.mem_append_right _ (List.mem_append_right _ (List.mem_append_right _ (List.mem_append_right _ (List.mem_append_right _ (List.mem_append_right _ (List.mem_append_right _ (List.mem_append_right _ (List.mem_append_left _ h)))))))))))
  | 11, h => List.mem_append_right _ (show w ∈ tables_1 from (List.mem_append_right _ (List.mem_append_right _ (List.mem_append_right _ (List.mem_append_right _ (List.mem_append_right _ (List.mem_append_right _ (List.mem_append_right _ (List.mem_append_right _ (List.mem_append_right _ (List.mem_append_right _ h)))))))))))
  | _ + 12, h => absurd h List.not_mem_nil
theorem q9inRT {ws : List Cond} (is : List (Nat × Nat)) (h : ws = is.filterMap (fun q => (q9pcT q.1)[q.2]?)) : ∀ w ∈ ws, w ∈ lw_tbl := by
  intro w hw
  rw [h] at hw
  obtain ⟨q, -, hq⟩ := List.mem_filterMap.mp hw
  exact q9pcT_in q.1 (List.mem_of_getElem? hq)
theorem q9inRG {ws : List Cond} (is : List (Nat × Nat)) (h : ws = is.filterMap (fun q => (q9pcT q.1)[q.2]?)) (g : ws.all goodWord = true) : ∀ w ∈ ws, w ∈ q9ALLW := fun w hw => List.mem_filter.mpr ⟨q9inRT is h w hw, List.all_eq_true.mp g w hw⟩
set_option maxRecDepth 100000 in
theorem q9uw_0 : ∀ w ∈ u_ws RX0 TX0 5, w ∈ q9ALLW := q9inRG [(2, 121), (2, 123), (2, 125), (2, 127), (2, 129)] (by decide +kernel) (by decide +kernel)
set_option maxRecDepth 100000 in
theorem q9uw_1 : ∀ w ∈ u_ws RX1 TX1 18, w ∈ q9ALLW := q9inRG [(2, 160), (2, 162), (2, 164), (2, 166), (2, 168), (2, 170), (2, 172), (2, 174), (2, 176), (2, 178), (2, 180), (2, 182), (2, 184), (2, 186), (2, 188), (2, 190), (2, 192), (2, 194)] (by decide +kernel) (by decide +kernel)
set_option maxRecDepth 100000 in
theorem q9uw_2 : ∀ w ∈ u_ws RX2 TX2 8, w ∈ q9ALLW := q9inRG [(1, 143), (1, 145), (1, 147), (1, 149), (1, 151), (1, 153), (1, 155), (1, 157)] (by decide +kernel) (by decide +kernel)
set_option maxRecDepth 100000 in
theorem q9uw_3 : ∀ w ∈ u_ws RX3 TX3 5, w ∈ q9ALLW := q9inRG [(2, 98), (2, 100), (2, 102), (2, 104), (2, 106)] (by decide +kernel) (by decide +kernel)
set_option maxRecDepth 100000 in
theorem q9uw_4 : ∀ w ∈ u_ws RX4 TX4 19, w ∈ q9ALLW := q9inRG [(2, 47), (2, 49), (2, 51), (2, 53), (2, 55), (2, 57), (2, 59), (2, 61), (2, 63), (2, 65), (2, 67), (2, 69), (2, 71), (2, 73), (2, 75), (2, 77), (2, 79), (2, 81), (2, 83)] (by decide +kernel) (by decide +kernel)
set_option maxRecDepth 100000 in
theorem q9uw_5 : ∀ w ∈ u_ws RX5 TX5 11, w ∈ q9ALLW := q9inRG [(3, 17), (3, 19), (3, 21), (3, 23), (3, 25), (3, 27), (3, 29), (3, 31), (3, 33), (3, 35), (3, 37)] (by decide +kernel) (by decide +kernel)
set_option maxRecDepth 100000 in
theorem q9uw_6 : ∀ w ∈ u_ws RX6 TX6 14, w ∈ q9ALLW := q9inRG [(1, 185), (1, 187), (1, 189), (1, 191), (1, 193), (1, 195), (1, 197), (1, 199), (1, 201), (1, 203), (1, 205), (1, 207), (1, 209), (1, 211)] (by decide +kernel) (by decide +kernel)
set_option maxRecDepth 100000 in
theorem q9uw_7 : ∀ w ∈ u_ws RX7 TX7 15, w ∈ q9ALLW := q9inRG [(5, 175), (5, 177), (5, 179), (5, 181), (5, 183), (5, 185), (5, 187), (5, 189), (5, 191), (5, 193), (5, 195), (5, 197), (5, 199), (5, 201), (5, 203)] (by decide +kernel) (by decide +kernel)
set_option maxRecDepth 100000 in
theorem q9uw_8 : ∀ w ∈ u_ws RX8 TX8 7, w ∈ q9ALLW := q9inRG [(1, 63), (1, 65), (1, 67), (1, 69), (1, 71), (1, 73), (1, 75)] (by decide +kernel) (by decide +kernel)
set_option maxRecDepth 100000 in
theorem q9uw_9 : ∀ w ∈ u_ws RX9 TX9 13, w ∈ q9ALLW := q9inRG [(1, 233), (1, 235), (1, 237), (1, 239), (2, 1), (2, 3), (2, 5), (2, 7), (2, 9), (2, 11), (2, 13), (2, 15), (2, 17)] (by decide +kernel) (by decide +kernel)
set_option maxRecDepth 100000 in
theorem q9uw_10 : ∀ w ∈ u_ws RX10 TX10 7, w ∈ q9ALLW := q9inRG [(1, 104), (1, 106), (1, 108), (1, 110), (1, 112), (1, 114), (1, 116)] (by decide +kernel) (by decide +kernel)
set_option maxRecDepth 100000 in
theorem q9uw_11 : ∀ w ∈ u_ws RX11 TX11 11, w ∈ q9ALLW := q9inRG [(2, 208), (2, 210), (2, 212), (2, 214), (2, 216), (2, 218), (2, 220), (2, 222), (2, 224), (2, 226), (2, 228)] (by decide +kernel) (by decide +kernel)
set_option maxRecDepth 100000 in
theorem q9uw_12 : ∀ w ∈ u_ws RX12 TX12 109, w ∈ q9ALLW := q9inRG ((8, 194) :: (8, 196) :: (8, 198) :: (8, 200) :: (8, 202) :: (8, 204) :: (8, 206) :: (8, 208) :: (8, 210) :: (8, 212) :: (8, 214) :: (8, 216) :: (8, 218) :: (8, 220) :: (8, 222) :: (8, 224) :: (8, 226) :: (8, 228) :: (8, 230) :: (8, 232) :: (8, 234) :: (8, 236) :: (8, 238) :: (9, 0) :: (9, 2) :: (9, 4) :: (9, 6) :: (9, 8) :: (9, 10) :: (9, 12) :: (9, 14) :: (9, 16) :: (9, 18) :: (9, 20) :: (9, 22) :: (9, 24) :: (9, 26) :: (9, 28) :: (9, 30) :: (9, 32) :: (9, 34) :: (9, 36) :: (9, 38) :: (9, 40) :: (9, 42) :: (9, 44) :: (9, 46) :: (9, 48) :: (9, 50) :: (9, 52) :: (9, 54) :: (9, 56) :: (9, 58) :: (9, 60) :: (9, 62) :: (9, 64) :: (9, 66) :: (9, 68) :: (9, 70) :: (9, 72) :: (9, 74) :: (9, 76) :: (9, 78) :: (9, 80) :: (9, 82) :: (9, 84) :: (9, 86) :: (9, 88) :: (9, 90) :: [(9, 92), (9, 94), (9, 96), (9, 98), (9, 100), (9, 102), (9, 104), (9, 106), (9, 108), (9, 110), (9, 112), (9, 114), (9, 116), (9, 118), (9, 120), (9, 122), (9, 124), (9, 126), (9, 128), (9, 130), (9, 132), (9, 134), (9, 136), (9, 138), (9, 140), (9, 142), (9, 144), (9, 146), (9, 148), (9, 150), (9, 152), (9, 154), (9, 156), (9, 158), (9, 160), (9, 162), (9, 164), (9, 166), (9, 168), (9, 170)]) (by decide +kernel) (by decide +kernel)
noncomputable def q9ft_0 : List q9ET := [(0, 0, 80), (2, 100, 0), (2, 101, 0), (2, 102, 0), (2, 103, 0)]
noncomputable def q9ft_1 : List q9ET := [(2, 8, 0), (0, 0, 1), (0, (-2147483648), 2147483647), (2, 104, 0), (2, 105, 0), (2, 106, 0), (2, 107, 0), (2, 108, 0), (2, 109, 0), (2, 110, 0), (2, 111, 0), (2, 112, 0), (0, 0, 6), (2, 113, 0), (2, 114, 0), (0, (-2147483648), 2147483647), (0, 0, 1), (0, (-2147483648), 2147483647)]
noncomputable def q9ft_2 : List q9ET := [(0, (-2147483648), 2147483647), (0, (-2147483648), 2147483647), (0, (-1), 400), (0, (-2147483648), 2147483647), (0, (-2147483648), 2147483647), (0, 0, 400), (0, (-2147483648), 2147483647), (0, (-2147483648), 2147483647)]
noncomputable def q9ft_3 : List q9ET := [(2, 8, 0), (0, 0, 12), (2, 115, 0), (2, 116, 0), (2, 117, 0)]
noncomputable def q9ft_4 : List q9ET := [(2, 8, 0), (0, 0, 5), (2, 118, 0), (2, 119, 0), (2, 120, 0), (2, 121, 0), (2, 122, 0), (2, 123, 0), (0, 0, 1), (0, (-2147483648), 2147483647), (0, (-2147483648), 2147483647), (0, (-2147483648), 2147483647), (2, 124, 0), (2, 125, 0), (2, 126, 0), (2, 127, 0), (2, 128, 0), (0, (-2147483648), 2147483647), (0, (-2147483648), 2147483647)]
noncomputable def q9ft_5 : List q9ET := [(0, 0, 12), (2, 129, 0), (2, 130, 0), (2, 131, 0), (2, 132, 0), (2, 133, 0), (2, 134, 0), (2, 135, 0), (0, (-2147483648), 2147483647), (0, (-2147483648), 2147483647), (0, (-2147483648), 2147483647)]
noncomputable def q9ft_6 : List q9ET := [(2, 8, 0), (2, 10, 0), (2, 136, 0), (0, 0, 60), (2, 137, 0), (2, 138, 0), (2, 139, 0), (0, 0, 100), (0, (-2147483648), 2147483647), (0, (-2147483648), 2147483647), (0, 0, 4), (2, 140, 0), (2, 141, 0), (2, 142, 0)]
noncomputable def q9ft_7 : List q9ET := [(0, 0, 400), (0, 0, 100), (0, 0, 63), (0, (-2147483648), 2147483647), (0, (-2147483648), 2147483647), (0, (-2147483648), 2147483647), (2, 143, 0), (2, 144, 0), (2, 145, 0), (2, 146, 0), (2, 147, 0), (2, 148, 0), (2, 149, 0), (2, 150, 0), (2, 151, 0)]
noncomputable def q9ft_8 : List q9ET := [(2, 152, 0), (0, 0, 8), (2, 153, 0), (0, 0, 12), (2, 154, 0), (2, 155, 0), (2, 156, 0)]
noncomputable def q9ft_9 : List q9ET := [(2, 6, 0), (3, 7, 0), (0, 0, 400), (0, (-2147483648), 2147483647), (0, (-2147483648), 2147483647), (2, 157, 0), (2, 158, 0), (2, 159, 0), (2, 160, 0), (2, 161, 0), (2, 162, 0), (2, 163, 0), (2, 164, 0)]
noncomputable def q9ft_10 : List q9ET := [(2, 165, 0), (0, 0, 400), (0, 0, 400), (0, 0, 9), (0, (-2147483648), 2147483647), (0, 0, 400), (0, (-400), 400)]
noncomputable def q9ft_11 : List q9ET := [(2, 8, 0), (2, 6, 0), (2, 9, 0), (2, 4, 0), (2, 3, 0), (2, 0, 0), (2, 1, 0), (2, 41, 0), (2, 166, 0), (0, 0, 400), (0, (-2147483648), 2147483647)]
noncomputable def q9ft_12 : List q9ET := ((0, 0, 3) :: (0, 0, 8) :: (2, 167, 0) :: (2, 168, 0) :: (2, 169, 0) :: (2, 170, 0) :: (2, 171, 0) :: (2, 172, 0) :: (2, 173, 0) :: (2, 174, 0) :: (2, 175, 0) :: (2, 176, 0) :: (0, 0, 400) :: (0, 0, 400) :: (0, 0, 400) :: (0, (-1), 400) :: (0, (-2147483648), 2147483647) :: (0, 0, 60) :: (0, 0, 400) :: (0, 0, 400) :: (0, (-2147483648), 2147483647) :: (2, 177, 0) :: (2, 178, 0) :: (2, 179, 0) :: (2, 180, 0) :: (2, 181, 0) :: (2, 182, 0) :: (2, 183, 0) :: (2, 184, 0) :: (2, 185, 0) :: (2, 186, 0) :: (2, 187, 0) :: (2, 188, 0) :: (2, 189, 0) :: (0, (-2147483648), 2147483647) :: (0, (-2147483648), 2147483647) :: (1, (-9223372036854775808), 9223372036854775807) :: (1, (-9223372036854775808), 9223372036854775807) :: (0, 0, 12) :: (2, 190, 0) :: (2, 191, 0) :: (2, 192, 0) :: (2, 193, 0) :: (2, 194, 0) :: (2, 195, 0) :: (2, 196, 0) :: (2, 197, 0) :: (2, 198, 0) :: (2, 199, 0) :: (2, 200, 0) :: (2, 201, 0) :: (0, 0, 400) :: (0, (-2147483648), 2147483647) :: (0, (-2147483648), 2147483647) :: (2, 202, 0) :: (2, 203, 0) :: (2, 204, 0) :: (2, 205, 0) :: (2, 206, 0) :: (2, 207, 0) :: (2, 208, 0) :: (2, 209, 0) :: (2, 210, 0) :: (2, 211, 0) :: (2, 212, 0) :: (2, 213, 0) :: (0, 0, 5) :: (0, 0, 5) :: (1, (-9223372036854775808), 9223372036854775807) :: [(1, (-9223372036854775808), 9223372036854775807), (2, 214, 0), (2, 215, 0), (2, 216, 0), (2, 217, 0), (2, 218, 0), (2, 219, 0), (2, 220, 0), (2, 221, 0), (0, 0, 12), (2, 222, 0), (2, 223, 0), (2, 224, 0), (0, (-2147483648), 2147483647), (0, 0, 80), (2, 225, 0), (2, 226, 0), (2, 227, 0), (2, 228, 0), (0, 0, 6), (2, 229, 0), (2, 230, 0), (2, 231, 0), (2, 232, 0), (2, 233, 0), (2, 234, 0), (2, 235, 0), (2, 236, 0), (2, 237, 0), (2, 238, 0), (0, (-2147483648), 2147483647), (2, 239, 0), (2, 240, 0), (2, 241, 0), (2, 242, 0), (2, 243, 0), (2, 244, 0), (2, 245, 0), (2, 246, 0), (2, 247, 0)])
noncomputable def q9ft_20 : List q9ET := [(0, (-2147483648), 2147483647), (6, 0, 0), (6, 0, 0), (6, 0, 0), (6, 0, 0)]
noncomputable def q9ft_21 : List q9ET := [(6, 0, 0), (0, (-2147483648), 2147483647), (0, (-2147483648), 2147483647), (6, 0, 0), (6, 0, 0), (6, 0, 0), (6, 0, 0), (6, 0, 0), (6, 0, 0), (6, 0, 0), (6, 0, 0), (6, 0, 0), (0, (-2147483648), 2147483647), (6, 0, 0), (6, 0, 0), (0, (-2147483648), 2147483647), (0, (-2147483648), 2147483647), (0, (-2147483648), 2147483647)]
noncomputable def q9ft_22 : List q9ET := [(0, (-2147483648), 2147483647), (0, (-2147483648), 2147483647), (0, (-2147483648), 2147483647), (0, (-2147483648), 2147483647), (0, (-2147483648), 2147483647), (0, (-2147483648), 2147483647), (0, (-2147483648), 2147483647), (0, (-2147483648), 2147483647)]
noncomputable def q9ft_23 : List q9ET := [(6, 0, 0), (0, (-2147483648), 2147483647), (6, 0, 0), (6, 0, 0), (6, 0, 0)]
noncomputable def q9ft_24 : List q9ET := [(6, 0, 0), (0, (-2147483648), 2147483647), (6, 0, 0), (6, 0, 0), (6, 0, 0), (6, 0, 0), (6, 0, 0), (6, 0, 0), (0, (-2147483648), 2147483647), (0, (-2147483648), 2147483647), (0, (-2147483648), 2147483647), (0, (-2147483648), 2147483647), (6, 0, 0), (6, 0, 0), (6, 0, 0), (6, 0, 0), (6, 0, 0), (0, (-2147483648), 2147483647), (0, (-2147483648), 2147483647)]
noncomputable def q9ft_25 : List q9ET := [(0, (-2147483648), 2147483647), (6, 0, 0), (6, 0, 0), (6, 0, 0), (6, 0, 0), (6, 0, 0), (6, 0, 0), (6, 0, 0), (0, (-2147483648), 2147483647), (0, (-2147483648), 2147483647), (0, (-2147483648), 2147483647)]
noncomputable def q9ft_26 : List q9ET := [(6, 0, 0), (6, 0, 0), (6, 0, 0), (0, (-2147483648), 2147483647), (6, 0, 0), (6, 0, 0), (6, 0, 0), (0, (-2147483648), 2147483647), (0, (-2147483648), 2147483647), (0, (-2147483648), 2147483647), (0, (-2147483648), 2147483647), (6, 0, 0), (6, 0, 0), (6, 0, 0)]
noncomputable def q9ft_27 : List q9ET := [(0, (-2147483648), 2147483647), (0, (-2147483648), 2147483647), (0, (-2147483648), 2147483647), (0, (-2147483648), 2147483647), (0, (-2147483648), 2147483647), (0, (-2147483648), 2147483647), (6, 0, 0), (6, 0, 0), (6, 0, 0), (6, 0, 0), (6, 0, 0), (6, 0, 0), (6, 0, 0), (6, 0, 0), (6, 0, 0)]
noncomputable def q9ft_28 : List q9ET := [(6, 0, 0), (0, (-2147483648), 2147483647), (6, 0, 0), (0, (-2147483648), 2147483647), (6, 0, 0), (6, 0, 0), (6, 0, 0)]
noncomputable def q9ft_29 : List q9ET := [(6, 0, 0), (6, 0, 0), (0, (-2147483648), 2147483647), (0, (-2147483648), 2147483647), (0, (-2147483648), 2147483647), (6, 0, 0), (6, 0, 0), (6, 0, 0), (6, 0, 0), (6, 0, 0), (6, 0, 0), (6, 0, 0), (6, 0, 0)]
noncomputable def q9ft_30 : List q9ET := [(6, 0, 0), (0, (-2147483648), 2147483647), (0, (-2147483648), 2147483647), (0, (-2147483648), 2147483647), (0, (-2147483648), 2147483647), (0, (-2147483648), 2147483647), (0, (-2147483648), 2147483647)]
noncomputable def q9ft_31 : List q9ET := [(6, 0, 0), (6, 0, 0), (6, 0, 0), (6, 0, 0), (6, 0, 0), (6, 0, 0), (6, 0, 0), (6, 0, 0), (6, 0, 0), (0, (-2147483648), 2147483647), (0, (-2147483648), 2147483647)]
noncomputable def q9ft_32 : List q9ET := ((0, (-2147483648), 2147483647) :: (0, (-2147483648), 2147483647) :: (6, 0, 0) :: (6, 0, 0) :: (6, 0, 0) :: (6, 0, 0) :: (6, 0, 0) :: (6, 0, 0) :: (6, 0, 0) :: (6, 0, 0) :: (6, 0, 0) :: (6, 0, 0) :: (0, (-2147483648), 2147483647) :: (0, (-2147483648), 2147483647) :: (0, (-2147483648), 2147483647) :: (0, (-2147483648), 2147483647) :: (0, (-2147483648), 2147483647) :: (0, (-2147483648), 2147483647) :: (0, (-2147483648), 2147483647) :: (0, (-2147483648), 2147483647) :: (0, (-2147483648), 2147483647) :: (6, 0, 0) :: (6, 0, 0) :: (6, 0, 0) :: (6, 0, 0) :: (6, 0, 0) :: (6, 0, 0) :: (6, 0, 0) :: (6, 0, 0) :: (6, 0, 0) :: (6, 0, 0) :: (6, 0, 0) :: (6, 0, 0) :: (6, 0, 0) :: (0, (-2147483648), 2147483647) :: (0, (-2147483648), 2147483647) :: (1, (-9223372036854775808), 9223372036854775807) :: (1, (-9223372036854775808), 9223372036854775807) :: (0, (-2147483648), 2147483647) :: (6, 0, 0) :: (6, 0, 0) :: (6, 0, 0) :: (6, 0, 0) :: (6, 0, 0) :: (6, 0, 0) :: (6, 0, 0) :: (6, 0, 0) :: (6, 0, 0) :: (6, 0, 0) :: (6, 0, 0) :: (6, 0, 0) :: (0, (-2147483648), 2147483647) :: (0, (-2147483648), 2147483647) :: (0, (-2147483648), 2147483647) :: (6, 0, 0) :: (6, 0, 0) :: (6, 0, 0) :: (6, 0, 0) :: (6, 0, 0) :: (6, 0, 0) :: (6, 0, 0) :: (6, 0, 0) :: (6, 0, 0) :: (6, 0, 0) :: (6, 0, 0) :: (6, 0, 0) :: (0, (-2147483648), 2147483647) :: (0, (-2147483648), 2147483647) :: (1, (-9223372036854775808), 9223372036854775807) :: [(1, (-9223372036854775808), 9223372036854775807), (6, 0, 0), (6, 0, 0), (6, 0, 0), (6, 0, 0), (6, 0, 0), (6, 0, 0), (6, 0, 0), (6, 0, 0), (0, (-2147483648), 2147483647), (6, 0, 0), (6, 0, 0), (6, 0, 0), (0, (-2147483648), 2147483647), (0, (-2147483648), 2147483647), (6, 0, 0), (6, 0, 0), (6, 0, 0), (6, 0, 0), (0, (-2147483648), 2147483647), (6, 0, 0), (6, 0, 0), (6, 0, 0), (6, 0, 0), (6, 0, 0), (6, 0, 0), (6, 0, 0), (6, 0, 0), (6, 0, 0), (6, 0, 0), (0, (-2147483648), 2147483647), (6, 0, 0), (6, 0, 0), (6, 0, 0), (6, 0, 0), (6, 0, 0), (6, 0, 0), (6, 0, 0), (6, 0, 0), (6, 0, 0)])
noncomputable def q9ft_41 : List q9ET := [(2, 8, 0), (0, 0, 1), (0, (-2147483648), 2147483647), (2, 255, 0), (2, 256, 0), (2, 257, 0), (2, 258, 0), (2, 259, 0), (2, 260, 0), (2, 261, 0), (2, 262, 0), (2, 263, 0), (0, 0, 6), (2, 264, 0), (2, 265, 0), (0, (-2147483648), 2147483647), (0, 0, 1), (0, (-2147483648), 2147483647)]
noncomputable def q9ft_61 : List q9ET := [(6, 0, 0), (0, (-2147483648), 2147483647), (0, (-2147483648), 2147483647), (6, 0, 0), (6, 0, 0), (6, 0, 0), (6, 0, 0), (6, 0, 0), (6, 0, 0), (6, 0, 0), (6, 0, 0), (6, 0, 0), (0, (-2147483648), 2147483647), (6, 0, 0), (6, 0, 0), (0, (-2147483648), 2147483647), (0, (-2147483648), 2147483647), (0, (-2147483648), 2147483647)]
noncomputable def q9KAS : List q9AK := ((0, 80, true, (0, (-2147483648), 2147483647)) :: (0, 80, true, (0, (-2147483648), 2147483647)) :: (0, 80, true, (0, (-2147483648), 2147483647)) :: (0, 80, true, (0, (-2147483648), 2147483647)) :: (0, 12, true, (0, (-2147483648), 2147483647)) :: (0, 3, true, (0, (-2147483648), 2147483647)) :: (0, 30, true, (0, (-2147483648), 2147483647)) :: (0, 3, true, (0, (-2147483648), 2147483647)) :: (0, 12, true, (0, (-2147483648), 2147483647)) :: (0, 3, true, (0, (-2147483648), 2147483647)) :: (0, 3, true, (0, (-2147483648), 2147483647)) :: (0, 8, true, (0, (-2147483648), 2147483647)) :: (0, 3, true, (0, (-2147483648), 2147483647)) :: (0, 6, true, (0, (-2147483648), 2147483647)) :: (0, 6, true, (0, (-2147483648), 2147483647)) :: (0, 12, true, (0, (-2147483648), 2147483647)) :: (0, 12, true, (0, (-2147483648), 2147483647)) :: (0, 12, true, (0, (-2147483648), 2147483647)) :: (0, 5, true, (0, (-2147483648), 2147483647)) :: (0, 5, true, (0, (-2147483648), 2147483647)) :: (0, 5, true, (0, (-2147483648), 2147483647)) :: (0, 15, true, (0, (-2147483648), 2147483647)) :: (0, 5, true, (0, (-2147483648), 2147483647)) :: (0, 5, true, (0, (-2147483648), 2147483647)) :: (0, 5, true, (0, (-2147483648), 2147483647)) :: (0, 3, true, (0, (-2147483648), 2147483647)) :: (0, 3, true, (0, (-2147483648), 2147483647)) :: (0, 20, true, (0, (-2147483648), 2147483647)) :: (0, 20, true, (0, (-2147483648), 2147483647)) :: (0, 12, true, (0, (-2147483648), 2147483647)) :: (0, 12, true, (0, (-2147483648), 2147483647)) :: (0, 12, true, (0, (-2147483648), 2147483647)) :: (0, 12, true, (0, (-2147483648), 2147483647)) :: (0, 12, true, (0, (-2147483648), 2147483647)) :: (0, 12, true, (0, (-2147483648), 2147483647)) :: (0, 12, true, (0, (-2147483648), 2147483647)) :: (6, 60, true, (2, 2, 0)) :: (0, 100, true, (0, (-2147483648), 2147483647)) :: (0, 100, true, (0, (-2147483648), 2147483647)) :: (0, 100, true, (0, (-2147483648), 2147483647)) :: (0, 5, true, (0, (-2147483648), 2147483647)) :: (2, 5, true, (1, (-9223372036854775808), 9223372036854775807)) :: (2, 5, true, (1, (-9223372036854775808), 9223372036854775807)) :: (0, 96, true, (0, (-2147483648), 2147483647)) :: (0, 8, true, (0, (-2147483648), 2147483647)) :: (1, 40000, false, (0, (-128), 127)) :: (1, 25200, false, (0, (-128), 127)) :: (0, 1200, false, (0, (-2147483648), 2147483647)) :: (0, 400, false, (0, (-2147483648), 2147483647)) :: (0, 400, false, (0, (-2147483648), 2147483647)) :: (0, 400, false, (0, (-2147483648), 2147483647)) :: (3, 400, false, (0, 0, 1)) :: (4, 8, true, (3, 5, 0)) :: (5, 12, true, (3, 7, 0)) :: (0, 26, true, (0, (-2147483648), 2147483647)) :: (0, 3, true, (0, (-2147483648), 2147483647)) :: (0, 8, true, (0, (-2147483648), 2147483647)) :: (0, 100, true, (0, (-2147483648), 2147483647)) :: (0, 100, true, (0, (-2147483648), 2147483647)) :: (0, 3, true, (0, (-2147483648), 2147483647)) :: (0, 3, true, (0, (-2147483648), 2147483647)) :: (0, 3, true, (0, (-2147483648), 2147483647)) :: (0, 3, true, (0, (-2147483648), 2147483647)) :: (0, 3, true, (0, (-2147483648), 2147483647)) :: (0, 3, true, (0, (-2147483648), 2147483647)) :: (1, 400, true, (0, (-128), 127)) :: (1, 400, true, (0, (-128), 127)) :: (0, 8, true, (0, 0, 12)) :: (0, 96, true, (0, (-1), 11)) :: (0, 96, true, (0, (-2147483648), 2147483647)) :: (0, 96, true, (0, (-2147483648), 2147483647)) :: (0, 96, true, (0, (-2147483648), 2147483647)) :: (0, 96, true, (0, (-2147483648), 2147483647)) :: (0, 8, true, (0, (-2147483648), 2147483647)) :: (0, 8, true, (0, (-2147483648), 2147483647)) :: (0, 8, true, (0, (-2147483648), 2147483647)) :: (0, 26, true, (0, (-2147483648), 2147483647)) :: (0, 400, true, (0, 0, 255)) :: (0, 61, true, (0, 0, 7)) :: (0, 61, true, (0, 0, 1000009)) :: (0, 61, true, (0, (-2147483648), 2147483647)) :: (0, 61, true, (0, 0, 1000009)) :: (0, 61, true, (0, 0, 1000009)) :: (0, 61, true, (0, 0, 400)) :: (0, 61, true, (0, 0, 400)) :: (0, 61, true, (0, 0, 60)) :: (0, 400, true, (0, 0, 1000009)) :: (0, 400, true, (0, 0, 1000009)) :: (0, 400, true, (0, (-1000009), 1000009)) :: (0, 400, true, (0, 0, 25)) :: (1, 460800, true, (0, (-128), 127)) :: (1, 38400, true, (0, 0, 26)) :: (0, 14400, true, (0, (-2147483648), 2147483647)) :: (0, 4800, true, (0, (-2147483648), 2147483647)) :: (0, 4800, true, (0, (-2147483648), 2147483647)) :: (0, 12, true, (0, 0, 400)) :: (0, 12, true, (0, (-2147483648), 2147483647)) :: (0, 12, true, (0, (-2147483648), 2147483647)) :: (0, 12, true, (0, 0, 7)) :: (0, 12, true, (0, 0, 400)) :: (0, 4800, true, (0, (-2147483648), 2147483647)) :: (3, 4800, true, (0, 0, 1)) :: (0, 96, true, (0, (-2147483648), 2147483647)) :: (0, 96, true, (0, (-2147483648), 2147483647)) :: (0, 3, true, (0, (-2147483648), 2147483647)) :: (0, 3, true, (0, (-2147483648), 2147483647)) :: (0, 3, true, (0, (-2147483648), 2147483647)) :: (0, 3, true, (0, 0, 400)) :: (0, 3, true, (0, 0, 400)) :: (0, 3, true, (0, (-2147483648), 2147483647)) :: (0, 12, true, (0, (-2147483648), 2147483647)) :: (0, 12, true, (0, (-2147483648), 2147483647)) :: (0, 3, true, (0, 1, 100)) :: (0, 8, true, (0, (-2147483648), 2147483647)) :: (0, 5, true, (0, 0, 11)) :: (0, 5, true, (0, 0, 2)) :: (0, 5, true, (0, (-2147483648), 2147483647)) :: (0, 5, true, (0, (-2147483648), 2147483647)) :: (0, 5, true, (0, (-2147483648), 2147483647)) :: (0, 5, true, (0, (-2147483648), 2147483647)) :: (0, 5, true, (0, (-2147483648), 2147483647)) :: (0, 5, true, (0, (-2147483648), 2147483647)) :: (0, 12, true, (0, 0, 11)) :: (0, 12, true, (0, 0, 2)) :: (0, 12, true, (0, (-2147483648), 2147483647)) :: (0, 80, true, (0, (-2147483648), 2147483647)) :: [(0, 80, true, (0, (-2147483648), 2147483647)), (0, 80, true, (0, (-2147483648), 2147483647)), (0, 80, true, (0, (-2147483648), 2147483647)), (0, 6, true, (0, (-2147483648), 2147483647)), (0, 6, true, (0, (-2147483648), 2147483647)), (0, 6, true, (0, (-2147483648), 2147483647)), (0, 3, true, (0, (-1), 5)), (0, 3, true, (0, 0, 10)), (0, 30, true, (0, 0, 11)), (0, 3, true, (0, (-1), 11)), (0, 3, true, (0, (-1), 7)), (0, 3, true, (0, (-2147483648), 2147483647)), (0, 8, true, (0, (-1), 2)), (0, 6, true, (0, (-2147483648), 2147483647)), (0, 6, true, (0, (-2147483648), 2147483647)), (0, 3, true, (0, 0, 10)), (0, 30, true, (0, 0, 11)), (0, 3, true, (0, (-1), 11)), (0, 3, true, (0, (-1), 7)), (0, 3, true, (0, (-2147483648), 2147483647)), (0, 8, true, (0, (-1), 2)), (0, 12, true, (0, 0, 400)), (0, 3584, false, (0, (-2147483648), 2147483647)), (2, 1, true, (1, (-9223372036854775808), 9223372036854775807)), (6, 60, true, (3, 2, 0)), (0, 3, true, (0, 0, 100)), (0, 12, true, (0, 0, 0)), (0, 12, true, (0, 0, 0)), (0, 12, true, (0, 0, 0)), (0, 12, true, (0, (-2147483648), 2147483647)), (0, 3, true, (0, (-2147483648), 2147483647)), (0, 30, true, (0, (-2147483648), 2147483647)), (0, 3, true, (0, (-2147483648), 2147483647)), (0, 12, true, (0, (-2147483648), 2147483647)), (0, 3, true, (0, (-2147483648), 2147483647)), (0, 3, true, (0, (-2147483648), 2147483647)), (0, 8, true, (0, (-2147483648), 2147483647)), (0, 3, true, (0, (-2147483648), 2147483647)), (0, 6, true, (0, (-2147483648), 2147483647)), (0, 6, true, (0, (-2147483648), 2147483647))])
noncomputable def q9TBL : q9TB := ([q9ft_0, q9ft_1, q9ft_2, q9ft_3, q9ft_4, q9ft_5, q9ft_6, q9ft_7, q9ft_8, q9ft_9, q9ft_10, q9ft_11, q9ft_12, [], [], [], [], [], [], [], q9ft_20, q9ft_21, q9ft_22, q9ft_23, q9ft_24, q9ft_25, q9ft_26, q9ft_27, q9ft_28, q9ft_29, q9ft_30, q9ft_31, q9ft_32, [], [], [], [], [], [], [], [], q9ft_41, [], [], [], [], [], [], [], [], [], [], [], [], [], [], [], [], [], [], [], q9ft_61], q9KAS, [(7, 0, 11), (7, 0, 12), (7, 0, 13), (7, 0, 14)])
theorem q9fitI {t : q9ET} (h : t.1 = 0) : ∀ (G : q9GH) (v : Value), q9tyV G t v → narrow .int v = v ∧ fits .int v = true := by
  intro G v hv
  obtain ⟨k, lo, hi⟩ := t
  have h : k = 0 := h
  subst h
  obtain ⟨x, rfl, -⟩ := hv
  exact ⟨rfl, rfl⟩
theorem q9fitJ {t : q9ET} (h : t.1 = 1) : ∀ (G : q9GH) (v : Value), q9tyV G t v → narrow .long v = v ∧ fits .long v = true := by
  intro G v hv
  obtain ⟨k, lo, hi⟩ := t
  have h : k = 1 := h
  subst h
  obtain ⟨x, rfl, -⟩ := hv
  exact ⟨rfl, rfl⟩
theorem q9fitZ : ∀ (G : q9GH) (v : Value), q9tyV G (0, 0, 1) v → narrow .boolean v = v ∧ fits .boolean v = true := by
  intro G v hv
  obtain ⟨x, rfl, h1, h2⟩ := hv
  have h1 : 0 ≤ x.toInt := h1
  have h2 : x.toInt ≤ 1 := h2
  have h : x.toInt = 0 ∨ x.toInt = 1 := by omega
  rcases h with h | h
  · have e : x = 0 := Int32.toInt_inj.mp (by rw [h]; rfl)
    subst e
    exact ⟨rfl, rfl⟩
  · have e : x = 1 := Int32.toInt_inj.mp (by rw [h]; rfl)
    subst e
    exact ⟨rfl, rfl⟩
theorem q9fitA {t : q9ET} (f : FieldType) (h : t.1 = 2) : ∀ (G : q9GH) (v : Value), q9tyV G t v → narrow (.array f) v = v ∧ fits (.array f) v = true := by
  intro G v hv
  obtain ⟨k, lo, hi⟩ := t
  have h : k = 2 := h
  subst h
  obtain ⟨a, n, rfl, -⟩ := hv
  exact ⟨rfl, rfl⟩
theorem q9fitO {t : q9ET} (f : String) (h : t.1 = 2 ∨ t.1 = 3) : ∀ (G : q9GH) (v : Value), q9tyV G t v → narrow (.object f) v = v ∧ fits (.object f) v = true := by
  intro G v hv
  obtain ⟨k, lo, hi⟩ := t
  have h : k = 2 ∨ k = 3 := h
  rcases h with h | h
  · subst h
    obtain ⟨a, n, rfl, -⟩ := hv
    exact ⟨rfl, rfl⟩
  · subst h
    rcases hv with rfl | ⟨a, n, rfl, -⟩
    · exact ⟨rfl, rfl⟩
    · exact ⟨rfl, rfl⟩
set_option maxRecDepth 100000 in
theorem q9fl_X0_11 : q9FLs q9ALLW q9TBL RX0 (11, 0, 1) := ⟨RX0, TX0, 5, q9ft_0, (2, 100, 0), tyX0, rfl, Nat.le_of_ble_eq_true rfl, q9uw_0, (q9inT2 117 rfl rfl), rfl, rfl, tyX0_ok, nmX0, q9fitA _ rfl⟩
set_option maxRecDepth 100000 in
theorem q9fl_X0_15 : q9FLs q9ALLW q9TBL RX0 (15, 0, 2) := ⟨RX0, TX0, 5, q9ft_0, (2, 101, 0), tyX0, rfl, Nat.le_of_ble_eq_true rfl, q9uw_0, (q9inT2 118 rfl rfl), rfl, rfl, tyX0_ok, nmX0, q9fitA _ rfl⟩
set_option maxRecDepth 100000 in
theorem q9fl_X0_18 : q9FLs q9ALLW q9TBL RX0 (18, 0, 3) := ⟨RX0, TX0, 5, q9ft_0, (2, 102, 0), tyX0, rfl, Nat.le_of_ble_eq_true rfl, q9uw_0, (q9inT2 119 rfl rfl), rfl, rfl, tyX0_ok, nmX0, q9fitA _ rfl⟩
set_option maxRecDepth 100000 in
theorem q9fl_X0_21 : q9FLs q9ALLW q9TBL RX0 (21, 0, 4) := ⟨RX0, TX0, 5, q9ft_0, (2, 103, 0), tyX0, rfl, Nat.le_of_ble_eq_true rfl, q9uw_0, (q9inT2 120 rfl rfl), rfl, rfl, tyX0_ok, nmX0, q9fitA _ rfl⟩
set_option maxRecDepth 100000 in
theorem q9fl_X0_24 : q9FLs q9ALLW q9TBL RX0 (24, 0, 0) := ⟨RX0, TX0, 5, q9ft_0, (0, 0, 80), tyX0, rfl, Nat.le_of_ble_eq_true rfl, q9uw_0, (q9inT2 115 rfl rfl), rfl, rfl, tyX0_ok, nmX0, q9fitI rfl⟩
noncomputable def q9fs_X0 : List (Nat × Nat × Nat) := [(11, 0, 1), (15, 0, 2), (18, 0, 3), (21, 0, 4), (24, 0, 0)]
set_option maxRecDepth 100000 in
theorem q9fs_X0_ok : ∀ q ∈ q9fs_X0, q9FLs q9ALLW q9TBL RX0 q := (List.forall_mem_cons.mpr ⟨q9fl_X0_11, (List.forall_mem_cons.mpr ⟨q9fl_X0_15, (List.forall_mem_cons.mpr ⟨q9fl_X0_18, (List.forall_mem_cons.mpr ⟨q9fl_X0_21, (List.forall_mem_cons.mpr ⟨q9fl_X0_24, (fun _ h => absurd h List.not_mem_nil)⟩)⟩)⟩)⟩)⟩)
noncomputable def q9ps_X0 : List (Nat × Nat × Nat) := [(24, 0, 0)]
set_option maxRecDepth 100000 in
theorem q9ps_X0_ok : ∀ q ∈ q9ps_X0, q9FLs q9ALLW q9TBL RX0 q ∧ q9FLput q := (List.forall_mem_cons.mpr ⟨⟨q9fl_X0_24, _, rfl, rfl⟩, (fun _ h => absurd h List.not_mem_nil)⟩)
set_option maxRecDepth 100000 in
theorem q9fl_X1_9 : q9FLs q9ALLW q9TBL RX1 (9, 1, 3) := ⟨RX1, TX1, 18, q9ft_1, (2, 104, 0), tyX1, rfl, Nat.le_of_ble_eq_true rfl, q9uw_1, (q9inT2 143 rfl rfl), rfl, rfl, tyX1_ok, nmX1, q9fitA _ rfl⟩
set_option maxRecDepth 100000 in
theorem q9fl_X1_15 : q9FLs q9ALLW q9TBL RX1 (15, 1, 4) := ⟨RX1, TX1, 18, q9ft_1, (2, 105, 0), tyX1, rfl, Nat.le_of_ble_eq_true rfl, q9uw_1, (q9inT2 144 rfl rfl), rfl, rfl, tyX1_ok, nmX1, q9fitA _ rfl⟩
set_option maxRecDepth 100000 in
theorem q9fl_X1_18 : q9FLs q9ALLW q9TBL RX1 (18, 1, 5) := ⟨RX1, TX1, 18, q9ft_1, (2, 106, 0), tyX1, rfl, Nat.le_of_ble_eq_true rfl, q9uw_1, (q9inT2 145 rfl rfl), rfl, rfl, tyX1_ok, nmX1, q9fitA _ rfl⟩
set_option maxRecDepth 100000 in
theorem q9fl_X1_21 : q9FLs q9ALLW q9TBL RX1 (21, 1, 6) := ⟨RX1, TX1, 18, q9ft_1, (2, 107, 0), tyX1, rfl, Nat.le_of_ble_eq_true rfl, q9uw_1, (q9inT2 146 rfl rfl), rfl, rfl, tyX1_ok, nmX1, q9fitA _ rfl⟩
set_option maxRecDepth 100000 in
theorem q9fl_X1_24 : q9FLs q9ALLW q9TBL RX1 (24, 1, 7) := ⟨RX1, TX1, 18, q9ft_1, (2, 108, 0), tyX1, rfl, Nat.le_of_ble_eq_true rfl, q9uw_1, (q9inT2 147 rfl rfl), rfl, rfl, tyX1_ok, nmX1, q9fitA _ rfl⟩
set_option maxRecDepth 100000 in
theorem q9fl_X1_27 : q9FLs q9ALLW q9TBL RX1 (27, 1, 8) := ⟨RX1, TX1, 18, q9ft_1, (2, 109, 0), tyX1, rfl, Nat.le_of_ble_eq_true rfl, q9uw_1, (q9inT2 148 rfl rfl), rfl, rfl, tyX1_ok, nmX1, q9fitA _ rfl⟩
set_option maxRecDepth 100000 in
theorem q9fl_X1_30 : q9FLs q9ALLW q9TBL RX1 (30, 1, 9) := ⟨RX1, TX1, 18, q9ft_1, (2, 110, 0), tyX1, rfl, Nat.le_of_ble_eq_true rfl, q9uw_1, (q9inT2 149 rfl rfl), rfl, rfl, tyX1_ok, nmX1, q9fitA _ rfl⟩
set_option maxRecDepth 100000 in
theorem q9fl_X1_33 : q9FLs q9ALLW q9TBL RX1 (33, 1, 10) := ⟨RX1, TX1, 18, q9ft_1, (2, 111, 0), tyX1, rfl, Nat.le_of_ble_eq_true rfl, q9uw_1, (q9inT2 150 rfl rfl), rfl, rfl, tyX1_ok, nmX1, q9fitA _ rfl⟩
set_option maxRecDepth 100000 in
theorem q9fl_X1_36 : q9FLs q9ALLW q9TBL RX1 (36, 1, 11) := ⟨RX1, TX1, 18, q9ft_1, (2, 112, 0), tyX1, rfl, Nat.le_of_ble_eq_true rfl, q9uw_1, (q9inT2 151 rfl rfl), rfl, rfl, tyX1_ok, nmX1, q9fitA _ rfl⟩
set_option maxRecDepth 100000 in
theorem q9fl_X1_39 : q9FLs q9ALLW q9TBL RX1 (39, 1, 13) := ⟨RX1, TX1, 18, q9ft_1, (2, 113, 0), tyX1, rfl, Nat.le_of_ble_eq_true rfl, q9uw_1, (q9inT2 155 rfl rfl), rfl, rfl, tyX1_ok, nmX1, q9fitA _ rfl⟩
set_option maxRecDepth 100000 in
theorem q9fl_X1_42 : q9FLs q9ALLW q9TBL RX1 (42, 1, 14) := ⟨RX1, TX1, 18, q9ft_1, (2, 114, 0), tyX1, rfl, Nat.le_of_ble_eq_true rfl, q9uw_1, (q9inT2 156 rfl rfl), rfl, rfl, tyX1_ok, nmX1, q9fitA _ rfl⟩
set_option maxRecDepth 100000 in
theorem q9fl_X1_45 : q9FLs q9ALLW q9TBL RX1 (45, 1, 0) := ⟨RX1, TX1, 18, q9ft_1, (2, 8, 0), tyX1, rfl, Nat.le_of_ble_eq_true rfl, q9uw_1, (q9inT2 139 rfl rfl), rfl, rfl, tyX1_ok, nmX1, q9fitO _ (.inl rfl)⟩
set_option maxRecDepth 100000 in
theorem q9fl_X1_49 : q9FLs q9ALLW q9TBL RX1 (49, 1, 1) := ⟨RX1, TX1, 18, q9ft_1, (0, 0, 1), tyX1, rfl, Nat.le_of_ble_eq_true rfl, q9uw_1, (q9inT2 140 rfl rfl), rfl, rfl, tyX1_ok, nmX1, q9fitZ⟩
set_option maxRecDepth 100000 in
theorem q9fl_X1_59 : q9FLs q9ALLW q9TBL RX1 (59, 1, 2) := ⟨RX1, TX1, 18, q9ft_1, (0, (-2147483648), 2147483647), tyX1, rfl, Nat.le_of_ble_eq_true rfl, q9uw_1, (q9inT2 141 rfl rfl), rfl, rfl, tyX1_ok, nmX1, q9fitI rfl⟩
set_option maxRecDepth 100000 in
theorem q9fl_X1_69 : q9FLs q9ALLW q9TBL RX1 (69, 1, 12) := ⟨RX1, TX1, 18, q9ft_1, (0, 0, 6), tyX1, rfl, Nat.le_of_ble_eq_true rfl, q9uw_1, (q9inT2 153 rfl rfl), rfl, rfl, tyX1_ok, nmX1, q9fitI rfl⟩
set_option maxRecDepth 100000 in
theorem q9fl_X1_72 : q9FLs q9ALLW q9TBL RX1 (72, 1, 15) := ⟨RX1, TX1, 18, q9ft_1, (0, (-2147483648), 2147483647), tyX1, rfl, Nat.le_of_ble_eq_true rfl, q9uw_1, (q9inT2 157 rfl rfl), rfl, rfl, tyX1_ok, nmX1, q9fitI rfl⟩
set_option maxRecDepth 100000 in
theorem q9fl_X1_75 : q9FLs q9ALLW q9TBL RX1 (75, 1, 17) := ⟨RX1, TX1, 18, q9ft_1, (0, (-2147483648), 2147483647), tyX1, rfl, Nat.le_of_ble_eq_true rfl, q9uw_1, (q9inT2 159 rfl rfl), rfl, rfl, tyX1_ok, nmX1, q9fitI rfl⟩
set_option maxRecDepth 100000 in
theorem q9fl_X1_99 : q9FLs q9ALLW q9TBL RX1 (99, 7, 5) := ⟨RX7, TX7, 15, q9ft_7, (0, (-2147483648), 2147483647), tyX7, rfl, Nat.le_of_ble_eq_true rfl, q9uw_7, (q9inT5 156 rfl rfl), rfl, rfl, tyX7_ok, nmX7, q9fitI rfl⟩
set_option maxRecDepth 100000 in
theorem q9fl_X1_121 : q9FLs q9ALLW q9TBL RX1 (121, 7, 13) := ⟨RX7, TX7, 15, q9ft_7, (2, 150, 0), tyX7, rfl, Nat.le_of_ble_eq_true rfl, q9uw_7, (q9inT5 173 rfl rfl), rfl, rfl, tyX7_ok, nmX7, q9fitA _ rfl⟩
set_option maxRecDepth 100000 in
theorem q9fl_X1_124 : q9FLs q9ALLW q9TBL RX1 (124, 7, 0) := ⟨RX7, TX7, 15, q9ft_7, (0, 0, 400), tyX7, rfl, Nat.le_of_ble_eq_true rfl, q9uw_7, (q9inT5 140 rfl rfl), rfl, rfl, tyX7_ok, nmX7, q9fitI rfl⟩
set_option maxRecDepth 100000 in
theorem q9fl_X1_127 : q9FLs q9ALLW q9TBL RX1 (127, 1, 16) := ⟨RX1, TX1, 18, q9ft_1, (0, 0, 1), tyX1, rfl, Nat.le_of_ble_eq_true rfl, q9uw_1, (q9inT2 158 rfl rfl), rfl, rfl, tyX1_ok, nmX1, q9fitZ⟩
noncomputable def q9fs_X1 : List (Nat × Nat × Nat) := [(9, 1, 3), (15, 1, 4), (18, 1, 5), (21, 1, 6), (24, 1, 7), (27, 1, 8), (30, 1, 9), (33, 1, 10), (36, 1, 11), (39, 1, 13), (42, 1, 14), (45, 1, 0), (49, 1, 1), (59, 1, 2), (69, 1, 12), (72, 1, 15), (75, 1, 17), (99, 7, 5), (121, 7, 13), (124, 7, 0), (127, 1, 16)]
set_option maxRecDepth 100000 in
theorem q9fs_X1_ok : ∀ q ∈ q9fs_X1, q9FLs q9ALLW q9TBL RX1 q := (List.forall_mem_cons.mpr ⟨q9fl_X1_9, (List.forall_mem_cons.mpr ⟨q9fl_X1_15, (List.forall_mem_cons.mpr ⟨q9fl_X1_18, (List.forall_mem_cons.mpr ⟨q9fl_X1_21, (List.forall_mem_cons.mpr ⟨q9fl_X1_24, (List.forall_mem_cons.mpr ⟨q9fl_X1_27, (List.forall_mem_cons.mpr ⟨q9fl_X1_30, (List.forall_mem_cons.mpr ⟨q9fl_X1_33, (List.forall_mem_cons.mpr ⟨q9fl_X1_36, (List.forall_mem_cons.mpr ⟨q9fl_X1_39, (List.forall_mem_cons.mpr ⟨q9fl_X1_42, (List.forall_mem_cons.mpr ⟨q9fl_X1_45, (List.forall_mem_cons.mpr ⟨q9fl_X1_49, (List.forall_mem_cons.mpr ⟨q9fl_X1_59, (List.forall_mem_cons.mpr ⟨q9fl_X1_69, (List.forall_mem_cons.mpr ⟨q9fl_X1_72, (List.forall_mem_cons.mpr ⟨q9fl_X1_75, (List.forall_mem_cons.mpr ⟨q9fl_X1_99, (List.forall_mem_cons.mpr ⟨q9fl_X1_121, (List.forall_mem_cons.mpr ⟨q9fl_X1_124, (List.forall_mem_cons.mpr ⟨q9fl_X1_127, (fun _ h => absurd h List.not_mem_nil)⟩)⟩)⟩)⟩)⟩)⟩)⟩)⟩)⟩)⟩)⟩)⟩)⟩)⟩)⟩)⟩)⟩)⟩)⟩)⟩)⟩)
noncomputable def q9ps_X1 : List (Nat × Nat × Nat) := [(59, 1, 2), (69, 1, 12), (72, 1, 15), (75, 1, 17), (99, 7, 5), (127, 1, 16)]
set_option maxRecDepth 100000 in
theorem q9ps_X1_ok : ∀ q ∈ q9ps_X1, q9FLs q9ALLW q9TBL RX1 q ∧ q9FLput q := (List.forall_mem_cons.mpr ⟨⟨q9fl_X1_59, _, rfl, rfl⟩, (List.forall_mem_cons.mpr ⟨⟨q9fl_X1_69, _, rfl, rfl⟩, (List.forall_mem_cons.mpr ⟨⟨q9fl_X1_72, _, rfl, rfl⟩, (List.forall_mem_cons.mpr ⟨⟨q9fl_X1_75, _, rfl, rfl⟩, (List.forall_mem_cons.mpr ⟨⟨q9fl_X1_99, _, rfl, rfl⟩, (List.forall_mem_cons.mpr ⟨⟨q9fl_X1_127, _, rfl, rfl⟩, (fun _ h => absurd h List.not_mem_nil)⟩)⟩)⟩)⟩)⟩)⟩)
noncomputable def q9fs_X2 : List (Nat × Nat × Nat) := []
set_option maxRecDepth 100000 in
theorem q9fs_X2_ok : ∀ q ∈ q9fs_X2, q9FLs q9ALLW q9TBL RX2 q := (fun _ h => absurd h List.not_mem_nil)
noncomputable def q9ps_X2 : List (Nat × Nat × Nat) := []
set_option maxRecDepth 100000 in
theorem q9ps_X2_ok : ∀ q ∈ q9ps_X2, q9FLs q9ALLW q9TBL RX2 q ∧ q9FLput q := (fun _ h => absurd h List.not_mem_nil)
set_option maxRecDepth 100000 in
theorem q9fl_X3_11 : q9FLs q9ALLW q9TBL RX3 (11, 3, 2) := ⟨RX3, TX3, 5, q9ft_3, (2, 115, 0), tyX3, rfl, Nat.le_of_ble_eq_true rfl, q9uw_3, (q9inT2 95 rfl rfl), rfl, rfl, tyX3_ok, nmX3, q9fitA _ rfl⟩
set_option maxRecDepth 100000 in
theorem q9fl_X3_15 : q9FLs q9ALLW q9TBL RX3 (15, 3, 3) := ⟨RX3, TX3, 5, q9ft_3, (2, 116, 0), tyX3, rfl, Nat.le_of_ble_eq_true rfl, q9uw_3, (q9inT2 96 rfl rfl), rfl, rfl, tyX3_ok, nmX3, q9fitA _ rfl⟩
set_option maxRecDepth 100000 in
theorem q9fl_X3_18 : q9FLs q9ALLW q9TBL RX3 (18, 3, 4) := ⟨RX3, TX3, 5, q9ft_3, (2, 117, 0), tyX3, rfl, Nat.le_of_ble_eq_true rfl, q9uw_3, (q9inT2 97 rfl rfl), rfl, rfl, tyX3_ok, nmX3, q9fitA _ rfl⟩
set_option maxRecDepth 100000 in
theorem q9fl_X3_21 : q9FLs q9ALLW q9TBL RX3 (21, 3, 0) := ⟨RX3, TX3, 5, q9ft_3, (2, 8, 0), tyX3, rfl, Nat.le_of_ble_eq_true rfl, q9uw_3, (q9inT2 92 rfl rfl), rfl, rfl, tyX3_ok, nmX3, q9fitO _ (.inl rfl)⟩
set_option maxRecDepth 100000 in
theorem q9fl_X3_25 : q9FLs q9ALLW q9TBL RX3 (25, 3, 1) := ⟨RX3, TX3, 5, q9ft_3, (0, 0, 12), tyX3, rfl, Nat.le_of_ble_eq_true rfl, q9uw_3, (q9inT2 93 rfl rfl), rfl, rfl, tyX3_ok, nmX3, q9fitI rfl⟩
set_option maxRecDepth 100000 in
theorem q9fl_X3_54 : q9FLs q9ALLW q9TBL RX3 (54, 7, 5) := ⟨RX7, TX7, 15, q9ft_7, (0, (-2147483648), 2147483647), tyX7, rfl, Nat.le_of_ble_eq_true rfl, q9uw_7, (q9inT5 155 rfl rfl), rfl, rfl, tyX7_ok, nmX7, q9fitI rfl⟩
noncomputable def q9fs_X3 : List (Nat × Nat × Nat) := [(11, 3, 2), (15, 3, 3), (18, 3, 4), (21, 3, 0), (25, 3, 1), (54, 7, 5)]
set_option maxRecDepth 100000 in
theorem q9fs_X3_ok : ∀ q ∈ q9fs_X3, q9FLs q9ALLW q9TBL RX3 q := (List.forall_mem_cons.mpr ⟨q9fl_X3_11, (List.forall_mem_cons.mpr ⟨q9fl_X3_15, (List.forall_mem_cons.mpr ⟨q9fl_X3_18, (List.forall_mem_cons.mpr ⟨q9fl_X3_21, (List.forall_mem_cons.mpr ⟨q9fl_X3_25, (List.forall_mem_cons.mpr ⟨q9fl_X3_54, (fun _ h => absurd h List.not_mem_nil)⟩)⟩)⟩)⟩)⟩)⟩)
noncomputable def q9ps_X3 : List (Nat × Nat × Nat) := [(25, 3, 1), (54, 7, 5)]
set_option maxRecDepth 100000 in
theorem q9ps_X3_ok : ∀ q ∈ q9ps_X3, q9FLs q9ALLW q9TBL RX3 q ∧ q9FLput q := (List.forall_mem_cons.mpr ⟨⟨q9fl_X3_25, _, rfl, rfl⟩, (List.forall_mem_cons.mpr ⟨⟨q9fl_X3_54, _, rfl, rfl⟩, (fun _ h => absurd h List.not_mem_nil)⟩)⟩)
set_option maxRecDepth 100000 in
theorem q9fl_X4_11 : q9FLs q9ALLW q9TBL RX4 (11, 4, 2) := ⟨RX4, TX4, 19, q9ft_4, (2, 118, 0), tyX4, rfl, Nat.le_of_ble_eq_true rfl, q9uw_4, (q9inT2 28 rfl rfl), rfl, rfl, tyX4_ok, nmX4, q9fitA _ rfl⟩
set_option maxRecDepth 100000 in
theorem q9fl_X4_15 : q9FLs q9ALLW q9TBL RX4 (15, 4, 3) := ⟨RX4, TX4, 19, q9ft_4, (2, 119, 0), tyX4, rfl, Nat.le_of_ble_eq_true rfl, q9uw_4, (q9inT2 29 rfl rfl), rfl, rfl, tyX4_ok, nmX4, q9fitA _ rfl⟩
set_option maxRecDepth 100000 in
theorem q9fl_X4_18 : q9FLs q9ALLW q9TBL RX4 (18, 4, 4) := ⟨RX4, TX4, 19, q9ft_4, (2, 120, 0), tyX4, rfl, Nat.le_of_ble_eq_true rfl, q9uw_4, (q9inT2 30 rfl rfl), rfl, rfl, tyX4_ok, nmX4, q9fitA _ rfl⟩
set_option maxRecDepth 100000 in
theorem q9fl_X4_21 : q9FLs q9ALLW q9TBL RX4 (21, 4, 5) := ⟨RX4, TX4, 19, q9ft_4, (2, 121, 0), tyX4, rfl, Nat.le_of_ble_eq_true rfl, q9uw_4, (q9inT2 31 rfl rfl), rfl, rfl, tyX4_ok, nmX4, q9fitA _ rfl⟩
set_option maxRecDepth 100000 in
theorem q9fl_X4_24 : q9FLs q9ALLW q9TBL RX4 (24, 4, 6) := ⟨RX4, TX4, 19, q9ft_4, (2, 122, 0), tyX4, rfl, Nat.le_of_ble_eq_true rfl, q9uw_4, (q9inT2 32 rfl rfl), rfl, rfl, tyX4_ok, nmX4, q9fitA _ rfl⟩
set_option maxRecDepth 100000 in
theorem q9fl_X4_27 : q9FLs q9ALLW q9TBL RX4 (27, 4, 7) := ⟨RX4, TX4, 19, q9ft_4, (2, 123, 0), tyX4, rfl, Nat.le_of_ble_eq_true rfl, q9uw_4, (q9inT2 33 rfl rfl), rfl, rfl, tyX4_ok, nmX4, q9fitA _ rfl⟩
set_option maxRecDepth 100000 in
theorem q9fl_X4_30 : q9FLs q9ALLW q9TBL RX4 (30, 4, 12) := ⟨RX4, TX4, 19, q9ft_4, (2, 124, 0), tyX4, rfl, Nat.le_of_ble_eq_true rfl, q9uw_4, (q9inT2 38 rfl rfl), rfl, rfl, tyX4_ok, nmX4, q9fitA _ rfl⟩
set_option maxRecDepth 100000 in
theorem q9fl_X4_33 : q9FLs q9ALLW q9TBL RX4 (33, 4, 13) := ⟨RX4, TX4, 19, q9ft_4, (2, 125, 0), tyX4, rfl, Nat.le_of_ble_eq_true rfl, q9uw_4, (q9inT2 39 rfl rfl), rfl, rfl, tyX4_ok, nmX4, q9fitA _ rfl⟩
set_option maxRecDepth 100000 in
theorem q9fl_X4_36 : q9FLs q9ALLW q9TBL RX4 (36, 4, 14) := ⟨RX4, TX4, 19, q9ft_4, (2, 126, 0), tyX4, rfl, Nat.le_of_ble_eq_true rfl, q9uw_4, (q9inT2 40 rfl rfl), rfl, rfl, tyX4_ok, nmX4, q9fitA _ rfl⟩
set_option maxRecDepth 100000 in
theorem q9fl_X4_39 : q9FLs q9ALLW q9TBL RX4 (39, 4, 15) := ⟨RX4, TX4, 19, q9ft_4, (2, 127, 0), tyX4, rfl, Nat.le_of_ble_eq_true rfl, q9uw_4, (q9inT2 41 rfl rfl), rfl, rfl, tyX4_ok, nmX4, q9fitA _ rfl⟩
set_option maxRecDepth 100000 in
theorem q9fl_X4_42 : q9FLs q9ALLW q9TBL RX4 (42, 4, 16) := ⟨RX4, TX4, 19, q9ft_4, (2, 128, 0), tyX4, rfl, Nat.le_of_ble_eq_true rfl, q9uw_4, (q9inT2 42 rfl rfl), rfl, rfl, tyX4_ok, nmX4, q9fitA _ rfl⟩
set_option maxRecDepth 100000 in
theorem q9fl_X4_45 : q9FLs q9ALLW q9TBL RX4 (45, 4, 0) := ⟨RX4, TX4, 19, q9ft_4, (2, 8, 0), tyX4, rfl, Nat.le_of_ble_eq_true rfl, q9uw_4, (q9inT2 26 rfl rfl), rfl, rfl, tyX4_ok, nmX4, q9fitO _ (.inl rfl)⟩
set_option maxRecDepth 100000 in
theorem q9fl_X4_49 : q9FLs q9ALLW q9TBL RX4 (49, 4, 1) := ⟨RX4, TX4, 19, q9ft_4, (0, 0, 5), tyX4, rfl, Nat.le_of_ble_eq_true rfl, q9uw_4, (q9inT2 27 rfl rfl), rfl, rfl, tyX4_ok, nmX4, q9fitI rfl⟩
set_option maxRecDepth 100000 in
theorem q9fl_X4_57 : q9FLs q9ALLW q9TBL RX4 (57, 4, 8) := ⟨RX4, TX4, 19, q9ft_4, (0, 0, 1), tyX4, rfl, Nat.le_of_ble_eq_true rfl, q9uw_4, (q9inT2 34 rfl rfl), rfl, rfl, tyX4_ok, nmX4, q9fitZ⟩
set_option maxRecDepth 100000 in
theorem q9fl_X4_65 : q9FLs q9ALLW q9TBL RX4 (65, 4, 9) := ⟨RX4, TX4, 19, q9ft_4, (0, (-2147483648), 2147483647), tyX4, rfl, Nat.le_of_ble_eq_true rfl, q9uw_4, (q9inT2 35 rfl rfl), rfl, rfl, tyX4_ok, nmX4, q9fitI rfl⟩
set_option maxRecDepth 100000 in
theorem q9fl_X4_68 : q9FLs q9ALLW q9TBL RX4 (68, 4, 10) := ⟨RX4, TX4, 19, q9ft_4, (0, (-2147483648), 2147483647), tyX4, rfl, Nat.le_of_ble_eq_true rfl, q9uw_4, (q9inT2 36 rfl rfl), rfl, rfl, tyX4_ok, nmX4, q9fitI rfl⟩
set_option maxRecDepth 100000 in
theorem q9fl_X4_71 : q9FLs q9ALLW q9TBL RX4 (71, 4, 11) := ⟨RX4, TX4, 19, q9ft_4, (0, (-2147483648), 2147483647), tyX4, rfl, Nat.le_of_ble_eq_true rfl, q9uw_4, (q9inT2 37 rfl rfl), rfl, rfl, tyX4_ok, nmX4, q9fitI rfl⟩
set_option maxRecDepth 100000 in
theorem q9fl_X4_81 : q9FLs q9ALLW q9TBL RX4 (81, 4, 17) := ⟨RX4, TX4, 19, q9ft_4, (0, (-2147483648), 2147483647), tyX4, rfl, Nat.le_of_ble_eq_true rfl, q9uw_4, (q9inT2 43 rfl rfl), rfl, rfl, tyX4_ok, nmX4, q9fitI rfl⟩
set_option maxRecDepth 100000 in
theorem q9fl_X4_84 : q9FLs q9ALLW q9TBL RX4 (84, 4, 18) := ⟨RX4, TX4, 19, q9ft_4, (0, (-2147483648), 2147483647), tyX4, rfl, Nat.le_of_ble_eq_true rfl, q9uw_4, (q9inT2 45 rfl rfl), rfl, rfl, tyX4_ok, nmX4, q9fitI rfl⟩
set_option maxRecDepth 100000 in
theorem q9fl_X4_108 : q9FLs q9ALLW q9TBL RX4 (108, 7, 5) := ⟨RX7, TX7, 15, q9ft_7, (0, (-2147483648), 2147483647), tyX7, rfl, Nat.le_of_ble_eq_true rfl, q9uw_7, (q9inT5 154 rfl rfl), rfl, rfl, tyX7_ok, nmX7, q9fitI rfl⟩
noncomputable def q9fs_X4 : List (Nat × Nat × Nat) := [(11, 4, 2), (15, 4, 3), (18, 4, 4), (21, 4, 5), (24, 4, 6), (27, 4, 7), (30, 4, 12), (33, 4, 13), (36, 4, 14), (39, 4, 15), (42, 4, 16), (45, 4, 0), (49, 4, 1), (57, 4, 8), (65, 4, 9), (68, 4, 10), (71, 4, 11), (81, 4, 17), (84, 4, 18), (108, 7, 5)]
set_option maxRecDepth 100000 in
theorem q9fs_X4_ok : ∀ q ∈ q9fs_X4, q9FLs q9ALLW q9TBL RX4 q := (List.forall_mem_cons.mpr ⟨q9fl_X4_11, (List.forall_mem_cons.mpr ⟨q9fl_X4_15, (List.forall_mem_cons.mpr ⟨q9fl_X4_18, (List.forall_mem_cons.mpr ⟨q9fl_X4_21, (List.forall_mem_cons.mpr ⟨q9fl_X4_24, (List.forall_mem_cons.mpr ⟨q9fl_X4_27, (List.forall_mem_cons.mpr ⟨q9fl_X4_30, (List.forall_mem_cons.mpr ⟨q9fl_X4_33, (List.forall_mem_cons.mpr ⟨q9fl_X4_36, (List.forall_mem_cons.mpr ⟨q9fl_X4_39, (List.forall_mem_cons.mpr ⟨q9fl_X4_42, (List.forall_mem_cons.mpr ⟨q9fl_X4_45, (List.forall_mem_cons.mpr ⟨q9fl_X4_49, (List.forall_mem_cons.mpr ⟨q9fl_X4_57, (List.forall_mem_cons.mpr ⟨q9fl_X4_65, (List.forall_mem_cons.mpr ⟨q9fl_X4_68, (List.forall_mem_cons.mpr ⟨q9fl_X4_71, (List.forall_mem_cons.mpr ⟨q9fl_X4_81, (List.forall_mem_cons.mpr ⟨q9fl_X4_84, (List.forall_mem_cons.mpr ⟨q9fl_X4_108, (fun _ h => absurd h List.not_mem_nil)⟩)⟩)⟩)⟩)⟩)⟩)⟩)⟩)⟩)⟩)⟩)⟩)⟩)⟩)⟩)⟩)⟩)⟩)⟩)⟩)
noncomputable def q9ps_X4 : List (Nat × Nat × Nat) := [(49, 4, 1), (57, 4, 8), (65, 4, 9), (68, 4, 10), (71, 4, 11), (81, 4, 17), (84, 4, 18), (108, 7, 5)]
set_option maxRecDepth 100000 in
theorem q9ps_X4_ok : ∀ q ∈ q9ps_X4, q9FLs q9ALLW q9TBL RX4 q ∧ q9FLput q := (List.forall_mem_cons.mpr ⟨⟨q9fl_X4_49, _, rfl, rfl⟩, (List.forall_mem_cons.mpr ⟨⟨q9fl_X4_57, _, rfl, rfl⟩, (List.forall_mem_cons.mpr ⟨⟨q9fl_X4_65, _, rfl, rfl⟩, (List.forall_mem_cons.mpr ⟨⟨q9fl_X4_68, _, rfl, rfl⟩, (List.forall_mem_cons.mpr ⟨⟨q9fl_X4_71, _, rfl, rfl⟩, (List.forall_mem_cons.mpr ⟨⟨q9fl_X4_81, _, rfl, rfl⟩, (List.forall_mem_cons.mpr ⟨⟨q9fl_X4_84, _, rfl, rfl⟩, (List.forall_mem_cons.mpr ⟨⟨q9fl_X4_108, _, rfl, rfl⟩, (fun _ h => absurd h List.not_mem_nil)⟩)⟩)⟩)⟩)⟩)⟩)⟩)⟩)
set_option maxRecDepth 100000 in
theorem q9fl_X5_9 : q9FLs q9ALLW q9TBL RX5 (9, 5, 1) := ⟨RX5, TX5, 11, q9ft_5, (2, 129, 0), tyX5, rfl, Nat.le_of_ble_eq_true rfl, q9uw_5, (q9inT3 4 rfl rfl), rfl, rfl, tyX5_ok, nmX5, q9fitA _ rfl⟩
set_option maxRecDepth 100000 in
theorem q9fl_X5_15 : q9FLs q9ALLW q9TBL RX5 (15, 5, 2) := ⟨RX5, TX5, 11, q9ft_5, (2, 130, 0), tyX5, rfl, Nat.le_of_ble_eq_true rfl, q9uw_5, (q9inT3 5 rfl rfl), rfl, rfl, tyX5_ok, nmX5, q9fitA _ rfl⟩
set_option maxRecDepth 100000 in
theorem q9fl_X5_18 : q9FLs q9ALLW q9TBL RX5 (18, 5, 3) := ⟨RX5, TX5, 11, q9ft_5, (2, 131, 0), tyX5, rfl, Nat.le_of_ble_eq_true rfl, q9uw_5, (q9inT3 6 rfl rfl), rfl, rfl, tyX5_ok, nmX5, q9fitA _ rfl⟩
set_option maxRecDepth 100000 in
theorem q9fl_X5_21 : q9FLs q9ALLW q9TBL RX5 (21, 5, 4) := ⟨RX5, TX5, 11, q9ft_5, (2, 132, 0), tyX5, rfl, Nat.le_of_ble_eq_true rfl, q9uw_5, (q9inT3 7 rfl rfl), rfl, rfl, tyX5_ok, nmX5, q9fitA _ rfl⟩
set_option maxRecDepth 100000 in
theorem q9fl_X5_24 : q9FLs q9ALLW q9TBL RX5 (24, 5, 5) := ⟨RX5, TX5, 11, q9ft_5, (2, 133, 0), tyX5, rfl, Nat.le_of_ble_eq_true rfl, q9uw_5, (q9inT3 8 rfl rfl), rfl, rfl, tyX5_ok, nmX5, q9fitA _ rfl⟩
set_option maxRecDepth 100000 in
theorem q9fl_X5_27 : q9FLs q9ALLW q9TBL RX5 (27, 5, 6) := ⟨RX5, TX5, 11, q9ft_5, (2, 134, 0), tyX5, rfl, Nat.le_of_ble_eq_true rfl, q9uw_5, (q9inT3 9 rfl rfl), rfl, rfl, tyX5_ok, nmX5, q9fitA _ rfl⟩
set_option maxRecDepth 100000 in
theorem q9fl_X5_30 : q9FLs q9ALLW q9TBL RX5 (30, 5, 7) := ⟨RX5, TX5, 11, q9ft_5, (2, 135, 0), tyX5, rfl, Nat.le_of_ble_eq_true rfl, q9uw_5, (q9inT3 10 rfl rfl), rfl, rfl, tyX5_ok, nmX5, q9fitA _ rfl⟩
set_option maxRecDepth 100000 in
theorem q9fl_X5_33 : q9FLs q9ALLW q9TBL RX5 (33, 5, 0) := ⟨RX5, TX5, 11, q9ft_5, (0, 0, 12), tyX5, rfl, Nat.le_of_ble_eq_true rfl, q9uw_5, (q9inT3 1 rfl rfl), rfl, rfl, tyX5_ok, nmX5, q9fitI rfl⟩
set_option maxRecDepth 100000 in
theorem q9fl_X5_54 : q9FLs q9ALLW q9TBL RX5 (54, 5, 8) := ⟨RX5, TX5, 11, q9ft_5, (0, (-2147483648), 2147483647), tyX5, rfl, Nat.le_of_ble_eq_true rfl, q9uw_5, (q9inT3 12 rfl rfl), rfl, rfl, tyX5_ok, nmX5, q9fitI rfl⟩
set_option maxRecDepth 100000 in
theorem q9fl_X5_57 : q9FLs q9ALLW q9TBL RX5 (57, 5, 9) := ⟨RX5, TX5, 11, q9ft_5, (0, (-2147483648), 2147483647), tyX5, rfl, Nat.le_of_ble_eq_true rfl, q9uw_5, (q9inT3 14 rfl rfl), rfl, rfl, tyX5_ok, nmX5, q9fitI rfl⟩
set_option maxRecDepth 100000 in
theorem q9fl_X5_60 : q9FLs q9ALLW q9TBL RX5 (60, 7, 0) := ⟨RX7, TX7, 15, q9ft_7, (0, 0, 400), tyX7, rfl, Nat.le_of_ble_eq_true rfl, q9uw_7, (q9inT5 137 rfl rfl), rfl, rfl, tyX7_ok, nmX7, q9fitI rfl⟩
noncomputable def q9fs_X5 : List (Nat × Nat × Nat) := [(9, 5, 1), (15, 5, 2), (18, 5, 3), (21, 5, 4), (24, 5, 5), (27, 5, 6), (30, 5, 7), (33, 5, 0), (54, 5, 8), (57, 5, 9), (60, 7, 0)]
set_option maxRecDepth 100000 in
theorem q9fs_X5_ok : ∀ q ∈ q9fs_X5, q9FLs q9ALLW q9TBL RX5 q := (List.forall_mem_cons.mpr ⟨q9fl_X5_9, (List.forall_mem_cons.mpr ⟨q9fl_X5_15, (List.forall_mem_cons.mpr ⟨q9fl_X5_18, (List.forall_mem_cons.mpr ⟨q9fl_X5_21, (List.forall_mem_cons.mpr ⟨q9fl_X5_24, (List.forall_mem_cons.mpr ⟨q9fl_X5_27, (List.forall_mem_cons.mpr ⟨q9fl_X5_30, (List.forall_mem_cons.mpr ⟨q9fl_X5_33, (List.forall_mem_cons.mpr ⟨q9fl_X5_54, (List.forall_mem_cons.mpr ⟨q9fl_X5_57, (List.forall_mem_cons.mpr ⟨q9fl_X5_60, (fun _ h => absurd h List.not_mem_nil)⟩)⟩)⟩)⟩)⟩)⟩)⟩)⟩)⟩)⟩)⟩)
noncomputable def q9ps_X5 : List (Nat × Nat × Nat) := [(33, 5, 0), (54, 5, 8), (57, 5, 9)]
set_option maxRecDepth 100000 in
theorem q9ps_X5_ok : ∀ q ∈ q9ps_X5, q9FLs q9ALLW q9TBL RX5 q ∧ q9FLput q := (List.forall_mem_cons.mpr ⟨⟨q9fl_X5_33, _, rfl, rfl⟩, (List.forall_mem_cons.mpr ⟨⟨q9fl_X5_54, _, rfl, rfl⟩, (List.forall_mem_cons.mpr ⟨⟨q9fl_X5_57, _, rfl, rfl⟩, (fun _ h => absurd h List.not_mem_nil)⟩)⟩)⟩)
set_option maxRecDepth 100000 in
theorem q9fl_X6_12 : q9FLs q9ALLW q9TBL RX6 (12, 6, 1) := ⟨RX6, TX6, 14, q9ft_6, (2, 10, 0), tyX6, rfl, Nat.le_of_ble_eq_true rfl, q9uw_6, (q9inT1 162 rfl rfl), rfl, rfl, tyX6_ok, nmX6, q9fitO _ (.inl rfl)⟩
set_option maxRecDepth 100000 in
theorem q9fl_X6_20 : q9FLs q9ALLW q9TBL RX6 (20, 6, 2) := ⟨RX6, TX6, 14, q9ft_6, (2, 136, 0), tyX6, rfl, Nat.le_of_ble_eq_true rfl, q9uw_6, (q9inT1 165 rfl rfl), rfl, rfl, tyX6_ok, nmX6, q9fitA _ rfl⟩
set_option maxRecDepth 100000 in
theorem q9fl_X6_24 : q9FLs q9ALLW q9TBL RX6 (24, 6, 4) := ⟨RX6, TX6, 14, q9ft_6, (2, 137, 0), tyX6, rfl, Nat.le_of_ble_eq_true rfl, q9uw_6, (q9inT1 169 rfl rfl), rfl, rfl, tyX6_ok, nmX6, q9fitA _ rfl⟩
set_option maxRecDepth 100000 in
theorem q9fl_X6_28 : q9FLs q9ALLW q9TBL RX6 (28, 6, 5) := ⟨RX6, TX6, 14, q9ft_6, (2, 138, 0), tyX6, rfl, Nat.le_of_ble_eq_true rfl, q9uw_6, (q9inT1 171 rfl rfl), rfl, rfl, tyX6_ok, nmX6, q9fitA _ rfl⟩
set_option maxRecDepth 100000 in
theorem q9fl_X6_31 : q9FLs q9ALLW q9TBL RX6 (31, 6, 6) := ⟨RX6, TX6, 14, q9ft_6, (2, 139, 0), tyX6, rfl, Nat.le_of_ble_eq_true rfl, q9uw_6, (q9inT1 173 rfl rfl), rfl, rfl, tyX6_ok, nmX6, q9fitA _ rfl⟩
set_option maxRecDepth 100000 in
theorem q9fl_X6_34 : q9FLs q9ALLW q9TBL RX6 (34, 6, 11) := ⟨RX6, TX6, 14, q9ft_6, (2, 140, 0), tyX6, rfl, Nat.le_of_ble_eq_true rfl, q9uw_6, (q9inT1 182 rfl rfl), rfl, rfl, tyX6_ok, nmX6, q9fitA _ rfl⟩
set_option maxRecDepth 100000 in
theorem q9fl_X6_37 : q9FLs q9ALLW q9TBL RX6 (37, 6, 12) := ⟨RX6, TX6, 14, q9ft_6, (2, 141, 0), tyX6, rfl, Nat.le_of_ble_eq_true rfl, q9uw_6, (q9inT1 183 rfl rfl), rfl, rfl, tyX6_ok, nmX6, q9fitA _ rfl⟩
set_option maxRecDepth 100000 in
theorem q9fl_X6_41 : q9FLs q9ALLW q9TBL RX6 (41, 6, 13) := ⟨RX6, TX6, 14, q9ft_6, (2, 142, 0), tyX6, rfl, Nat.le_of_ble_eq_true rfl, q9uw_6, (q9inT1 184 rfl rfl), rfl, rfl, tyX6_ok, nmX6, q9fitA _ rfl⟩
set_option maxRecDepth 100000 in
theorem q9fl_X6_44 : q9FLs q9ALLW q9TBL RX6 (44, 6, 0) := ⟨RX6, TX6, 14, q9ft_6, (2, 8, 0), tyX6, rfl, Nat.le_of_ble_eq_true rfl, q9uw_6, (q9inT1 161 rfl rfl), rfl, rfl, tyX6_ok, nmX6, q9fitO _ (.inl rfl)⟩
set_option maxRecDepth 100000 in
theorem q9fl_X6_53 : q9FLs q9ALLW q9TBL RX6 (53, 6, 3) := ⟨RX6, TX6, 14, q9ft_6, (0, 0, 60), tyX6, rfl, Nat.le_of_ble_eq_true rfl, q9uw_6, (q9inT1 167 rfl rfl), rfl, rfl, tyX6_ok, nmX6, q9fitI rfl⟩
set_option maxRecDepth 100000 in
theorem q9fl_X6_57 : q9FLs q9ALLW q9TBL RX6 (57, 6, 7) := ⟨RX6, TX6, 14, q9ft_6, (0, 0, 100), tyX6, rfl, Nat.le_of_ble_eq_true rfl, q9uw_6, (q9inT1 175 rfl rfl), rfl, rfl, tyX6_ok, nmX6, q9fitI rfl⟩
set_option maxRecDepth 100000 in
theorem q9fl_X6_60 : q9FLs q9ALLW q9TBL RX6 (60, 6, 8) := ⟨RX6, TX6, 14, q9ft_6, (0, (-2147483648), 2147483647), tyX6, rfl, Nat.le_of_ble_eq_true rfl, q9uw_6, (q9inT1 177 rfl rfl), rfl, rfl, tyX6_ok, nmX6, q9fitI rfl⟩
set_option maxRecDepth 100000 in
theorem q9fl_X6_63 : q9FLs q9ALLW q9TBL RX6 (63, 6, 9) := ⟨RX6, TX6, 14, q9ft_6, (0, (-2147483648), 2147483647), tyX6, rfl, Nat.le_of_ble_eq_true rfl, q9uw_6, (q9inT1 179 rfl rfl), rfl, rfl, tyX6_ok, nmX6, q9fitI rfl⟩
set_option maxRecDepth 100000 in
theorem q9fl_X6_66 : q9FLs q9ALLW q9TBL RX6 (66, 6, 10) := ⟨RX6, TX6, 14, q9ft_6, (0, 0, 4), tyX6, rfl, Nat.le_of_ble_eq_true rfl, q9uw_6, (q9inT1 181 rfl rfl), rfl, rfl, tyX6_ok, nmX6, q9fitI rfl⟩
set_option maxRecDepth 100000 in
theorem q9fl_X6_75 : q9FLs q9ALLW q9TBL RX6 (75, 10, 3) := ⟨RX10, TX10, 7, q9ft_10, (0, 0, 9), tyX10, rfl, Nat.le_of_ble_eq_true rfl, q9uw_10, (q9inT1 96 rfl rfl), rfl, rfl, tyX10_ok, nmX10, q9fitI rfl⟩
set_option maxRecDepth 100000 in
theorem q9fl_X6_97 : q9FLs q9ALLW q9TBL RX6 (97, 10, 1) := ⟨RX10, TX10, 7, q9ft_10, (0, 0, 400), tyX10, rfl, Nat.le_of_ble_eq_true rfl, q9uw_10, (q9inT1 93 rfl rfl), rfl, rfl, tyX10_ok, nmX10, q9fitI rfl⟩
set_option maxRecDepth 100000 in
theorem q9fl_X6_120 : q9FLs q9ALLW q9TBL RX6 (120, 10, 5) := ⟨RX10, TX10, 7, q9ft_10, (0, 0, 400), tyX10, rfl, Nat.le_of_ble_eq_true rfl, q9uw_10, (q9inT1 100 rfl rfl), rfl, rfl, tyX10_ok, nmX10, q9fitI rfl⟩
set_option maxRecDepth 100000 in
theorem q9fl_X6_123 : q9FLs q9ALLW q9TBL RX6 (123, 2, 0) := ⟨RX2, TX2, 8, q9ft_2, (0, (-2147483648), 2147483647), tyX2, rfl, Nat.le_of_ble_eq_true rfl, q9uw_2, (q9inT1 127 rfl rfl), rfl, rfl, tyX2_ok, nmX2, q9fitI rfl⟩
set_option maxRecDepth 100000 in
theorem q9fl_X6_126 : q9FLs q9ALLW q9TBL RX6 (126, 2, 7) := ⟨RX2, TX2, 8, q9ft_2, (0, (-2147483648), 2147483647), tyX2, rfl, Nat.le_of_ble_eq_true rfl, q9uw_2, (q9inT1 141 rfl rfl), rfl, rfl, tyX2_ok, nmX2, q9fitI rfl⟩
set_option maxRecDepth 100000 in
theorem q9fl_X6_156 : q9FLs q9ALLW q9TBL RX6 (156, 2, 2) := ⟨RX2, TX2, 8, q9ft_2, (0, (-1), 400), tyX2, rfl, Nat.le_of_ble_eq_true rfl, q9uw_2, (q9inT1 132 rfl rfl), rfl, rfl, tyX2_ok, nmX2, q9fitI rfl⟩
set_option maxRecDepth 100000 in
theorem q9fl_X6_168 : q9FLs q9ALLW q9TBL RX6 (168, 2, 1) := ⟨RX2, TX2, 8, q9ft_2, (0, (-2147483648), 2147483647), tyX2, rfl, Nat.le_of_ble_eq_true rfl, q9uw_2, (q9inT1 129 rfl rfl), rfl, rfl, tyX2_ok, nmX2, q9fitI rfl⟩
set_option maxRecDepth 100000 in
theorem q9fl_X6_181 : q9FLs q9ALLW q9TBL RX6 (181, 8, 1) := ⟨RX8, TX8, 7, q9ft_8, (0, 0, 8), tyX8, rfl, Nat.le_of_ble_eq_true rfl, q9uw_8, (q9inT1 53 rfl rfl), rfl, rfl, tyX8_ok, nmX8, q9fitI rfl⟩
set_option maxRecDepth 100000 in
theorem q9fl_X6_190 : q9FLs q9ALLW q9TBL RX6 (190, 2, 5) := ⟨RX2, TX2, 8, q9ft_2, (0, 0, 400), tyX2, rfl, Nat.le_of_ble_eq_true rfl, q9uw_2, (q9inT1 137 rfl rfl), rfl, rfl, tyX2_ok, nmX2, q9fitI rfl⟩
set_option maxRecDepth 100000 in
theorem q9fl_X6_196 : q9FLs q9ALLW q9TBL RX6 (196, 2, 6) := ⟨RX2, TX2, 8, q9ft_2, (0, (-2147483648), 2147483647), tyX2, rfl, Nat.le_of_ble_eq_true rfl, q9uw_2, (q9inT1 139 rfl rfl), rfl, rfl, tyX2_ok, nmX2, q9fitI rfl⟩
set_option maxRecDepth 100000 in
theorem q9fl_X6_208 : q9FLs q9ALLW q9TBL RX6 (208, 2, 4) := ⟨RX2, TX2, 8, q9ft_2, (0, (-2147483648), 2147483647), tyX2, rfl, Nat.le_of_ble_eq_true rfl, q9uw_2, (q9inT1 135 rfl rfl), rfl, rfl, tyX2_ok, nmX2, q9fitI rfl⟩
set_option maxRecDepth 100000 in
theorem q9fl_X6_223 : q9FLs q9ALLW q9TBL RX6 (223, 10, 6) := ⟨RX10, TX10, 7, q9ft_10, (0, (-400), 400), tyX10, rfl, Nat.le_of_ble_eq_true rfl, q9uw_10, (q9inT1 103 rfl rfl), rfl, rfl, tyX10_ok, nmX10, q9fitI rfl⟩
set_option maxRecDepth 100000 in
theorem q9fl_X6_238 : q9FLs q9ALLW q9TBL RX6 (238, 2, 3) := ⟨RX2, TX2, 8, q9ft_2, (0, (-2147483648), 2147483647), tyX2, rfl, Nat.le_of_ble_eq_true rfl, q9uw_2, (q9inT1 134 rfl rfl), rfl, rfl, tyX2_ok, nmX2, q9fitI rfl⟩
noncomputable def q9fs_X6 : List (Nat × Nat × Nat) := [(12, 6, 1), (20, 6, 2), (24, 6, 4), (28, 6, 5), (31, 6, 6), (34, 6, 11), (37, 6, 12), (41, 6, 13), (44, 6, 0), (53, 6, 3), (57, 6, 7), (60, 6, 8), (63, 6, 9), (66, 6, 10), (75, 10, 3), (97, 10, 1), (120, 10, 5), (123, 2, 0), (126, 2, 7), (156, 2, 2), (168, 2, 1), (181, 8, 1), (190, 2, 5), (196, 2, 6), (208, 2, 4), (223, 10, 6), (238, 2, 3)]
set_option maxRecDepth 100000 in
theorem q9fs_X6_ok : ∀ q ∈ q9fs_X6, q9FLs q9ALLW q9TBL RX6 q := (List.forall_mem_cons.mpr ⟨q9fl_X6_12, (List.forall_mem_cons.mpr ⟨q9fl_X6_20, (List.forall_mem_cons.mpr ⟨q9fl_X6_24, (List.forall_mem_cons.mpr ⟨q9fl_X6_28, (List.forall_mem_cons.mpr ⟨q9fl_X6_31, (List.forall_mem_cons.mpr ⟨q9fl_X6_34, (List.forall_mem_cons.mpr ⟨q9fl_X6_37, (List.forall_mem_cons.mpr ⟨q9fl_X6_41, (List.forall_mem_cons.mpr ⟨q9fl_X6_44, (List.forall_mem_cons.mpr ⟨q9fl_X6_53, (List.forall_mem_cons.mpr ⟨q9fl_X6_57, (List.forall_mem_cons.mpr ⟨q9fl_X6_60, (List.forall_mem_cons.mpr ⟨q9fl_X6_63, (List.forall_mem_cons.mpr ⟨q9fl_X6_66, (List.forall_mem_cons.mpr ⟨q9fl_X6_75, (List.forall_mem_cons.mpr ⟨q9fl_X6_97, (List.forall_mem_cons.mpr ⟨q9fl_X6_120, (List.forall_mem_cons.mpr ⟨q9fl_X6_123, (List.forall_mem_cons.mpr ⟨q9fl_X6_126, (List.forall_mem_cons.mpr ⟨q9fl_X6_156, (List.forall_mem_cons.mpr ⟨q9fl_X6_168, (List.forall_mem_cons.mpr ⟨q9fl_X6_181, (List.forall_mem_cons.mpr ⟨q9fl_X6_190, (List.forall_mem_cons.mpr ⟨q9fl_X6_196, (List.forall_mem_cons.mpr ⟨q9fl_X6_208, (List.forall_mem_cons.mpr ⟨q9fl_X6_223, (List.forall_mem_cons.mpr ⟨q9fl_X6_238, (fun _ h => absurd h List.not_mem_nil)⟩)⟩)⟩)⟩)⟩)⟩)⟩)⟩)⟩)⟩)⟩)⟩)⟩)⟩)⟩)⟩)⟩)⟩)⟩)⟩)⟩)⟩)⟩)⟩)⟩)⟩)⟩)
noncomputable def q9ps_X6 : List (Nat × Nat × Nat) := [(53, 6, 3), (57, 6, 7), (60, 6, 8), (63, 6, 9), (66, 6, 10), (75, 10, 3), (97, 10, 1), (120, 10, 5), (123, 2, 0), (126, 2, 7), (156, 2, 2), (168, 2, 1), (181, 8, 1), (190, 2, 5), (196, 2, 6), (208, 2, 4), (223, 10, 6), (238, 2, 3)]
set_option maxRecDepth 100000 in
theorem q9ps_X6_ok : ∀ q ∈ q9ps_X6, q9FLs q9ALLW q9TBL RX6 q ∧ q9FLput q := (List.forall_mem_cons.mpr ⟨⟨q9fl_X6_53, _, rfl, rfl⟩, (List.forall_mem_cons.mpr ⟨⟨q9fl_X6_57, _, rfl, rfl⟩, (List.forall_mem_cons.mpr ⟨⟨q9fl_X6_60, _, rfl, rfl⟩, (List.forall_mem_cons.mpr ⟨⟨q9fl_X6_63, _, rfl, rfl⟩, (List.forall_mem_cons.mpr ⟨⟨q9fl_X6_66, _, rfl, rfl⟩, (List.forall_mem_cons.mpr ⟨⟨q9fl_X6_75, _, rfl, rfl⟩, (List.forall_mem_cons.mpr ⟨⟨q9fl_X6_97, _, rfl, rfl⟩, (List.forall_mem_cons.mpr ⟨⟨q9fl_X6_120, _, rfl, rfl⟩, (List.forall_mem_cons.mpr ⟨⟨q9fl_X6_123, _, rfl, rfl⟩, (List.forall_mem_cons.mpr ⟨⟨q9fl_X6_126, _, rfl, rfl⟩, (List.forall_mem_cons.mpr ⟨⟨q9fl_X6_156, _, rfl, rfl⟩, (List.forall_mem_cons.mpr ⟨⟨q9fl_X6_168, _, rfl, rfl⟩, (List.forall_mem_cons.mpr ⟨⟨q9fl_X6_181, _, rfl, rfl⟩, (List.forall_mem_cons.mpr ⟨⟨q9fl_X6_190, _, rfl, rfl⟩, (List.forall_mem_cons.mpr ⟨⟨q9fl_X6_196, _, rfl, rfl⟩, (List.forall_mem_cons.mpr ⟨⟨q9fl_X6_208, _, rfl, rfl⟩, (List.forall_mem_cons.mpr ⟨⟨q9fl_X6_223, _, rfl, rfl⟩, (List.forall_mem_cons.mpr ⟨⟨q9fl_X6_238, _, rfl, rfl⟩, (fun _ h => absurd h List.not_mem_nil)⟩)⟩)⟩)⟩)⟩)⟩)⟩)⟩)⟩)⟩)⟩)⟩)⟩)⟩)⟩)⟩)⟩)⟩)
set_option maxRecDepth 100000 in
theorem q9fl_X7_9 : q9FLs q9ALLW q9TBL RX7 (9, 7, 6) := ⟨RX7, TX7, 15, q9ft_7, (2, 143, 0), tyX7, rfl, Nat.le_of_ble_eq_true rfl, q9uw_7, (q9inT5 159 rfl rfl), rfl, rfl, tyX7_ok, nmX7, q9fitA _ rfl⟩
set_option maxRecDepth 100000 in
theorem q9fl_X7_15 : q9FLs q9ALLW q9TBL RX7 (15, 7, 7) := ⟨RX7, TX7, 15, q9ft_7, (2, 144, 0), tyX7, rfl, Nat.le_of_ble_eq_true rfl, q9uw_7, (q9inT5 161 rfl rfl), rfl, rfl, tyX7_ok, nmX7, q9fitA _ rfl⟩
set_option maxRecDepth 100000 in
theorem q9fl_X7_24 : q9FLs q9ALLW q9TBL RX7 (24, 7, 0) := ⟨RX7, TX7, 15, q9ft_7, (0, 0, 400), tyX7, rfl, Nat.le_of_ble_eq_true rfl, q9uw_7, (q9inT5 136 rfl rfl), rfl, rfl, tyX7_ok, nmX7, q9fitI rfl⟩
set_option maxRecDepth 100000 in
theorem q9fl_X7_28 : q9FLs q9ALLW q9TBL RX7 (28, 7, 1) := ⟨RX7, TX7, 15, q9ft_7, (0, 0, 100), tyX7, rfl, Nat.le_of_ble_eq_true rfl, q9uw_7, (q9inT5 141 rfl rfl), rfl, rfl, tyX7_ok, nmX7, q9fitI rfl⟩
set_option maxRecDepth 100000 in
theorem q9fl_X7_31 : q9FLs q9ALLW q9TBL RX7 (31, 7, 2) := ⟨RX7, TX7, 15, q9ft_7, (0, 0, 63), tyX7, rfl, Nat.le_of_ble_eq_true rfl, q9uw_7, (q9inT5 144 rfl rfl), rfl, rfl, tyX7_ok, nmX7, q9fitI rfl⟩
set_option maxRecDepth 100000 in
theorem q9fl_X7_34 : q9FLs q9ALLW q9TBL RX7 (34, 7, 8) := ⟨RX7, TX7, 15, q9ft_7, (2, 145, 0), tyX7, rfl, Nat.le_of_ble_eq_true rfl, q9uw_7, (q9inT5 163 rfl rfl), rfl, rfl, tyX7_ok, nmX7, q9fitA _ rfl⟩
set_option maxRecDepth 100000 in
theorem q9fl_X7_38 : q9FLs q9ALLW q9TBL RX7 (38, 7, 9) := ⟨RX7, TX7, 15, q9ft_7, (2, 146, 0), tyX7, rfl, Nat.le_of_ble_eq_true rfl, q9uw_7, (q9inT5 164 rfl rfl), rfl, rfl, tyX7_ok, nmX7, q9fitA _ rfl⟩
set_option maxRecDepth 100000 in
theorem q9fl_X7_41 : q9FLs q9ALLW q9TBL RX7 (41, 7, 10) := ⟨RX7, TX7, 15, q9ft_7, (2, 147, 0), tyX7, rfl, Nat.le_of_ble_eq_true rfl, q9uw_7, (q9inT5 165 rfl rfl), rfl, rfl, tyX7_ok, nmX7, q9fitA _ rfl⟩
set_option maxRecDepth 100000 in
theorem q9fl_X7_44 : q9FLs q9ALLW q9TBL RX7 (44, 7, 11) := ⟨RX7, TX7, 15, q9ft_7, (2, 148, 0), tyX7, rfl, Nat.le_of_ble_eq_true rfl, q9uw_7, (q9inT5 166 rfl rfl), rfl, rfl, tyX7_ok, nmX7, q9fitA _ rfl⟩
set_option maxRecDepth 100000 in
theorem q9fl_X7_47 : q9FLs q9ALLW q9TBL RX7 (47, 7, 12) := ⟨RX7, TX7, 15, q9ft_7, (2, 149, 0), tyX7, rfl, Nat.le_of_ble_eq_true rfl, q9uw_7, (q9inT5 169 rfl rfl), rfl, rfl, tyX7_ok, nmX7, q9fitA _ rfl⟩
set_option maxRecDepth 100000 in
theorem q9fl_X7_50 : q9FLs q9ALLW q9TBL RX7 (50, 7, 13) := ⟨RX7, TX7, 15, q9ft_7, (2, 150, 0), tyX7, rfl, Nat.le_of_ble_eq_true rfl, q9uw_7, (q9inT5 172 rfl rfl), rfl, rfl, tyX7_ok, nmX7, q9fitA _ rfl⟩
set_option maxRecDepth 100000 in
theorem q9fl_X7_53 : q9FLs q9ALLW q9TBL RX7 (53, 7, 14) := ⟨RX7, TX7, 15, q9ft_7, (2, 151, 0), tyX7, rfl, Nat.le_of_ble_eq_true rfl, q9uw_7, (q9inT5 174 rfl rfl), rfl, rfl, tyX7_ok, nmX7, q9fitA _ rfl⟩
set_option maxRecDepth 100000 in
theorem q9fl_X7_63 : q9FLs q9ALLW q9TBL RX7 (63, 7, 3) := ⟨RX7, TX7, 15, q9ft_7, (0, (-2147483648), 2147483647), tyX7, rfl, Nat.le_of_ble_eq_true rfl, q9uw_7, (q9inT5 146 rfl rfl), rfl, rfl, tyX7_ok, nmX7, q9fitI rfl⟩
set_option maxRecDepth 100000 in
theorem q9fl_X7_98 : q9FLs q9ALLW q9TBL RX7 (98, 7, 4) := ⟨RX7, TX7, 15, q9ft_7, (0, (-2147483648), 2147483647), tyX7, rfl, Nat.le_of_ble_eq_true rfl, q9uw_7, (q9inT5 153 rfl rfl), rfl, rfl, tyX7_ok, nmX7, q9fitI rfl⟩
noncomputable def q9fs_X7 : List (Nat × Nat × Nat) := [(9, 7, 6), (15, 7, 7), (24, 7, 0), (28, 7, 1), (31, 7, 2), (34, 7, 8), (38, 7, 9), (41, 7, 10), (44, 7, 11), (47, 7, 12), (50, 7, 13), (53, 7, 14), (63, 7, 3), (98, 7, 4)]
set_option maxRecDepth 100000 in
theorem q9fs_X7_ok : ∀ q ∈ q9fs_X7, q9FLs q9ALLW q9TBL RX7 q := (List.forall_mem_cons.mpr ⟨q9fl_X7_9, (List.forall_mem_cons.mpr ⟨q9fl_X7_15, (List.forall_mem_cons.mpr ⟨q9fl_X7_24, (List.forall_mem_cons.mpr ⟨q9fl_X7_28, (List.forall_mem_cons.mpr ⟨q9fl_X7_31, (List.forall_mem_cons.mpr ⟨q9fl_X7_34, (List.forall_mem_cons.mpr ⟨q9fl_X7_38, (List.forall_mem_cons.mpr ⟨q9fl_X7_41, (List.forall_mem_cons.mpr ⟨q9fl_X7_44, (List.forall_mem_cons.mpr ⟨q9fl_X7_47, (List.forall_mem_cons.mpr ⟨q9fl_X7_50, (List.forall_mem_cons.mpr ⟨q9fl_X7_53, (List.forall_mem_cons.mpr ⟨q9fl_X7_63, (List.forall_mem_cons.mpr ⟨q9fl_X7_98, (fun _ h => absurd h List.not_mem_nil)⟩)⟩)⟩)⟩)⟩)⟩)⟩)⟩)⟩)⟩)⟩)⟩)⟩)⟩)
noncomputable def q9ps_X7 : List (Nat × Nat × Nat) := [(63, 7, 3), (98, 7, 4)]
set_option maxRecDepth 100000 in
theorem q9ps_X7_ok : ∀ q ∈ q9ps_X7, q9FLs q9ALLW q9TBL RX7 q ∧ q9FLput q := (List.forall_mem_cons.mpr ⟨⟨q9fl_X7_63, _, rfl, rfl⟩, (List.forall_mem_cons.mpr ⟨⟨q9fl_X7_98, _, rfl, rfl⟩, (fun _ h => absurd h List.not_mem_nil)⟩)⟩)
set_option maxRecDepth 100000 in
theorem q9fl_X8_11 : q9FLs q9ALLW q9TBL RX8 (11, 8, 0) := ⟨RX8, TX8, 7, q9ft_8, (2, 152, 0), tyX8, rfl, Nat.le_of_ble_eq_true rfl, q9uw_8, (q9inT1 50 rfl rfl), rfl, rfl, tyX8_ok, nmX8, q9fitA _ rfl⟩
set_option maxRecDepth 100000 in
theorem q9fl_X8_19 : q9FLs q9ALLW q9TBL RX8 (19, 8, 2) := ⟨RX8, TX8, 7, q9ft_8, (2, 153, 0), tyX8, rfl, Nat.le_of_ble_eq_true rfl, q9uw_8, (q9inT1 54 rfl rfl), rfl, rfl, tyX8_ok, nmX8, q9fitA _ rfl⟩
set_option maxRecDepth 100000 in
theorem q9fl_X8_23 : q9FLs q9ALLW q9TBL RX8 (23, 8, 4) := ⟨RX8, TX8, 7, q9ft_8, (2, 154, 0), tyX8, rfl, Nat.le_of_ble_eq_true rfl, q9uw_8, (q9inT1 57 rfl rfl), rfl, rfl, tyX8_ok, nmX8, q9fitA _ rfl⟩
set_option maxRecDepth 100000 in
theorem q9fl_X8_27 : q9FLs q9ALLW q9TBL RX8 (27, 8, 5) := ⟨RX8, TX8, 7, q9ft_8, (2, 155, 0), tyX8, rfl, Nat.le_of_ble_eq_true rfl, q9uw_8, (q9inT1 59 rfl rfl), rfl, rfl, tyX8_ok, nmX8, q9fitA _ rfl⟩
set_option maxRecDepth 100000 in
theorem q9fl_X8_30 : q9FLs q9ALLW q9TBL RX8 (30, 8, 6) := ⟨RX8, TX8, 7, q9ft_8, (2, 156, 0), tyX8, rfl, Nat.le_of_ble_eq_true rfl, q9uw_8, (q9inT1 61 rfl rfl), rfl, rfl, tyX8_ok, nmX8, q9fitA _ rfl⟩
set_option maxRecDepth 100000 in
theorem q9fl_X8_39 : q9FLs q9ALLW q9TBL RX8 (39, 8, 1) := ⟨RX8, TX8, 7, q9ft_8, (0, 0, 8), tyX8, rfl, Nat.le_of_ble_eq_true rfl, q9uw_8, (q9inT1 52 rfl rfl), rfl, rfl, tyX8_ok, nmX8, q9fitI rfl⟩
set_option maxRecDepth 100000 in
theorem q9fl_X8_47 : q9FLs q9ALLW q9TBL RX8 (47, 5, 0) := ⟨RX5, TX5, 11, q9ft_5, (0, 0, 12), tyX5, rfl, Nat.le_of_ble_eq_true rfl, q9uw_5, (q9inT3 3 rfl rfl), rfl, rfl, tyX5_ok, nmX5, q9fitI rfl⟩
set_option maxRecDepth 100000 in
theorem q9fl_X8_50 : q9FLs q9ALLW q9TBL RX8 (50, 8, 3) := ⟨RX8, TX8, 7, q9ft_8, (0, 0, 12), tyX8, rfl, Nat.le_of_ble_eq_true rfl, q9uw_8, (q9inT1 55 rfl rfl), rfl, rfl, tyX8_ok, nmX8, q9fitI rfl⟩
set_option maxRecDepth 100000 in
theorem q9fl_X8_57 : q9FLs q9ALLW q9TBL RX8 (57, 7, 3) := ⟨RX7, TX7, 15, q9ft_7, (0, (-2147483648), 2147483647), tyX7, rfl, Nat.le_of_ble_eq_true rfl, q9uw_7, (q9inT5 148 rfl rfl), rfl, rfl, tyX7_ok, nmX7, q9fitI rfl⟩
set_option maxRecDepth 100000 in
theorem q9fl_X8_75 : q9FLs q9ALLW q9TBL RX8 (75, 7, 0) := ⟨RX7, TX7, 15, q9ft_7, (0, 0, 400), tyX7, rfl, Nat.le_of_ble_eq_true rfl, q9uw_7, (q9inT5 139 rfl rfl), rfl, rfl, tyX7_ok, nmX7, q9fitI rfl⟩
set_option maxRecDepth 100000 in
theorem q9fl_X8_98 : q9FLs q9ALLW q9TBL RX8 (98, 7, 11) := ⟨RX7, TX7, 15, q9ft_7, (2, 148, 0), tyX7, rfl, Nat.le_of_ble_eq_true rfl, q9uw_7, (q9inT5 168 rfl rfl), rfl, rfl, tyX7_ok, nmX7, q9fitA _ rfl⟩
set_option maxRecDepth 100000 in
theorem q9fl_X8_101 : q9FLs q9ALLW q9TBL RX8 (101, 7, 12) := ⟨RX7, TX7, 15, q9ft_7, (2, 149, 0), tyX7, rfl, Nat.le_of_ble_eq_true rfl, q9uw_7, (q9inT5 171 rfl rfl), rfl, rfl, tyX7_ok, nmX7, q9fitA _ rfl⟩
set_option maxRecDepth 100000 in
theorem q9fl_X8_107 : q9FLs q9ALLW q9TBL RX8 (107, 7, 1) := ⟨RX7, TX7, 15, q9ft_7, (0, 0, 100), tyX7, rfl, Nat.le_of_ble_eq_true rfl, q9uw_7, (q9inT5 143 rfl rfl), rfl, rfl, tyX7_ok, nmX7, q9fitI rfl⟩
set_option maxRecDepth 100000 in
theorem q9fl_X8_116 : q9FLs q9ALLW q9TBL RX8 (116, 7, 2) := ⟨RX7, TX7, 15, q9ft_7, (0, 0, 63), tyX7, rfl, Nat.le_of_ble_eq_true rfl, q9uw_7, (q9inT5 145 rfl rfl), rfl, rfl, tyX7_ok, nmX7, q9fitI rfl⟩
set_option maxRecDepth 100000 in
theorem q9fl_X8_128 : q9FLs q9ALLW q9TBL RX8 (128, 7, 5) := ⟨RX7, TX7, 15, q9ft_7, (0, (-2147483648), 2147483647), tyX7, rfl, Nat.le_of_ble_eq_true rfl, q9uw_7, (q9inT5 158 rfl rfl), rfl, rfl, tyX7_ok, nmX7, q9fitI rfl⟩
set_option maxRecDepth 100000 in
theorem q9fl_X8_134 : q9FLs q9ALLW q9TBL RX8 (134, 7, 4) := ⟨RX7, TX7, 15, q9ft_7, (0, (-2147483648), 2147483647), tyX7, rfl, Nat.le_of_ble_eq_true rfl, q9uw_7, (q9inT5 152 rfl rfl), rfl, rfl, tyX7_ok, nmX7, q9fitI rfl⟩
set_option maxRecDepth 100000 in
theorem q9fl_X8_137 : q9FLs q9ALLW q9TBL RX8 (137, 5, 10) := ⟨RX5, TX5, 11, q9ft_5, (0, (-2147483648), 2147483647), tyX5, rfl, Nat.le_of_ble_eq_true rfl, q9uw_5, (q9inT3 16 rfl rfl), rfl, rfl, tyX5_ok, nmX5, q9fitI rfl⟩
noncomputable def q9fs_X8 : List (Nat × Nat × Nat) := [(11, 8, 0), (19, 8, 2), (23, 8, 4), (27, 8, 5), (30, 8, 6), (39, 8, 1), (47, 5, 0), (50, 8, 3), (57, 7, 3), (75, 7, 0), (98, 7, 11), (101, 7, 12), (107, 7, 1), (116, 7, 2), (128, 7, 5), (134, 7, 4), (137, 5, 10)]
set_option maxRecDepth 100000 in
theorem q9fs_X8_ok : ∀ q ∈ q9fs_X8, q9FLs q9ALLW q9TBL RX8 q := (List.forall_mem_cons.mpr ⟨q9fl_X8_11, (List.forall_mem_cons.mpr ⟨q9fl_X8_19, (List.forall_mem_cons.mpr ⟨q9fl_X8_23, (List.forall_mem_cons.mpr ⟨q9fl_X8_27, (List.forall_mem_cons.mpr ⟨q9fl_X8_30, (List.forall_mem_cons.mpr ⟨q9fl_X8_39, (List.forall_mem_cons.mpr ⟨q9fl_X8_47, (List.forall_mem_cons.mpr ⟨q9fl_X8_50, (List.forall_mem_cons.mpr ⟨q9fl_X8_57, (List.forall_mem_cons.mpr ⟨q9fl_X8_75, (List.forall_mem_cons.mpr ⟨q9fl_X8_98, (List.forall_mem_cons.mpr ⟨q9fl_X8_101, (List.forall_mem_cons.mpr ⟨q9fl_X8_107, (List.forall_mem_cons.mpr ⟨q9fl_X8_116, (List.forall_mem_cons.mpr ⟨q9fl_X8_128, (List.forall_mem_cons.mpr ⟨q9fl_X8_134, (List.forall_mem_cons.mpr ⟨q9fl_X8_137, (fun _ h => absurd h List.not_mem_nil)⟩)⟩)⟩)⟩)⟩)⟩)⟩)⟩)⟩)⟩)⟩)⟩)⟩)⟩)⟩)⟩)⟩)
noncomputable def q9ps_X8 : List (Nat × Nat × Nat) := [(39, 8, 1), (47, 5, 0), (50, 8, 3), (57, 7, 3), (128, 7, 5), (134, 7, 4), (137, 5, 10)]
set_option maxRecDepth 100000 in
theorem q9ps_X8_ok : ∀ q ∈ q9ps_X8, q9FLs q9ALLW q9TBL RX8 q ∧ q9FLput q := (List.forall_mem_cons.mpr ⟨⟨q9fl_X8_39, _, rfl, rfl⟩, (List.forall_mem_cons.mpr ⟨⟨q9fl_X8_47, _, rfl, rfl⟩, (List.forall_mem_cons.mpr ⟨⟨q9fl_X8_50, _, rfl, rfl⟩, (List.forall_mem_cons.mpr ⟨⟨q9fl_X8_57, _, rfl, rfl⟩, (List.forall_mem_cons.mpr ⟨⟨q9fl_X8_128, _, rfl, rfl⟩, (List.forall_mem_cons.mpr ⟨⟨q9fl_X8_134, _, rfl, rfl⟩, (List.forall_mem_cons.mpr ⟨⟨q9fl_X8_137, _, rfl, rfl⟩, (fun _ h => absurd h List.not_mem_nil)⟩)⟩)⟩)⟩)⟩)⟩)⟩)
set_option maxRecDepth 100000 in
theorem q9fl_X9_11 : q9FLs q9ALLW q9TBL RX9 (11, 9, 5) := ⟨RX9, TX9, 13, q9ft_9, (2, 157, 0), tyX9, rfl, Nat.le_of_ble_eq_true rfl, q9uw_9, (q9inT1 225 rfl rfl), rfl, rfl, tyX9_ok, nmX9, q9fitA _ rfl⟩
set_option maxRecDepth 100000 in
theorem q9fl_X9_17 : q9FLs q9ALLW q9TBL RX9 (17, 9, 6) := ⟨RX9, TX9, 13, q9ft_9, (2, 158, 0), tyX9, rfl, Nat.le_of_ble_eq_true rfl, q9uw_9, (q9inT1 226 rfl rfl), rfl, rfl, tyX9_ok, nmX9, q9fitA _ rfl⟩
set_option maxRecDepth 100000 in
theorem q9fl_X9_20 : q9FLs q9ALLW q9TBL RX9 (20, 9, 7) := ⟨RX9, TX9, 13, q9ft_9, (2, 159, 0), tyX9, rfl, Nat.le_of_ble_eq_true rfl, q9uw_9, (q9inT1 227 rfl rfl), rfl, rfl, tyX9_ok, nmX9, q9fitA _ rfl⟩
set_option maxRecDepth 100000 in
theorem q9fl_X9_23 : q9FLs q9ALLW q9TBL RX9 (23, 9, 8) := ⟨RX9, TX9, 13, q9ft_9, (2, 160, 0), tyX9, rfl, Nat.le_of_ble_eq_true rfl, q9uw_9, (q9inT1 228 rfl rfl), rfl, rfl, tyX9_ok, nmX9, q9fitA _ rfl⟩
set_option maxRecDepth 100000 in
theorem q9fl_X9_26 : q9FLs q9ALLW q9TBL RX9 (26, 9, 9) := ⟨RX9, TX9, 13, q9ft_9, (2, 161, 0), tyX9, rfl, Nat.le_of_ble_eq_true rfl, q9uw_9, (q9inT1 229 rfl rfl), rfl, rfl, tyX9_ok, nmX9, q9fitA _ rfl⟩
set_option maxRecDepth 100000 in
theorem q9fl_X9_29 : q9FLs q9ALLW q9TBL RX9 (29, 9, 10) := ⟨RX9, TX9, 13, q9ft_9, (2, 162, 0), tyX9, rfl, Nat.le_of_ble_eq_true rfl, q9uw_9, (q9inT1 230 rfl rfl), rfl, rfl, tyX9_ok, nmX9, q9fitA _ rfl⟩
set_option maxRecDepth 100000 in
theorem q9fl_X9_32 : q9FLs q9ALLW q9TBL RX9 (32, 9, 11) := ⟨RX9, TX9, 13, q9ft_9, (2, 163, 0), tyX9, rfl, Nat.le_of_ble_eq_true rfl, q9uw_9, (q9inT1 231 rfl rfl), rfl, rfl, tyX9_ok, nmX9, q9fitA _ rfl⟩
set_option maxRecDepth 100000 in
theorem q9fl_X9_35 : q9FLs q9ALLW q9TBL RX9 (35, 9, 12) := ⟨RX9, TX9, 13, q9ft_9, (2, 164, 0), tyX9, rfl, Nat.le_of_ble_eq_true rfl, q9uw_9, (q9inT1 232 rfl rfl), rfl, rfl, tyX9_ok, nmX9, q9fitA _ rfl⟩
set_option maxRecDepth 100000 in
theorem q9fl_X9_38 : q9FLs q9ALLW q9TBL RX9 (38, 9, 0) := ⟨RX9, TX9, 13, q9ft_9, (2, 6, 0), tyX9, rfl, Nat.le_of_ble_eq_true rfl, q9uw_9, (q9inT1 220 rfl rfl), rfl, rfl, tyX9_ok, nmX9, q9fitO _ (.inl rfl)⟩
set_option maxRecDepth 100000 in
theorem q9fl_X9_46 : q9FLs q9ALLW q9TBL RX9 (46, 9, 1) := ⟨RX9, TX9, 13, q9ft_9, (3, 7, 0), tyX9, rfl, Nat.le_of_ble_eq_true rfl, q9uw_9, (q9inT1 221 rfl rfl), rfl, rfl, tyX9_ok, nmX9, q9fitO _ (.inr rfl)⟩
set_option maxRecDepth 100000 in
theorem q9fl_X9_50 : q9FLs q9ALLW q9TBL RX9 (50, 9, 2) := ⟨RX9, TX9, 13, q9ft_9, (0, 0, 400), tyX9, rfl, Nat.le_of_ble_eq_true rfl, q9uw_9, (q9inT1 222 rfl rfl), rfl, rfl, tyX9_ok, nmX9, q9fitI rfl⟩
set_option maxRecDepth 100000 in
theorem q9fl_X9_54 : q9FLs q9ALLW q9TBL RX9 (54, 9, 3) := ⟨RX9, TX9, 13, q9ft_9, (0, (-2147483648), 2147483647), tyX9, rfl, Nat.le_of_ble_eq_true rfl, q9uw_9, (q9inT1 223 rfl rfl), rfl, rfl, tyX9_ok, nmX9, q9fitI rfl⟩
set_option maxRecDepth 100000 in
theorem q9fl_X9_57 : q9FLs q9ALLW q9TBL RX9 (57, 9, 4) := ⟨RX9, TX9, 13, q9ft_9, (0, (-2147483648), 2147483647), tyX9, rfl, Nat.le_of_ble_eq_true rfl, q9uw_9, (q9inT1 224 rfl rfl), rfl, rfl, tyX9_ok, nmX9, q9fitI rfl⟩
set_option maxRecDepth 100000 in
theorem q9fl_X9_66 : q9FLs q9ALLW q9TBL RX9 (66, 6, 3) := ⟨RX6, TX6, 14, q9ft_6, (0, 0, 60), tyX6, rfl, Nat.le_of_ble_eq_true rfl, q9uw_6, (q9inT1 168 rfl rfl), rfl, rfl, tyX6_ok, nmX6, q9fitI rfl⟩
set_option maxRecDepth 100000 in
theorem q9fl_X9_73 : q9FLs q9ALLW q9TBL RX9 (73, 6, 7) := ⟨RX6, TX6, 14, q9ft_6, (0, 0, 100), tyX6, rfl, Nat.le_of_ble_eq_true rfl, q9uw_6, (q9inT1 176 rfl rfl), rfl, rfl, tyX6_ok, nmX6, q9fitI rfl⟩
set_option maxRecDepth 100000 in
theorem q9fl_X9_86 : q9FLs q9ALLW q9TBL RX9 (86, 6, 9) := ⟨RX6, TX6, 14, q9ft_6, (0, (-2147483648), 2147483647), tyX6, rfl, Nat.le_of_ble_eq_true rfl, q9uw_6, (q9inT1 180 rfl rfl), rfl, rfl, tyX6_ok, nmX6, q9fitI rfl⟩
set_option maxRecDepth 100000 in
theorem q9fl_X9_97 : q9FLs q9ALLW q9TBL RX9 (97, 6, 8) := ⟨RX6, TX6, 14, q9ft_6, (0, (-2147483648), 2147483647), tyX6, rfl, Nat.le_of_ble_eq_true rfl, q9uw_6, (q9inT1 178 rfl rfl), rfl, rfl, tyX6_ok, nmX6, q9fitI rfl⟩
set_option maxRecDepth 100000 in
theorem q9fl_X9_100 : q9FLs q9ALLW q9TBL RX9 (100, 7, 3) := ⟨RX7, TX7, 15, q9ft_7, (0, (-2147483648), 2147483647), tyX7, rfl, Nat.le_of_ble_eq_true rfl, q9uw_7, (q9inT5 147 rfl rfl), rfl, rfl, tyX7_ok, nmX7, q9fitI rfl⟩
set_option maxRecDepth 100000 in
theorem q9fl_X9_101 : q9FLs q9ALLW q9TBL RX9 (101, 7, 4) := ⟨RX7, TX7, 15, q9ft_7, (0, (-2147483648), 2147483647), tyX7, rfl, Nat.le_of_ble_eq_true rfl, q9uw_7, (q9inT5 150 rfl rfl), rfl, rfl, tyX7_ok, nmX7, q9fitI rfl⟩
set_option maxRecDepth 100000 in
theorem q9fl_X9_102 : q9FLs q9ALLW q9TBL RX9 (102, 7, 6) := ⟨RX7, TX7, 15, q9ft_7, (2, 143, 0), tyX7, rfl, Nat.le_of_ble_eq_true rfl, q9uw_7, (q9inT5 160 rfl rfl), rfl, rfl, tyX7_ok, nmX7, q9fitA _ rfl⟩
set_option maxRecDepth 100000 in
theorem q9fl_X9_105 : q9FLs q9ALLW q9TBL RX9 (105, 6, 4) := ⟨RX6, TX6, 14, q9ft_6, (2, 137, 0), tyX6, rfl, Nat.le_of_ble_eq_true rfl, q9uw_6, (q9inT1 170 rfl rfl), rfl, rfl, tyX6_ok, nmX6, q9fitA _ rfl⟩
set_option maxRecDepth 100000 in
theorem q9fl_X9_108 : q9FLs q9ALLW q9TBL RX9 (108, 6, 5) := ⟨RX6, TX6, 14, q9ft_6, (2, 138, 0), tyX6, rfl, Nat.le_of_ble_eq_true rfl, q9uw_6, (q9inT1 172 rfl rfl), rfl, rfl, tyX6_ok, nmX6, q9fitA _ rfl⟩
set_option maxRecDepth 100000 in
theorem q9fl_X9_119 : q9FLs q9ALLW q9TBL RX9 (119, 7, 7) := ⟨RX7, TX7, 15, q9ft_7, (2, 144, 0), tyX7, rfl, Nat.le_of_ble_eq_true rfl, q9uw_7, (q9inT5 162 rfl rfl), rfl, rfl, tyX7_ok, nmX7, q9fitA _ rfl⟩
set_option maxRecDepth 100000 in
theorem q9fl_X9_122 : q9FLs q9ALLW q9TBL RX9 (122, 6, 2) := ⟨RX6, TX6, 14, q9ft_6, (2, 136, 0), tyX6, rfl, Nat.le_of_ble_eq_true rfl, q9uw_6, (q9inT1 166 rfl rfl), rfl, rfl, tyX6_ok, nmX6, q9fitA _ rfl⟩
set_option maxRecDepth 100000 in
theorem q9fl_X9_126 : q9FLs q9ALLW q9TBL RX9 (126, 2, 0) := ⟨RX2, TX2, 8, q9ft_2, (0, (-2147483648), 2147483647), tyX2, rfl, Nat.le_of_ble_eq_true rfl, q9uw_2, (q9inT1 128 rfl rfl), rfl, rfl, tyX2_ok, nmX2, q9fitI rfl⟩
set_option maxRecDepth 100000 in
theorem q9fl_X9_139 : q9FLs q9ALLW q9TBL RX9 (139, 2, 7) := ⟨RX2, TX2, 8, q9ft_2, (0, (-2147483648), 2147483647), tyX2, rfl, Nat.le_of_ble_eq_true rfl, q9uw_2, (q9inT1 142 rfl rfl), rfl, rfl, tyX2_ok, nmX2, q9fitI rfl⟩
set_option maxRecDepth 100000 in
theorem q9fl_X9_148 : q9FLs q9ALLW q9TBL RX9 (148, 2, 2) := ⟨RX2, TX2, 8, q9ft_2, (0, (-1), 400), tyX2, rfl, Nat.le_of_ble_eq_true rfl, q9uw_2, (q9inT1 131 rfl rfl), rfl, rfl, tyX2_ok, nmX2, q9fitI rfl⟩
set_option maxRecDepth 100000 in
theorem q9fl_X9_160 : q9FLs q9ALLW q9TBL RX9 (160, 2, 1) := ⟨RX2, TX2, 8, q9ft_2, (0, (-2147483648), 2147483647), tyX2, rfl, Nat.le_of_ble_eq_true rfl, q9uw_2, (q9inT1 130 rfl rfl), rfl, rfl, tyX2_ok, nmX2, q9fitI rfl⟩
set_option maxRecDepth 100000 in
theorem q9fl_X9_176 : q9FLs q9ALLW q9TBL RX9 (176, 2, 5) := ⟨RX2, TX2, 8, q9ft_2, (0, 0, 400), tyX2, rfl, Nat.le_of_ble_eq_true rfl, q9uw_2, (q9inT1 138 rfl rfl), rfl, rfl, tyX2_ok, nmX2, q9fitI rfl⟩
set_option maxRecDepth 100000 in
theorem q9fl_X9_179 : q9FLs q9ALLW q9TBL RX9 (179, 2, 6) := ⟨RX2, TX2, 8, q9ft_2, (0, (-2147483648), 2147483647), tyX2, rfl, Nat.le_of_ble_eq_true rfl, q9uw_2, (q9inT1 140 rfl rfl), rfl, rfl, tyX2_ok, nmX2, q9fitI rfl⟩
set_option maxRecDepth 100000 in
theorem q9fl_X9_185 : q9FLs q9ALLW q9TBL RX9 (185, 6, 6) := ⟨RX6, TX6, 14, q9ft_6, (2, 139, 0), tyX6, rfl, Nat.le_of_ble_eq_true rfl, q9uw_6, (q9inT1 174 rfl rfl), rfl, rfl, tyX6_ok, nmX6, q9fitA _ rfl⟩
set_option maxRecDepth 100000 in
theorem q9fl_X9_188 : q9FLs q9ALLW q9TBL RX9 (188, 2, 4) := ⟨RX2, TX2, 8, q9ft_2, (0, (-2147483648), 2147483647), tyX2, rfl, Nat.le_of_ble_eq_true rfl, q9uw_2, (q9inT1 136 rfl rfl), rfl, rfl, tyX2_ok, nmX2, q9fitI rfl⟩
set_option maxRecDepth 100000 in
theorem q9fl_X9_195 : q9FLs q9ALLW q9TBL RX9 (195, 6, 1) := ⟨RX6, TX6, 14, q9ft_6, (2, 10, 0), tyX6, rfl, Nat.le_of_ble_eq_true rfl, q9uw_6, (q9inT1 164 rfl rfl), rfl, rfl, tyX6_ok, nmX6, q9fitO _ (.inl rfl)⟩
set_option maxRecDepth 100000 in
theorem q9fl_X9_211 : q9FLs q9ALLW q9TBL RX9 (211, 2, 3) := ⟨RX2, TX2, 8, q9ft_2, (0, (-2147483648), 2147483647), tyX2, rfl, Nat.le_of_ble_eq_true rfl, q9uw_2, (q9inT1 133 rfl rfl), rfl, rfl, tyX2_ok, nmX2, q9fitI rfl⟩
set_option maxRecDepth 100000 in
theorem q9fl_X9_217 : q9FLs q9ALLW q9TBL RX9 (217, 7, 1) := ⟨RX7, TX7, 15, q9ft_7, (0, 0, 100), tyX7, rfl, Nat.le_of_ble_eq_true rfl, q9uw_7, (q9inT5 142 rfl rfl), rfl, rfl, tyX7_ok, nmX7, q9fitI rfl⟩
set_option maxRecDepth 100000 in
theorem q9fl_X9_226 : q9FLs q9ALLW q9TBL RX9 (226, 7, 11) := ⟨RX7, TX7, 15, q9ft_7, (2, 148, 0), tyX7, rfl, Nat.le_of_ble_eq_true rfl, q9uw_7, (q9inT5 167 rfl rfl), rfl, rfl, tyX7_ok, nmX7, q9fitA _ rfl⟩
set_option maxRecDepth 100000 in
theorem q9fl_X9_228 : q9FLs q9ALLW q9TBL RX9 (228, 7, 12) := ⟨RX7, TX7, 15, q9ft_7, (2, 149, 0), tyX7, rfl, Nat.le_of_ble_eq_true rfl, q9uw_7, (q9inT5 170 rfl rfl), rfl, rfl, tyX7_ok, nmX7, q9fitA _ rfl⟩
noncomputable def q9fs_X9 : List (Nat × Nat × Nat) := [(11, 9, 5), (17, 9, 6), (20, 9, 7), (23, 9, 8), (26, 9, 9), (29, 9, 10), (32, 9, 11), (35, 9, 12), (38, 9, 0), (46, 9, 1), (50, 9, 2), (54, 9, 3), (57, 9, 4), (66, 6, 3), (73, 6, 7), (86, 6, 9), (97, 6, 8), (100, 7, 3), (101, 7, 4), (102, 7, 6), (105, 6, 4), (108, 6, 5), (119, 7, 7), (122, 6, 2), (126, 2, 0), (139, 2, 7), (148, 2, 2), (160, 2, 1), (176, 2, 5), (179, 2, 6), (185, 6, 6), (188, 2, 4), (195, 6, 1), (211, 2, 3), (217, 7, 1), (226, 7, 11), (228, 7, 12)]
set_option maxRecDepth 100000 in
theorem q9fs_X9_ok : ∀ q ∈ q9fs_X9, q9FLs q9ALLW q9TBL RX9 q := (List.forall_mem_cons.mpr ⟨q9fl_X9_11, (List.forall_mem_cons.mpr ⟨q9fl_X9_17, (List.forall_mem_cons.mpr ⟨q9fl_X9_20, (List.forall_mem_cons.mpr ⟨q9fl_X9_23, (List.forall_mem_cons.mpr ⟨q9fl_X9_26, (List.forall_mem_cons.mpr ⟨q9fl_X9_29, (List.forall_mem_cons.mpr ⟨q9fl_X9_32, (List.forall_mem_cons.mpr ⟨q9fl_X9_35, (List.forall_mem_cons.mpr ⟨q9fl_X9_38, (List.forall_mem_cons.mpr ⟨q9fl_X9_46, (List.forall_mem_cons.mpr ⟨q9fl_X9_50, (List.forall_mem_cons.mpr ⟨q9fl_X9_54, (List.forall_mem_cons.mpr ⟨q9fl_X9_57, (List.forall_mem_cons.mpr ⟨q9fl_X9_66, (List.forall_mem_cons.mpr ⟨q9fl_X9_73, (List.forall_mem_cons.mpr ⟨q9fl_X9_86, (List.forall_mem_cons.mpr ⟨q9fl_X9_97, (List.forall_mem_cons.mpr ⟨q9fl_X9_100, (List.forall_mem_cons.mpr ⟨q9fl_X9_101, (List.forall_mem_cons.mpr ⟨q9fl_X9_102, (List.forall_mem_cons.mpr ⟨q9fl_X9_105, (List.forall_mem_cons.mpr ⟨q9fl_X9_108, (List.forall_mem_cons.mpr ⟨q9fl_X9_119, (List.forall_mem_cons.mpr ⟨q9fl_X9_122, (List.forall_mem_cons.mpr ⟨q9fl_X9_126, (List.forall_mem_cons.mpr ⟨q9fl_X9_139, (List.forall_mem_cons.mpr ⟨q9fl_X9_148, (List.forall_mem_cons.mpr ⟨q9fl_X9_160, (List.forall_mem_cons.mpr ⟨q9fl_X9_176, (List.forall_mem_cons.mpr ⟨q9fl_X9_179, (List.forall_mem_cons.mpr ⟨q9fl_X9_185, (List.forall_mem_cons.mpr ⟨q9fl_X9_188, (List.forall_mem_cons.mpr ⟨q9fl_X9_195, (List.forall_mem_cons.mpr ⟨q9fl_X9_211, (List.forall_mem_cons.mpr ⟨q9fl_X9_217, (List.forall_mem_cons.mpr ⟨q9fl_X9_226, (List.forall_mem_cons.mpr ⟨q9fl_X9_228, (fun _ h => absurd h List.not_mem_nil)⟩)⟩)⟩)⟩)⟩)⟩)⟩)⟩)⟩)⟩)⟩)⟩)⟩)⟩)⟩)⟩)⟩)⟩)⟩)⟩)⟩)⟩)⟩)⟩)⟩)⟩)⟩)⟩)⟩)⟩)⟩)⟩)⟩)⟩)⟩)⟩)⟩)
noncomputable def q9ps_X9 : List (Nat × Nat × Nat) := [(46, 9, 1), (50, 9, 2), (54, 9, 3), (57, 9, 4), (66, 6, 3), (73, 6, 7), (86, 6, 9), (97, 6, 8), (100, 7, 3), (101, 7, 4), (126, 2, 0), (139, 2, 7), (148, 2, 2), (160, 2, 1), (176, 2, 5), (179, 2, 6), (188, 2, 4), (211, 2, 3)]
set_option maxRecDepth 100000 in
theorem q9ps_X9_ok : ∀ q ∈ q9ps_X9, q9FLs q9ALLW q9TBL RX9 q ∧ q9FLput q := (List.forall_mem_cons.mpr ⟨⟨q9fl_X9_46, _, rfl, rfl⟩, (List.forall_mem_cons.mpr ⟨⟨q9fl_X9_50, _, rfl, rfl⟩, (List.forall_mem_cons.mpr ⟨⟨q9fl_X9_54, _, rfl, rfl⟩, (List.forall_mem_cons.mpr ⟨⟨q9fl_X9_57, _, rfl, rfl⟩, (List.forall_mem_cons.mpr ⟨⟨q9fl_X9_66, _, rfl, rfl⟩, (List.forall_mem_cons.mpr ⟨⟨q9fl_X9_73, _, rfl, rfl⟩, (List.forall_mem_cons.mpr ⟨⟨q9fl_X9_86, _, rfl, rfl⟩, (List.forall_mem_cons.mpr ⟨⟨q9fl_X9_97, _, rfl, rfl⟩, (List.forall_mem_cons.mpr ⟨⟨q9fl_X9_100, _, rfl, rfl⟩, (List.forall_mem_cons.mpr ⟨⟨q9fl_X9_101, _, rfl, rfl⟩, (List.forall_mem_cons.mpr ⟨⟨q9fl_X9_126, _, rfl, rfl⟩, (List.forall_mem_cons.mpr ⟨⟨q9fl_X9_139, _, rfl, rfl⟩, (List.forall_mem_cons.mpr ⟨⟨q9fl_X9_148, _, rfl, rfl⟩, (List.forall_mem_cons.mpr ⟨⟨q9fl_X9_160, _, rfl, rfl⟩, (List.forall_mem_cons.mpr ⟨⟨q9fl_X9_176, _, rfl, rfl⟩, (List.forall_mem_cons.mpr ⟨⟨q9fl_X9_179, _, rfl, rfl⟩, (List.forall_mem_cons.mpr ⟨⟨q9fl_X9_188, _, rfl, rfl⟩, (List.forall_mem_cons.mpr ⟨⟨q9fl_X9_211, _, rfl, rfl⟩, (fun _ h => absurd h List.not_mem_nil)⟩)⟩)⟩)⟩)⟩)⟩)⟩)⟩)⟩)⟩)⟩)⟩)⟩)⟩)⟩)⟩)⟩)⟩)
set_option maxRecDepth 100000 in
theorem q9fl_X10_9 : q9FLs q9ALLW q9TBL RX10 (9, 10, 0) := ⟨RX10, TX10, 7, q9ft_10, (2, 165, 0), tyX10, rfl, Nat.le_of_ble_eq_true rfl, q9uw_10, (q9inT1 91 rfl rfl), rfl, rfl, tyX10_ok, nmX10, q9fitA _ rfl⟩
set_option maxRecDepth 100000 in
theorem q9fl_X10_24 : q9FLs q9ALLW q9TBL RX10 (24, 10, 1) := ⟨RX10, TX10, 7, q9ft_10, (0, 0, 400), tyX10, rfl, Nat.le_of_ble_eq_true rfl, q9uw_10, (q9inT1 92 rfl rfl), rfl, rfl, tyX10_ok, nmX10, q9fitI rfl⟩
set_option maxRecDepth 100000 in
theorem q9fl_X10_34 : q9FLs q9ALLW q9TBL RX10 (34, 10, 2) := ⟨RX10, TX10, 7, q9ft_10, (0, 0, 400), tyX10, rfl, Nat.le_of_ble_eq_true rfl, q9uw_10, (q9inT1 94 rfl rfl), rfl, rfl, tyX10_ok, nmX10, q9fitI rfl⟩
set_option maxRecDepth 100000 in
theorem q9fl_X10_37 : q9FLs q9ALLW q9TBL RX10 (37, 10, 3) := ⟨RX10, TX10, 7, q9ft_10, (0, 0, 9), tyX10, rfl, Nat.le_of_ble_eq_true rfl, q9uw_10, (q9inT1 95 rfl rfl), rfl, rfl, tyX10_ok, nmX10, q9fitI rfl⟩
set_option maxRecDepth 100000 in
theorem q9fl_X10_40 : q9FLs q9ALLW q9TBL RX10 (40, 10, 4) := ⟨RX10, TX10, 7, q9ft_10, (0, (-2147483648), 2147483647), tyX10, rfl, Nat.le_of_ble_eq_true rfl, q9uw_10, (q9inT1 98 rfl rfl), rfl, rfl, tyX10_ok, nmX10, q9fitI rfl⟩
set_option maxRecDepth 100000 in
theorem q9fl_X10_51 : q9FLs q9ALLW q9TBL RX10 (51, 10, 5) := ⟨RX10, TX10, 7, q9ft_10, (0, 0, 400), tyX10, rfl, Nat.le_of_ble_eq_true rfl, q9uw_10, (q9inT1 101 rfl rfl), rfl, rfl, tyX10_ok, nmX10, q9fitI rfl⟩
set_option maxRecDepth 100000 in
theorem q9fl_X10_62 : q9FLs q9ALLW q9TBL RX10 (62, 10, 6) := ⟨RX10, TX10, 7, q9ft_10, (0, (-400), 400), tyX10, rfl, Nat.le_of_ble_eq_true rfl, q9uw_10, (q9inT1 102 rfl rfl), rfl, rfl, tyX10_ok, nmX10, q9fitI rfl⟩
noncomputable def q9fs_X10 : List (Nat × Nat × Nat) := [(9, 10, 0), (24, 10, 1), (34, 10, 2), (37, 10, 3), (40, 10, 4), (51, 10, 5), (62, 10, 6)]
set_option maxRecDepth 100000 in
theorem q9fs_X10_ok : ∀ q ∈ q9fs_X10, q9FLs q9ALLW q9TBL RX10 q := (List.forall_mem_cons.mpr ⟨q9fl_X10_9, (List.forall_mem_cons.mpr ⟨q9fl_X10_24, (List.forall_mem_cons.mpr ⟨q9fl_X10_34, (List.forall_mem_cons.mpr ⟨q9fl_X10_37, (List.forall_mem_cons.mpr ⟨q9fl_X10_40, (List.forall_mem_cons.mpr ⟨q9fl_X10_51, (List.forall_mem_cons.mpr ⟨q9fl_X10_62, (fun _ h => absurd h List.not_mem_nil)⟩)⟩)⟩)⟩)⟩)⟩)⟩)
noncomputable def q9ps_X10 : List (Nat × Nat × Nat) := [(24, 10, 1), (34, 10, 2), (37, 10, 3), (40, 10, 4), (51, 10, 5), (62, 10, 6)]
set_option maxRecDepth 100000 in
theorem q9ps_X10_ok : ∀ q ∈ q9ps_X10, q9FLs q9ALLW q9TBL RX10 q ∧ q9FLput q := (List.forall_mem_cons.mpr ⟨⟨q9fl_X10_24, _, rfl, rfl⟩, (List.forall_mem_cons.mpr ⟨⟨q9fl_X10_34, _, rfl, rfl⟩, (List.forall_mem_cons.mpr ⟨⟨q9fl_X10_37, _, rfl, rfl⟩, (List.forall_mem_cons.mpr ⟨⟨q9fl_X10_40, _, rfl, rfl⟩, (List.forall_mem_cons.mpr ⟨⟨q9fl_X10_51, _, rfl, rfl⟩, (List.forall_mem_cons.mpr ⟨⟨q9fl_X10_62, _, rfl, rfl⟩, (fun _ h => absurd h List.not_mem_nil)⟩)⟩)⟩)⟩)⟩)⟩)
set_option maxRecDepth 100000 in
theorem q9fl_X11_10 : q9FLs q9ALLW q9TBL RX11 (10, 11, 0) := ⟨RX11, TX11, 11, q9ft_11, (2, 8, 0), tyX11, rfl, Nat.le_of_ble_eq_true rfl, q9uw_11, (q9inT2 197 rfl rfl), rfl, rfl, tyX11_ok, nmX11, q9fitO _ (.inl rfl)⟩
set_option maxRecDepth 100000 in
theorem q9fl_X11_21 : q9FLs q9ALLW q9TBL RX11 (21, 11, 1) := ⟨RX11, TX11, 11, q9ft_11, (2, 6, 0), tyX11, rfl, Nat.le_of_ble_eq_true rfl, q9uw_11, (q9inT2 198 rfl rfl), rfl, rfl, tyX11_ok, nmX11, q9fitO _ (.inl rfl)⟩
set_option maxRecDepth 100000 in
theorem q9fl_X11_30 : q9FLs q9ALLW q9TBL RX11 (30, 11, 2) := ⟨RX11, TX11, 11, q9ft_11, (2, 9, 0), tyX11, rfl, Nat.le_of_ble_eq_true rfl, q9uw_11, (q9inT2 199 rfl rfl), rfl, rfl, tyX11_ok, nmX11, q9fitO _ (.inl rfl)⟩
set_option maxRecDepth 100000 in
theorem q9fl_X11_37 : q9FLs q9ALLW q9TBL RX11 (37, 11, 3) := ⟨RX11, TX11, 11, q9ft_11, (2, 4, 0), tyX11, rfl, Nat.le_of_ble_eq_true rfl, q9uw_11, (q9inT2 200 rfl rfl), rfl, rfl, tyX11_ok, nmX11, q9fitO _ (.inl rfl)⟩
set_option maxRecDepth 100000 in
theorem q9fl_X11_44 : q9FLs q9ALLW q9TBL RX11 (44, 11, 4) := ⟨RX11, TX11, 11, q9ft_11, (2, 3, 0), tyX11, rfl, Nat.le_of_ble_eq_true rfl, q9uw_11, (q9inT2 201 rfl rfl), rfl, rfl, tyX11_ok, nmX11, q9fitO _ (.inl rfl)⟩
set_option maxRecDepth 100000 in
theorem q9fl_X11_51 : q9FLs q9ALLW q9TBL RX11 (51, 11, 5) := ⟨RX11, TX11, 11, q9ft_11, (2, 0, 0), tyX11, rfl, Nat.le_of_ble_eq_true rfl, q9uw_11, (q9inT2 202 rfl rfl), rfl, rfl, tyX11_ok, nmX11, q9fitO _ (.inl rfl)⟩
set_option maxRecDepth 100000 in
theorem q9fl_X11_60 : q9FLs q9ALLW q9TBL RX11 (60, 11, 6) := ⟨RX11, TX11, 11, q9ft_11, (2, 1, 0), tyX11, rfl, Nat.le_of_ble_eq_true rfl, q9uw_11, (q9inT2 203 rfl rfl), rfl, rfl, tyX11_ok, nmX11, q9fitO _ (.inl rfl)⟩
set_option maxRecDepth 100000 in
theorem q9fl_X11_64 : q9FLs q9ALLW q9TBL RX11 (64, 11, 7) := ⟨RX11, TX11, 11, q9ft_11, (2, 41, 0), tyX11, rfl, Nat.le_of_ble_eq_true rfl, q9uw_11, (q9inT2 204 rfl rfl), rfl, rfl, tyX11_ok, nmX11, q9fitO _ (.inl rfl)⟩
set_option maxRecDepth 100000 in
theorem q9fl_X11_67 : q9FLs q9ALLW q9TBL RX11 (67, 11, 8) := ⟨RX11, TX11, 11, q9ft_11, (2, 166, 0), tyX11, rfl, Nat.le_of_ble_eq_true rfl, q9uw_11, (q9inT2 205 rfl rfl), rfl, rfl, tyX11_ok, nmX11, q9fitA _ rfl⟩
set_option maxRecDepth 100000 in
theorem q9fl_X11_71 : q9FLs q9ALLW q9TBL RX11 (71, 11, 10) := ⟨RX11, TX11, 11, q9ft_11, (0, (-2147483648), 2147483647), tyX11, rfl, Nat.le_of_ble_eq_true rfl, q9uw_11, (q9inT2 207 rfl rfl), rfl, rfl, tyX11_ok, nmX11, q9fitI rfl⟩
set_option maxRecDepth 100000 in
theorem q9fl_X11_75 : q9FLs q9ALLW q9TBL RX11 (75, 8, 1) := ⟨RX8, TX8, 7, q9ft_8, (0, 0, 8), tyX8, rfl, Nat.le_of_ble_eq_true rfl, q9uw_8, (q9inT1 51 rfl rfl), rfl, rfl, tyX8_ok, nmX8, q9fitI rfl⟩
set_option maxRecDepth 100000 in
theorem q9fl_X11_101 : q9FLs q9ALLW q9TBL RX11 (101, 5, 0) := ⟨RX5, TX5, 11, q9ft_5, (0, 0, 12), tyX5, rfl, Nat.le_of_ble_eq_true rfl, q9uw_5, (q9inT3 2 rfl rfl), rfl, rfl, tyX5_ok, nmX5, q9fitI rfl⟩
set_option maxRecDepth 100000 in
theorem q9fl_X11_108 : q9FLs q9ALLW q9TBL RX11 (108, 5, 8) := ⟨RX5, TX5, 11, q9ft_5, (0, (-2147483648), 2147483647), tyX5, rfl, Nat.le_of_ble_eq_true rfl, q9uw_5, (q9inT3 11 rfl rfl), rfl, rfl, tyX5_ok, nmX5, q9fitI rfl⟩
set_option maxRecDepth 100000 in
theorem q9fl_X11_111 : q9FLs q9ALLW q9TBL RX11 (111, 5, 9) := ⟨RX5, TX5, 11, q9ft_5, (0, (-2147483648), 2147483647), tyX5, rfl, Nat.le_of_ble_eq_true rfl, q9uw_5, (q9inT3 13 rfl rfl), rfl, rfl, tyX5_ok, nmX5, q9fitI rfl⟩
set_option maxRecDepth 100000 in
theorem q9fl_X11_114 : q9FLs q9ALLW q9TBL RX11 (114, 5, 10) := ⟨RX5, TX5, 11, q9ft_5, (0, (-2147483648), 2147483647), tyX5, rfl, Nat.le_of_ble_eq_true rfl, q9uw_5, (q9inT3 15 rfl rfl), rfl, rfl, tyX5_ok, nmX5, q9fitI rfl⟩
set_option maxRecDepth 100000 in
theorem q9fl_X11_117 : q9FLs q9ALLW q9TBL RX11 (117, 8, 4) := ⟨RX8, TX8, 7, q9ft_8, (2, 154, 0), tyX8, rfl, Nat.le_of_ble_eq_true rfl, q9uw_8, (q9inT1 58 rfl rfl), rfl, rfl, tyX8_ok, nmX8, q9fitA _ rfl⟩
set_option maxRecDepth 100000 in
theorem q9fl_X11_125 : q9FLs q9ALLW q9TBL RX11 (125, 11, 9) := ⟨RX11, TX11, 11, q9ft_11, (0, 0, 400), tyX11, rfl, Nat.le_of_ble_eq_true rfl, q9uw_11, (q9inT2 206 rfl rfl), rfl, rfl, tyX11_ok, nmX11, q9fitI rfl⟩
set_option maxRecDepth 100000 in
theorem q9fl_X11_132 : q9FLs q9ALLW q9TBL RX11 (132, 8, 3) := ⟨RX8, TX8, 7, q9ft_8, (0, 0, 12), tyX8, rfl, Nat.le_of_ble_eq_true rfl, q9uw_8, (q9inT1 56 rfl rfl), rfl, rfl, tyX8_ok, nmX8, q9fitI rfl⟩
set_option maxRecDepth 100000 in
theorem q9fl_X11_146 : q9FLs q9ALLW q9TBL RX11 (146, 6, 1) := ⟨RX6, TX6, 14, q9ft_6, (2, 10, 0), tyX6, rfl, Nat.le_of_ble_eq_true rfl, q9uw_6, (q9inT1 163 rfl rfl), rfl, rfl, tyX6_ok, nmX6, q9fitO _ (.inl rfl)⟩
set_option maxRecDepth 100000 in
theorem q9fl_X11_150 : q9FLs q9ALLW q9TBL RX11 (150, 10, 3) := ⟨RX10, TX10, 7, q9ft_10, (0, 0, 9), tyX10, rfl, Nat.le_of_ble_eq_true rfl, q9uw_10, (q9inT1 97 rfl rfl), rfl, rfl, tyX10_ok, nmX10, q9fitI rfl⟩
set_option maxRecDepth 100000 in
theorem q9fl_X11_155 : q9FLs q9ALLW q9TBL RX11 (155, 10, 4) := ⟨RX10, TX10, 7, q9ft_10, (0, (-2147483648), 2147483647), tyX10, rfl, Nat.le_of_ble_eq_true rfl, q9uw_10, (q9inT1 99 rfl rfl), rfl, rfl, tyX10_ok, nmX10, q9fitI rfl⟩
set_option maxRecDepth 100000 in
theorem q9fl_X11_170 : q9FLs q9ALLW q9TBL RX11 (170, 7, 0) := ⟨RX7, TX7, 15, q9ft_7, (0, 0, 400), tyX7, rfl, Nat.le_of_ble_eq_true rfl, q9uw_7, (q9inT5 138 rfl rfl), rfl, rfl, tyX7_ok, nmX7, q9fitI rfl⟩
set_option maxRecDepth 100000 in
theorem q9fl_X11_175 : q9FLs q9ALLW q9TBL RX11 (175, 7, 3) := ⟨RX7, TX7, 15, q9ft_7, (0, (-2147483648), 2147483647), tyX7, rfl, Nat.le_of_ble_eq_true rfl, q9uw_7, (q9inT5 149 rfl rfl), rfl, rfl, tyX7_ok, nmX7, q9fitI rfl⟩
set_option maxRecDepth 100000 in
theorem q9fl_X11_178 : q9FLs q9ALLW q9TBL RX11 (178, 7, 4) := ⟨RX7, TX7, 15, q9ft_7, (0, (-2147483648), 2147483647), tyX7, rfl, Nat.le_of_ble_eq_true rfl, q9uw_7, (q9inT5 151 rfl rfl), rfl, rfl, tyX7_ok, nmX7, q9fitI rfl⟩
set_option maxRecDepth 100000 in
theorem q9fl_X11_181 : q9FLs q9ALLW q9TBL RX11 (181, 7, 5) := ⟨RX7, TX7, 15, q9ft_7, (0, (-2147483648), 2147483647), tyX7, rfl, Nat.le_of_ble_eq_true rfl, q9uw_7, (q9inT5 157 rfl rfl), rfl, rfl, tyX7_ok, nmX7, q9fitI rfl⟩
set_option maxRecDepth 100000 in
theorem q9fl_X11_265 : q9FLs q9ALLW q9TBL RX11 (265, 8, 5) := ⟨RX8, TX8, 7, q9ft_8, (2, 155, 0), tyX8, rfl, Nat.le_of_ble_eq_true rfl, q9uw_8, (q9inT1 60 rfl rfl), rfl, rfl, tyX8_ok, nmX8, q9fitA _ rfl⟩
set_option maxRecDepth 100000 in
theorem q9fl_X11_268 : q9FLs q9ALLW q9TBL RX11 (268, 8, 6) := ⟨RX8, TX8, 7, q9ft_8, (2, 156, 0), tyX8, rfl, Nat.le_of_ble_eq_true rfl, q9uw_8, (q9inT1 62 rfl rfl), rfl, rfl, tyX8_ok, nmX8, q9fitA _ rfl⟩
set_option maxRecDepth 100000 in
theorem q9fl_X11_291 : q9FLs q9ALLW q9TBL RX11 (291, 4, 17) := ⟨RX4, TX4, 19, q9ft_4, (0, (-2147483648), 2147483647), tyX4, rfl, Nat.le_of_ble_eq_true rfl, q9uw_4, (q9inT2 44 rfl rfl), rfl, rfl, tyX4_ok, nmX4, q9fitI rfl⟩
set_option maxRecDepth 100000 in
theorem q9fl_X11_294 : q9FLs q9ALLW q9TBL RX11 (294, 4, 18) := ⟨RX4, TX4, 19, q9ft_4, (0, (-2147483648), 2147483647), tyX4, rfl, Nat.le_of_ble_eq_true rfl, q9uw_4, (q9inT2 46 rfl rfl), rfl, rfl, tyX4_ok, nmX4, q9fitI rfl⟩
set_option maxRecDepth 100000 in
theorem q9fl_X11_304 : q9FLs q9ALLW q9TBL RX11 (304, 3, 1) := ⟨RX3, TX3, 5, q9ft_3, (0, 0, 12), tyX3, rfl, Nat.le_of_ble_eq_true rfl, q9uw_3, (q9inT2 94 rfl rfl), rfl, rfl, tyX3_ok, nmX3, q9fitI rfl⟩
set_option maxRecDepth 100000 in
theorem q9fl_X11_321 : q9FLs q9ALLW q9TBL RX11 (321, 1, 2) := ⟨RX1, TX1, 18, q9ft_1, (0, (-2147483648), 2147483647), tyX1, rfl, Nat.le_of_ble_eq_true rfl, q9uw_1, (q9inT2 142 rfl rfl), rfl, rfl, tyX1_ok, nmX1, q9fitI rfl⟩
set_option maxRecDepth 100000 in
theorem q9fl_X11_330 : q9FLs q9ALLW q9TBL RX11 (330, 0, 0) := ⟨RX0, TX0, 5, q9ft_0, (0, 0, 80), tyX0, rfl, Nat.le_of_ble_eq_true rfl, q9uw_0, (q9inT2 116 rfl rfl), rfl, rfl, tyX0_ok, nmX0, q9fitI rfl⟩
set_option maxRecDepth 100000 in
theorem q9fl_X11_364 : q9FLs q9ALLW q9TBL RX11 (364, 1, 12) := ⟨RX1, TX1, 18, q9ft_1, (0, 0, 6), tyX1, rfl, Nat.le_of_ble_eq_true rfl, q9uw_1, (q9inT2 154 rfl rfl), rfl, rfl, tyX1_ok, nmX1, q9fitI rfl⟩
set_option maxRecDepth 100000 in
theorem q9fl_X11_367 : q9FLs q9ALLW q9TBL RX11 (367, 1, 11) := ⟨RX1, TX1, 18, q9ft_1, (2, 112, 0), tyX1, rfl, Nat.le_of_ble_eq_true rfl, q9uw_1, (q9inT2 152 rfl rfl), rfl, rfl, tyX1_ok, nmX1, q9fitA _ rfl⟩
noncomputable def q9fs_X11 : List (Nat × Nat × Nat) := [(10, 11, 0), (21, 11, 1), (30, 11, 2), (37, 11, 3), (44, 11, 4), (51, 11, 5), (60, 11, 6), (64, 11, 7), (67, 11, 8), (71, 11, 10), (75, 8, 1), (101, 5, 0), (108, 5, 8), (111, 5, 9), (114, 5, 10), (117, 8, 4), (125, 11, 9), (132, 8, 3), (146, 6, 1), (150, 10, 3), (155, 10, 4), (170, 7, 0), (175, 7, 3), (178, 7, 4), (181, 7, 5), (265, 8, 5), (268, 8, 6), (291, 4, 17), (294, 4, 18), (304, 3, 1), (321, 1, 2), (330, 0, 0), (364, 1, 12), (367, 1, 11)]
set_option maxRecDepth 100000 in
theorem q9fs_X11_ok : ∀ q ∈ q9fs_X11, q9FLs q9ALLW q9TBL RX11 q := (List.forall_mem_cons.mpr ⟨q9fl_X11_10, (List.forall_mem_cons.mpr ⟨q9fl_X11_21, (List.forall_mem_cons.mpr ⟨q9fl_X11_30, (List.forall_mem_cons.mpr ⟨q9fl_X11_37, (List.forall_mem_cons.mpr ⟨q9fl_X11_44, (List.forall_mem_cons.mpr ⟨q9fl_X11_51, (List.forall_mem_cons.mpr ⟨q9fl_X11_60, (List.forall_mem_cons.mpr ⟨q9fl_X11_64, (List.forall_mem_cons.mpr ⟨q9fl_X11_67, (List.forall_mem_cons.mpr ⟨q9fl_X11_71, (List.forall_mem_cons.mpr ⟨q9fl_X11_75, (List.forall_mem_cons.mpr ⟨q9fl_X11_101, (List.forall_mem_cons.mpr ⟨q9fl_X11_108, (List.forall_mem_cons.mpr ⟨q9fl_X11_111, (List.forall_mem_cons.mpr ⟨q9fl_X11_114, (List.forall_mem_cons.mpr ⟨q9fl_X11_117, (List.forall_mem_cons.mpr ⟨q9fl_X11_125, (List.forall_mem_cons.mpr ⟨q9fl_X11_132, (List.forall_mem_cons.mpr ⟨q9fl_X11_146, (List.forall_mem_cons.mpr ⟨q9fl_X11_150, (List.forall_mem_cons.mpr ⟨q9fl_X11_155, (List.forall_mem_cons.mpr ⟨q9fl_X11_170, (List.forall_mem_cons.mpr ⟨q9fl_X11_175, (List.forall_mem_cons.mpr ⟨q9fl_X11_178, (List.forall_mem_cons.mpr ⟨q9fl_X11_181, (List.forall_mem_cons.mpr ⟨q9fl_X11_265, (List.forall_mem_cons.mpr ⟨q9fl_X11_268, (List.forall_mem_cons.mpr ⟨q9fl_X11_291, (List.forall_mem_cons.mpr ⟨q9fl_X11_294, (List.forall_mem_cons.mpr ⟨q9fl_X11_304, (List.forall_mem_cons.mpr ⟨q9fl_X11_321, (List.forall_mem_cons.mpr ⟨q9fl_X11_330, (List.forall_mem_cons.mpr ⟨q9fl_X11_364, (List.forall_mem_cons.mpr ⟨q9fl_X11_367, (fun _ h => absurd h List.not_mem_nil)⟩)⟩)⟩)⟩)⟩)⟩)⟩)⟩)⟩)⟩)⟩)⟩)⟩)⟩)⟩)⟩)⟩)⟩)⟩)⟩)⟩)⟩)⟩)⟩)⟩)⟩)⟩)⟩)⟩)⟩)⟩)⟩)⟩)⟩)
noncomputable def q9ps_X11 : List (Nat × Nat × Nat) := [(71, 11, 10), (75, 8, 1), (101, 5, 0), (108, 5, 8), (111, 5, 9), (114, 5, 10), (125, 11, 9), (132, 8, 3), (150, 10, 3), (155, 10, 4), (175, 7, 3), (178, 7, 4), (181, 7, 5), (291, 4, 17), (294, 4, 18), (304, 3, 1), (321, 1, 2), (330, 0, 0), (364, 1, 12)]
set_option maxRecDepth 100000 in
theorem q9ps_X11_ok : ∀ q ∈ q9ps_X11, q9FLs q9ALLW q9TBL RX11 q ∧ q9FLput q := (List.forall_mem_cons.mpr ⟨⟨q9fl_X11_71, _, rfl, rfl⟩, (List.forall_mem_cons.mpr ⟨⟨q9fl_X11_75, _, rfl, rfl⟩, (List.forall_mem_cons.mpr ⟨⟨q9fl_X11_101, _, rfl, rfl⟩, (List.forall_mem_cons.mpr ⟨⟨q9fl_X11_108, _, rfl, rfl⟩, (List.forall_mem_cons.mpr ⟨⟨q9fl_X11_111, _, rfl, rfl⟩, (List.forall_mem_cons.mpr ⟨⟨q9fl_X11_114, _, rfl, rfl⟩, (List.forall_mem_cons.mpr ⟨⟨q9fl_X11_125, _, rfl, rfl⟩, (List.forall_mem_cons.mpr ⟨⟨q9fl_X11_132, _, rfl, rfl⟩, (List.forall_mem_cons.mpr ⟨⟨q9fl_X11_150, _, rfl, rfl⟩, (List.forall_mem_cons.mpr ⟨⟨q9fl_X11_155, _, rfl, rfl⟩, (List.forall_mem_cons.mpr ⟨⟨q9fl_X11_175, _, rfl, rfl⟩, (List.forall_mem_cons.mpr ⟨⟨q9fl_X11_178, _, rfl, rfl⟩, (List.forall_mem_cons.mpr ⟨⟨q9fl_X11_181, _, rfl, rfl⟩, (List.forall_mem_cons.mpr ⟨⟨q9fl_X11_291, _, rfl, rfl⟩, (List.forall_mem_cons.mpr ⟨⟨q9fl_X11_294, _, rfl, rfl⟩, (List.forall_mem_cons.mpr ⟨⟨q9fl_X11_304, _, rfl, rfl⟩, (List.forall_mem_cons.mpr ⟨⟨q9fl_X11_321, _, rfl, rfl⟩, (List.forall_mem_cons.mpr ⟨⟨q9fl_X11_330, _, rfl, rfl⟩, (List.forall_mem_cons.mpr ⟨⟨q9fl_X11_364, _, rfl, rfl⟩, (fun _ h => absurd h List.not_mem_nil)⟩)⟩)⟩)⟩)⟩)⟩)⟩)⟩)⟩)⟩)⟩)⟩)⟩)⟩)⟩)⟩)⟩)⟩)⟩)
set_option maxRecDepth 100000 in
theorem q9fl_X12_1 : q9FLs q9ALLW q9TBL RX12 (1, 12, 0) := ⟨RX12, TX12, 109, q9ft_12, (0, 0, 3), tyX12, rfl, Nat.le_of_ble_eq_true rfl, q9uw_12, (q9inT8 85 rfl rfl), rfl, rfl, tyX12_ok, nmX12, q9fitI rfl⟩
set_option maxRecDepth 100000 in
theorem q9fl_X12_13 : q9FLs q9ALLW q9TBL RX12 (13, 12, 2) := ⟨RX12, TX12, 109, q9ft_12, (2, 167, 0), tyX12, rfl, Nat.le_of_ble_eq_true rfl, q9uw_12, (q9inT8 87 rfl rfl), rfl, rfl, tyX12_ok, nmX12, q9fitA _ rfl⟩
set_option maxRecDepth 100000 in
theorem q9fl_X12_17 : q9FLs q9ALLW q9TBL RX12 (17, 12, 3) := ⟨RX12, TX12, 109, q9ft_12, (2, 168, 0), tyX12, rfl, Nat.le_of_ble_eq_true rfl, q9uw_12, (q9inT8 88 rfl rfl), rfl, rfl, tyX12_ok, nmX12, q9fitA _ rfl⟩
set_option maxRecDepth 100000 in
theorem q9fl_X12_20 : q9FLs q9ALLW q9TBL RX12 (20, 12, 4) := ⟨RX12, TX12, 109, q9ft_12, (2, 169, 0), tyX12, rfl, Nat.le_of_ble_eq_true rfl, q9uw_12, (q9inT8 89 rfl rfl), rfl, rfl, tyX12_ok, nmX12, q9fitA _ rfl⟩
set_option maxRecDepth 100000 in
theorem q9fl_X12_23 : q9FLs q9ALLW q9TBL RX12 (23, 12, 5) := ⟨RX12, TX12, 109, q9ft_12, (2, 170, 0), tyX12, rfl, Nat.le_of_ble_eq_true rfl, q9uw_12, (q9inT8 90 rfl rfl), rfl, rfl, tyX12_ok, nmX12, q9fitA _ rfl⟩
set_option maxRecDepth 100000 in
theorem q9fl_X12_26 : q9FLs q9ALLW q9TBL RX12 (26, 12, 6) := ⟨RX12, TX12, 109, q9ft_12, (2, 171, 0), tyX12, rfl, Nat.le_of_ble_eq_true rfl, q9uw_12, (q9inT8 91 rfl rfl), rfl, rfl, tyX12_ok, nmX12, q9fitA _ rfl⟩
set_option maxRecDepth 100000 in
theorem q9fl_X12_29 : q9FLs q9ALLW q9TBL RX12 (29, 12, 7) := ⟨RX12, TX12, 109, q9ft_12, (2, 172, 0), tyX12, rfl, Nat.le_of_ble_eq_true rfl, q9uw_12, (q9inT8 92 rfl rfl), rfl, rfl, tyX12_ok, nmX12, q9fitA _ rfl⟩
set_option maxRecDepth 100000 in
theorem q9fl_X12_32 : q9FLs q9ALLW q9TBL RX12 (32, 12, 8) := ⟨RX12, TX12, 109, q9ft_12, (2, 173, 0), tyX12, rfl, Nat.le_of_ble_eq_true rfl, q9uw_12, (q9inT8 93 rfl rfl), rfl, rfl, tyX12_ok, nmX12, q9fitA _ rfl⟩
set_option maxRecDepth 100000 in
theorem q9fl_X12_35 : q9FLs q9ALLW q9TBL RX12 (35, 12, 9) := ⟨RX12, TX12, 109, q9ft_12, (2, 174, 0), tyX12, rfl, Nat.le_of_ble_eq_true rfl, q9uw_12, (q9inT8 94 rfl rfl), rfl, rfl, tyX12_ok, nmX12, q9fitA _ rfl⟩
set_option maxRecDepth 100000 in
theorem q9fl_X12_38 : q9FLs q9ALLW q9TBL RX12 (38, 12, 10) := ⟨RX12, TX12, 109, q9ft_12, (2, 175, 0), tyX12, rfl, Nat.le_of_ble_eq_true rfl, q9uw_12, (q9inT8 95 rfl rfl), rfl, rfl, tyX12_ok, nmX12, q9fitA _ rfl⟩
set_option maxRecDepth 100000 in
theorem q9fl_X12_41 : q9FLs q9ALLW q9TBL RX12 (41, 12, 11) := ⟨RX12, TX12, 109, q9ft_12, (2, 176, 0), tyX12, rfl, Nat.le_of_ble_eq_true rfl, q9uw_12, (q9inT8 96 rfl rfl), rfl, rfl, tyX12_ok, nmX12, q9fitA _ rfl⟩
set_option maxRecDepth 100000 in
theorem q9fl_X12_44 : q9FLs q9ALLW q9TBL RX12 (44, 12, 20) := ⟨RX12, TX12, 109, q9ft_12, (0, (-2147483648), 2147483647), tyX12, rfl, Nat.le_of_ble_eq_true rfl, q9uw_12, (q9inT8 105 rfl rfl), rfl, rfl, tyX12_ok, nmX12, q9fitI rfl⟩
set_option maxRecDepth 100000 in
theorem q9fl_X12_47 : q9FLs q9ALLW q9TBL RX12 (47, 12, 21) := ⟨RX12, TX12, 109, q9ft_12, (2, 177, 0), tyX12, rfl, Nat.le_of_ble_eq_true rfl, q9uw_12, (q9inT8 106 rfl rfl), rfl, rfl, tyX12_ok, nmX12, q9fitA _ rfl⟩
set_option maxRecDepth 100000 in
theorem q9fl_X12_50 : q9FLs q9ALLW q9TBL RX12 (50, 12, 22) := ⟨RX12, TX12, 109, q9ft_12, (2, 178, 0), tyX12, rfl, Nat.le_of_ble_eq_true rfl, q9uw_12, (q9inT8 107 rfl rfl), rfl, rfl, tyX12_ok, nmX12, q9fitA _ rfl⟩
set_option maxRecDepth 100000 in
theorem q9fl_X12_53 : q9FLs q9ALLW q9TBL RX12 (53, 12, 23) := ⟨RX12, TX12, 109, q9ft_12, (2, 179, 0), tyX12, rfl, Nat.le_of_ble_eq_true rfl, q9uw_12, (q9inT8 108 rfl rfl), rfl, rfl, tyX12_ok, nmX12, q9fitA _ rfl⟩
set_option maxRecDepth 100000 in
theorem q9fl_X12_56 : q9FLs q9ALLW q9TBL RX12 (56, 12, 24) := ⟨RX12, TX12, 109, q9ft_12, (2, 180, 0), tyX12, rfl, Nat.le_of_ble_eq_true rfl, q9uw_12, (q9inT8 109 rfl rfl), rfl, rfl, tyX12_ok, nmX12, q9fitA _ rfl⟩
set_option maxRecDepth 100000 in
theorem q9fl_X12_59 : q9FLs q9ALLW q9TBL RX12 (59, 12, 25) := ⟨RX12, TX12, 109, q9ft_12, (2, 181, 0), tyX12, rfl, Nat.le_of_ble_eq_true rfl, q9uw_12, (q9inT8 110 rfl rfl), rfl, rfl, tyX12_ok, nmX12, q9fitA _ rfl⟩
set_option maxRecDepth 100000 in
theorem q9fl_X12_62 : q9FLs q9ALLW q9TBL RX12 (62, 12, 26) := ⟨RX12, TX12, 109, q9ft_12, (2, 182, 0), tyX12, rfl, Nat.le_of_ble_eq_true rfl, q9uw_12, (q9inT8 111 rfl rfl), rfl, rfl, tyX12_ok, nmX12, q9fitA _ rfl⟩
set_option maxRecDepth 100000 in
theorem q9fl_X12_65 : q9FLs q9ALLW q9TBL RX12 (65, 12, 27) := ⟨RX12, TX12, 109, q9ft_12, (2, 183, 0), tyX12, rfl, Nat.le_of_ble_eq_true rfl, q9uw_12, (q9inT8 112 rfl rfl), rfl, rfl, tyX12_ok, nmX12, q9fitA _ rfl⟩
set_option maxRecDepth 100000 in
theorem q9fl_X12_68 : q9FLs q9ALLW q9TBL RX12 (68, 12, 28) := ⟨RX12, TX12, 109, q9ft_12, (2, 184, 0), tyX12, rfl, Nat.le_of_ble_eq_true rfl, q9uw_12, (q9inT8 113 rfl rfl), rfl, rfl, tyX12_ok, nmX12, q9fitA _ rfl⟩
set_option maxRecDepth 100000 in
theorem q9fl_X12_71 : q9FLs q9ALLW q9TBL RX12 (71, 12, 29) := ⟨RX12, TX12, 109, q9ft_12, (2, 185, 0), tyX12, rfl, Nat.le_of_ble_eq_true rfl, q9uw_12, (q9inT8 114 rfl rfl), rfl, rfl, tyX12_ok, nmX12, q9fitA _ rfl⟩
set_option maxRecDepth 100000 in
theorem q9fl_X12_74 : q9FLs q9ALLW q9TBL RX12 (74, 12, 30) := ⟨RX12, TX12, 109, q9ft_12, (2, 186, 0), tyX12, rfl, Nat.le_of_ble_eq_true rfl, q9uw_12, (q9inT8 115 rfl rfl), rfl, rfl, tyX12_ok, nmX12, q9fitA _ rfl⟩
set_option maxRecDepth 100000 in
theorem q9fl_X12_77 : q9FLs q9ALLW q9TBL RX12 (77, 12, 31) := ⟨RX12, TX12, 109, q9ft_12, (2, 187, 0), tyX12, rfl, Nat.le_of_ble_eq_true rfl, q9uw_12, (q9inT8 116 rfl rfl), rfl, rfl, tyX12_ok, nmX12, q9fitA _ rfl⟩
set_option maxRecDepth 100000 in
theorem q9fl_X12_80 : q9FLs q9ALLW q9TBL RX12 (80, 12, 32) := ⟨RX12, TX12, 109, q9ft_12, (2, 188, 0), tyX12, rfl, Nat.le_of_ble_eq_true rfl, q9uw_12, (q9inT8 117 rfl rfl), rfl, rfl, tyX12_ok, nmX12, q9fitA _ rfl⟩
set_option maxRecDepth 100000 in
theorem q9fl_X12_83 : q9FLs q9ALLW q9TBL RX12 (83, 12, 33) := ⟨RX12, TX12, 109, q9ft_12, (2, 189, 0), tyX12, rfl, Nat.le_of_ble_eq_true rfl, q9uw_12, (q9inT8 118 rfl rfl), rfl, rfl, tyX12_ok, nmX12, q9fitA _ rfl⟩
set_option maxRecDepth 100000 in
theorem q9fl_X12_87 : q9FLs q9ALLW q9TBL RX12 (87, 12, 39) := ⟨RX12, TX12, 109, q9ft_12, (2, 190, 0), tyX12, rfl, Nat.le_of_ble_eq_true rfl, q9uw_12, (q9inT8 124 rfl rfl), rfl, rfl, tyX12_ok, nmX12, q9fitA _ rfl⟩
set_option maxRecDepth 100000 in
theorem q9fl_X12_92 : q9FLs q9ALLW q9TBL RX12 (92, 12, 40) := ⟨RX12, TX12, 109, q9ft_12, (2, 191, 0), tyX12, rfl, Nat.le_of_ble_eq_true rfl, q9uw_12, (q9inT8 125 rfl rfl), rfl, rfl, tyX12_ok, nmX12, q9fitA _ rfl⟩
set_option maxRecDepth 100000 in
theorem q9fl_X12_95 : q9FLs q9ALLW q9TBL RX12 (95, 12, 41) := ⟨RX12, TX12, 109, q9ft_12, (2, 192, 0), tyX12, rfl, Nat.le_of_ble_eq_true rfl, q9uw_12, (q9inT8 126 rfl rfl), rfl, rfl, tyX12_ok, nmX12, q9fitA _ rfl⟩
set_option maxRecDepth 100000 in
theorem q9fl_X12_98 : q9FLs q9ALLW q9TBL RX12 (98, 12, 42) := ⟨RX12, TX12, 109, q9ft_12, (2, 193, 0), tyX12, rfl, Nat.le_of_ble_eq_true rfl, q9uw_12, (q9inT8 127 rfl rfl), rfl, rfl, tyX12_ok, nmX12, q9fitA _ rfl⟩
set_option maxRecDepth 100000 in
theorem q9fl_X12_101 : q9FLs q9ALLW q9TBL RX12 (101, 12, 43) := ⟨RX12, TX12, 109, q9ft_12, (2, 194, 0), tyX12, rfl, Nat.le_of_ble_eq_true rfl, q9uw_12, (q9inT8 128 rfl rfl), rfl, rfl, tyX12_ok, nmX12, q9fitA _ rfl⟩
set_option maxRecDepth 100000 in
theorem q9fl_X12_104 : q9FLs q9ALLW q9TBL RX12 (104, 12, 44) := ⟨RX12, TX12, 109, q9ft_12, (2, 195, 0), tyX12, rfl, Nat.le_of_ble_eq_true rfl, q9uw_12, (q9inT8 129 rfl rfl), rfl, rfl, tyX12_ok, nmX12, q9fitA _ rfl⟩
set_option maxRecDepth 100000 in
theorem q9fl_X12_107 : q9FLs q9ALLW q9TBL RX12 (107, 12, 45) := ⟨RX12, TX12, 109, q9ft_12, (2, 196, 0), tyX12, rfl, Nat.le_of_ble_eq_true rfl, q9uw_12, (q9inT8 130 rfl rfl), rfl, rfl, tyX12_ok, nmX12, q9fitA _ rfl⟩
set_option maxRecDepth 100000 in
theorem q9fl_X12_110 : q9FLs q9ALLW q9TBL RX12 (110, 12, 46) := ⟨RX12, TX12, 109, q9ft_12, (2, 197, 0), tyX12, rfl, Nat.le_of_ble_eq_true rfl, q9uw_12, (q9inT8 131 rfl rfl), rfl, rfl, tyX12_ok, nmX12, q9fitA _ rfl⟩
set_option maxRecDepth 100000 in
theorem q9fl_X12_113 : q9FLs q9ALLW q9TBL RX12 (113, 12, 47) := ⟨RX12, TX12, 109, q9ft_12, (2, 198, 0), tyX12, rfl, Nat.le_of_ble_eq_true rfl, q9uw_12, (q9inT8 132 rfl rfl), rfl, rfl, tyX12_ok, nmX12, q9fitA _ rfl⟩
set_option maxRecDepth 100000 in
theorem q9fl_X12_116 : q9FLs q9ALLW q9TBL RX12 (116, 12, 48) := ⟨RX12, TX12, 109, q9ft_12, (2, 199, 0), tyX12, rfl, Nat.le_of_ble_eq_true rfl, q9uw_12, (q9inT8 133 rfl rfl), rfl, rfl, tyX12_ok, nmX12, q9fitA _ rfl⟩
set_option maxRecDepth 100000 in
theorem q9fl_X12_119 : q9FLs q9ALLW q9TBL RX12 (119, 12, 49) := ⟨RX12, TX12, 109, q9ft_12, (2, 200, 0), tyX12, rfl, Nat.le_of_ble_eq_true rfl, q9uw_12, (q9inT8 134 rfl rfl), rfl, rfl, tyX12_ok, nmX12, q9fitA _ rfl⟩
set_option maxRecDepth 100000 in
theorem q9fl_X12_122 : q9FLs q9ALLW q9TBL RX12 (122, 12, 50) := ⟨RX12, TX12, 109, q9ft_12, (2, 201, 0), tyX12, rfl, Nat.le_of_ble_eq_true rfl, q9uw_12, (q9inT8 135 rfl rfl), rfl, rfl, tyX12_ok, nmX12, q9fitA _ rfl⟩
set_option maxRecDepth 100000 in
theorem q9fl_X12_126 : q9FLs q9ALLW q9TBL RX12 (126, 12, 54) := ⟨RX12, TX12, 109, q9ft_12, (2, 202, 0), tyX12, rfl, Nat.le_of_ble_eq_true rfl, q9uw_12, (q9inT8 139 rfl rfl), rfl, rfl, tyX12_ok, nmX12, q9fitA _ rfl⟩
set_option maxRecDepth 100000 in
theorem q9fl_X12_129 : q9FLs q9ALLW q9TBL RX12 (129, 12, 55) := ⟨RX12, TX12, 109, q9ft_12, (2, 203, 0), tyX12, rfl, Nat.le_of_ble_eq_true rfl, q9uw_12, (q9inT8 140 rfl rfl), rfl, rfl, tyX12_ok, nmX12, q9fitA _ rfl⟩
set_option maxRecDepth 100000 in
theorem q9fl_X12_132 : q9FLs q9ALLW q9TBL RX12 (132, 12, 56) := ⟨RX12, TX12, 109, q9ft_12, (2, 204, 0), tyX12, rfl, Nat.le_of_ble_eq_true rfl, q9uw_12, (q9inT8 141 rfl rfl), rfl, rfl, tyX12_ok, nmX12, q9fitA _ rfl⟩
set_option maxRecDepth 100000 in
theorem q9fl_X12_135 : q9FLs q9ALLW q9TBL RX12 (135, 12, 57) := ⟨RX12, TX12, 109, q9ft_12, (2, 205, 0), tyX12, rfl, Nat.le_of_ble_eq_true rfl, q9uw_12, (q9inT8 142 rfl rfl), rfl, rfl, tyX12_ok, nmX12, q9fitA _ rfl⟩
set_option maxRecDepth 100000 in
theorem q9fl_X12_138 : q9FLs q9ALLW q9TBL RX12 (138, 12, 58) := ⟨RX12, TX12, 109, q9ft_12, (2, 206, 0), tyX12, rfl, Nat.le_of_ble_eq_true rfl, q9uw_12, (q9inT8 143 rfl rfl), rfl, rfl, tyX12_ok, nmX12, q9fitA _ rfl⟩
set_option maxRecDepth 100000 in
theorem q9fl_X12_141 : q9FLs q9ALLW q9TBL RX12 (141, 12, 59) := ⟨RX12, TX12, 109, q9ft_12, (2, 207, 0), tyX12, rfl, Nat.le_of_ble_eq_true rfl, q9uw_12, (q9inT8 144 rfl rfl), rfl, rfl, tyX12_ok, nmX12, q9fitA _ rfl⟩
set_option maxRecDepth 100000 in
theorem q9fl_X12_144 : q9FLs q9ALLW q9TBL RX12 (144, 12, 60) := ⟨RX12, TX12, 109, q9ft_12, (2, 208, 0), tyX12, rfl, Nat.le_of_ble_eq_true rfl, q9uw_12, (q9inT8 145 rfl rfl), rfl, rfl, tyX12_ok, nmX12, q9fitA _ rfl⟩
set_option maxRecDepth 100000 in
theorem q9fl_X12_147 : q9FLs q9ALLW q9TBL RX12 (147, 12, 61) := ⟨RX12, TX12, 109, q9ft_12, (2, 209, 0), tyX12, rfl, Nat.le_of_ble_eq_true rfl, q9uw_12, (q9inT8 146 rfl rfl), rfl, rfl, tyX12_ok, nmX12, q9fitA _ rfl⟩
set_option maxRecDepth 100000 in
theorem q9fl_X12_150 : q9FLs q9ALLW q9TBL RX12 (150, 12, 62) := ⟨RX12, TX12, 109, q9ft_12, (2, 210, 0), tyX12, rfl, Nat.le_of_ble_eq_true rfl, q9uw_12, (q9inT8 147 rfl rfl), rfl, rfl, tyX12_ok, nmX12, q9fitA _ rfl⟩
set_option maxRecDepth 100000 in
theorem q9fl_X12_153 : q9FLs q9ALLW q9TBL RX12 (153, 12, 63) := ⟨RX12, TX12, 109, q9ft_12, (2, 211, 0), tyX12, rfl, Nat.le_of_ble_eq_true rfl, q9uw_12, (q9inT8 148 rfl rfl), rfl, rfl, tyX12_ok, nmX12, q9fitA _ rfl⟩
set_option maxRecDepth 100000 in
theorem q9fl_X12_156 : q9FLs q9ALLW q9TBL RX12 (156, 12, 64) := ⟨RX12, TX12, 109, q9ft_12, (2, 212, 0), tyX12, rfl, Nat.le_of_ble_eq_true rfl, q9uw_12, (q9inT8 149 rfl rfl), rfl, rfl, tyX12_ok, nmX12, q9fitA _ rfl⟩
set_option maxRecDepth 100000 in
theorem q9fl_X12_159 : q9FLs q9ALLW q9TBL RX12 (159, 12, 65) := ⟨RX12, TX12, 109, q9ft_12, (2, 213, 0), tyX12, rfl, Nat.le_of_ble_eq_true rfl, q9uw_12, (q9inT8 150 rfl rfl), rfl, rfl, tyX12_ok, nmX12, q9fitA _ rfl⟩
set_option maxRecDepth 100000 in
theorem q9fl_X12_162 : q9FLs q9ALLW q9TBL RX12 (162, 12, 70) := ⟨RX12, TX12, 109, q9ft_12, (2, 214, 0), tyX12, rfl, Nat.le_of_ble_eq_true rfl, q9uw_12, (q9inT8 155 rfl rfl), rfl, rfl, tyX12_ok, nmX12, q9fitA _ rfl⟩
set_option maxRecDepth 100000 in
theorem q9fl_X12_165 : q9FLs q9ALLW q9TBL RX12 (165, 12, 71) := ⟨RX12, TX12, 109, q9ft_12, (2, 215, 0), tyX12, rfl, Nat.le_of_ble_eq_true rfl, q9uw_12, (q9inT8 156 rfl rfl), rfl, rfl, tyX12_ok, nmX12, q9fitA _ rfl⟩
set_option maxRecDepth 100000 in
theorem q9fl_X12_168 : q9FLs q9ALLW q9TBL RX12 (168, 12, 72) := ⟨RX12, TX12, 109, q9ft_12, (2, 216, 0), tyX12, rfl, Nat.le_of_ble_eq_true rfl, q9uw_12, (q9inT8 157 rfl rfl), rfl, rfl, tyX12_ok, nmX12, q9fitA _ rfl⟩
set_option maxRecDepth 100000 in
theorem q9fl_X12_171 : q9FLs q9ALLW q9TBL RX12 (171, 12, 73) := ⟨RX12, TX12, 109, q9ft_12, (2, 217, 0), tyX12, rfl, Nat.le_of_ble_eq_true rfl, q9uw_12, (q9inT8 158 rfl rfl), rfl, rfl, tyX12_ok, nmX12, q9fitA _ rfl⟩
set_option maxRecDepth 100000 in
theorem q9fl_X12_174 : q9FLs q9ALLW q9TBL RX12 (174, 12, 74) := ⟨RX12, TX12, 109, q9ft_12, (2, 218, 0), tyX12, rfl, Nat.le_of_ble_eq_true rfl, q9uw_12, (q9inT8 159 rfl rfl), rfl, rfl, tyX12_ok, nmX12, q9fitA _ rfl⟩
set_option maxRecDepth 100000 in
theorem q9fl_X12_177 : q9FLs q9ALLW q9TBL RX12 (177, 12, 75) := ⟨RX12, TX12, 109, q9ft_12, (2, 219, 0), tyX12, rfl, Nat.le_of_ble_eq_true rfl, q9uw_12, (q9inT8 160 rfl rfl), rfl, rfl, tyX12_ok, nmX12, q9fitA _ rfl⟩
set_option maxRecDepth 100000 in
theorem q9fl_X12_180 : q9FLs q9ALLW q9TBL RX12 (180, 12, 76) := ⟨RX12, TX12, 109, q9ft_12, (2, 220, 0), tyX12, rfl, Nat.le_of_ble_eq_true rfl, q9uw_12, (q9inT8 161 rfl rfl), rfl, rfl, tyX12_ok, nmX12, q9fitA _ rfl⟩
set_option maxRecDepth 100000 in
theorem q9fl_X12_183 : q9FLs q9ALLW q9TBL RX12 (183, 12, 77) := ⟨RX12, TX12, 109, q9ft_12, (2, 221, 0), tyX12, rfl, Nat.le_of_ble_eq_true rfl, q9uw_12, (q9inT8 162 rfl rfl), rfl, rfl, tyX12_ok, nmX12, q9fitA _ rfl⟩
set_option maxRecDepth 100000 in
theorem q9fl_X12_186 : q9FLs q9ALLW q9TBL RX12 (186, 12, 79) := ⟨RX12, TX12, 109, q9ft_12, (2, 222, 0), tyX12, rfl, Nat.le_of_ble_eq_true rfl, q9uw_12, (q9inT8 164 rfl rfl), rfl, rfl, tyX12_ok, nmX12, q9fitA _ rfl⟩
set_option maxRecDepth 100000 in
theorem q9fl_X12_189 : q9FLs q9ALLW q9TBL RX12 (189, 12, 80) := ⟨RX12, TX12, 109, q9ft_12, (2, 223, 0), tyX12, rfl, Nat.le_of_ble_eq_true rfl, q9uw_12, (q9inT8 165 rfl rfl), rfl, rfl, tyX12_ok, nmX12, q9fitA _ rfl⟩
set_option maxRecDepth 100000 in
theorem q9fl_X12_192 : q9FLs q9ALLW q9TBL RX12 (192, 12, 81) := ⟨RX12, TX12, 109, q9ft_12, (2, 224, 0), tyX12, rfl, Nat.le_of_ble_eq_true rfl, q9uw_12, (q9inT8 166 rfl rfl), rfl, rfl, tyX12_ok, nmX12, q9fitA _ rfl⟩
set_option maxRecDepth 100000 in
theorem q9fl_X12_195 : q9FLs q9ALLW q9TBL RX12 (195, 12, 84) := ⟨RX12, TX12, 109, q9ft_12, (2, 225, 0), tyX12, rfl, Nat.le_of_ble_eq_true rfl, q9uw_12, (q9inT8 169 rfl rfl), rfl, rfl, tyX12_ok, nmX12, q9fitA _ rfl⟩
set_option maxRecDepth 100000 in
theorem q9fl_X12_198 : q9FLs q9ALLW q9TBL RX12 (198, 12, 85) := ⟨RX12, TX12, 109, q9ft_12, (2, 226, 0), tyX12, rfl, Nat.le_of_ble_eq_true rfl, q9uw_12, (q9inT8 170 rfl rfl), rfl, rfl, tyX12_ok, nmX12, q9fitA _ rfl⟩
set_option maxRecDepth 100000 in
theorem q9fl_X12_201 : q9FLs q9ALLW q9TBL RX12 (201, 12, 86) := ⟨RX12, TX12, 109, q9ft_12, (2, 227, 0), tyX12, rfl, Nat.le_of_ble_eq_true rfl, q9uw_12, (q9inT8 171 rfl rfl), rfl, rfl, tyX12_ok, nmX12, q9fitA _ rfl⟩
set_option maxRecDepth 100000 in
theorem q9fl_X12_204 : q9FLs q9ALLW q9TBL RX12 (204, 12, 87) := ⟨RX12, TX12, 109, q9ft_12, (2, 228, 0), tyX12, rfl, Nat.le_of_ble_eq_true rfl, q9uw_12, (q9inT8 172 rfl rfl), rfl, rfl, tyX12_ok, nmX12, q9fitA _ rfl⟩
set_option maxRecDepth 100000 in
theorem q9fl_X12_207 : q9FLs q9ALLW q9TBL RX12 (207, 12, 89) := ⟨RX12, TX12, 109, q9ft_12, (2, 229, 0), tyX12, rfl, Nat.le_of_ble_eq_true rfl, q9uw_12, (q9inT8 174 rfl rfl), rfl, rfl, tyX12_ok, nmX12, q9fitA _ rfl⟩
set_option maxRecDepth 100000 in
theorem q9fl_X12_210 : q9FLs q9ALLW q9TBL RX12 (210, 12, 90) := ⟨RX12, TX12, 109, q9ft_12, (2, 230, 0), tyX12, rfl, Nat.le_of_ble_eq_true rfl, q9uw_12, (q9inT8 175 rfl rfl), rfl, rfl, tyX12_ok, nmX12, q9fitA _ rfl⟩
set_option maxRecDepth 100000 in
theorem q9fl_X12_213 : q9FLs q9ALLW q9TBL RX12 (213, 12, 91) := ⟨RX12, TX12, 109, q9ft_12, (2, 231, 0), tyX12, rfl, Nat.le_of_ble_eq_true rfl, q9uw_12, (q9inT8 176 rfl rfl), rfl, rfl, tyX12_ok, nmX12, q9fitA _ rfl⟩
set_option maxRecDepth 100000 in
theorem q9fl_X12_216 : q9FLs q9ALLW q9TBL RX12 (216, 12, 92) := ⟨RX12, TX12, 109, q9ft_12, (2, 232, 0), tyX12, rfl, Nat.le_of_ble_eq_true rfl, q9uw_12, (q9inT8 177 rfl rfl), rfl, rfl, tyX12_ok, nmX12, q9fitA _ rfl⟩
set_option maxRecDepth 100000 in
theorem q9fl_X12_219 : q9FLs q9ALLW q9TBL RX12 (219, 12, 93) := ⟨RX12, TX12, 109, q9ft_12, (2, 233, 0), tyX12, rfl, Nat.le_of_ble_eq_true rfl, q9uw_12, (q9inT8 178 rfl rfl), rfl, rfl, tyX12_ok, nmX12, q9fitA _ rfl⟩
set_option maxRecDepth 100000 in
theorem q9fl_X12_222 : q9FLs q9ALLW q9TBL RX12 (222, 12, 94) := ⟨RX12, TX12, 109, q9ft_12, (2, 234, 0), tyX12, rfl, Nat.le_of_ble_eq_true rfl, q9uw_12, (q9inT8 179 rfl rfl), rfl, rfl, tyX12_ok, nmX12, q9fitA _ rfl⟩
set_option maxRecDepth 100000 in
theorem q9fl_X12_225 : q9FLs q9ALLW q9TBL RX12 (225, 12, 95) := ⟨RX12, TX12, 109, q9ft_12, (2, 235, 0), tyX12, rfl, Nat.le_of_ble_eq_true rfl, q9uw_12, (q9inT8 180 rfl rfl), rfl, rfl, tyX12_ok, nmX12, q9fitA _ rfl⟩
set_option maxRecDepth 100000 in
theorem q9fl_X12_228 : q9FLs q9ALLW q9TBL RX12 (228, 12, 96) := ⟨RX12, TX12, 109, q9ft_12, (2, 236, 0), tyX12, rfl, Nat.le_of_ble_eq_true rfl, q9uw_12, (q9inT8 181 rfl rfl), rfl, rfl, tyX12_ok, nmX12, q9fitA _ rfl⟩
set_option maxRecDepth 100000 in
theorem q9fl_X12_231 : q9FLs q9ALLW q9TBL RX12 (231, 12, 97) := ⟨RX12, TX12, 109, q9ft_12, (2, 237, 0), tyX12, rfl, Nat.le_of_ble_eq_true rfl, q9uw_12, (q9inT8 182 rfl rfl), rfl, rfl, tyX12_ok, nmX12, q9fitA _ rfl⟩
set_option maxRecDepth 100000 in
theorem q9fl_X12_234 : q9FLs q9ALLW q9TBL RX12 (234, 12, 98) := ⟨RX12, TX12, 109, q9ft_12, (2, 238, 0), tyX12, rfl, Nat.le_of_ble_eq_true rfl, q9uw_12, (q9inT8 183 rfl rfl), rfl, rfl, tyX12_ok, nmX12, q9fitA _ rfl⟩
set_option maxRecDepth 100000 in
theorem q9fl_X12_237 : q9FLs q9ALLW q9TBL RX12 (237, 12, 100) := ⟨RX12, TX12, 109, q9ft_12, (2, 239, 0), tyX12, rfl, Nat.le_of_ble_eq_true rfl, q9uw_12, (q9inT8 185 rfl rfl), rfl, rfl, tyX12_ok, nmX12, q9fitA _ rfl⟩
set_option maxRecDepth 100000 in
theorem q9fl_X12_240 : q9FLs q9ALLW q9TBL RX12 (240, 12, 101) := ⟨RX12, TX12, 109, q9ft_12, (2, 240, 0), tyX12, rfl, Nat.le_of_ble_eq_true rfl, q9uw_12, (q9inT8 186 rfl rfl), rfl, rfl, tyX12_ok, nmX12, q9fitA _ rfl⟩
set_option maxRecDepth 100000 in
theorem q9fl_X12_243 : q9FLs q9ALLW q9TBL RX12 (243, 12, 102) := ⟨RX12, TX12, 109, q9ft_12, (2, 241, 0), tyX12, rfl, Nat.le_of_ble_eq_true rfl, q9uw_12, (q9inT8 187 rfl rfl), rfl, rfl, tyX12_ok, nmX12, q9fitA _ rfl⟩
set_option maxRecDepth 100000 in
theorem q9fl_X12_246 : q9FLs q9ALLW q9TBL RX12 (246, 12, 103) := ⟨RX12, TX12, 109, q9ft_12, (2, 242, 0), tyX12, rfl, Nat.le_of_ble_eq_true rfl, q9uw_12, (q9inT8 188 rfl rfl), rfl, rfl, tyX12_ok, nmX12, q9fitA _ rfl⟩
set_option maxRecDepth 100000 in
theorem q9fl_X12_249 : q9FLs q9ALLW q9TBL RX12 (249, 12, 104) := ⟨RX12, TX12, 109, q9ft_12, (2, 243, 0), tyX12, rfl, Nat.le_of_ble_eq_true rfl, q9uw_12, (q9inT8 189 rfl rfl), rfl, rfl, tyX12_ok, nmX12, q9fitA _ rfl⟩
set_option maxRecDepth 100000 in
theorem q9fl_X12_252 : q9FLs q9ALLW q9TBL RX12 (252, 12, 105) := ⟨RX12, TX12, 109, q9ft_12, (2, 244, 0), tyX12, rfl, Nat.le_of_ble_eq_true rfl, q9uw_12, (q9inT8 190 rfl rfl), rfl, rfl, tyX12_ok, nmX12, q9fitA _ rfl⟩
set_option maxRecDepth 100000 in
theorem q9fl_X12_255 : q9FLs q9ALLW q9TBL RX12 (255, 12, 106) := ⟨RX12, TX12, 109, q9ft_12, (2, 245, 0), tyX12, rfl, Nat.le_of_ble_eq_true rfl, q9uw_12, (q9inT8 191 rfl rfl), rfl, rfl, tyX12_ok, nmX12, q9fitA _ rfl⟩
set_option maxRecDepth 100000 in
theorem q9fl_X12_258 : q9FLs q9ALLW q9TBL RX12 (258, 12, 107) := ⟨RX12, TX12, 109, q9ft_12, (2, 246, 0), tyX12, rfl, Nat.le_of_ble_eq_true rfl, q9uw_12, (q9inT8 192 rfl rfl), rfl, rfl, tyX12_ok, nmX12, q9fitA _ rfl⟩
set_option maxRecDepth 100000 in
theorem q9fl_X12_261 : q9FLs q9ALLW q9TBL RX12 (261, 12, 108) := ⟨RX12, TX12, 109, q9ft_12, (2, 247, 0), tyX12, rfl, Nat.le_of_ble_eq_true rfl, q9uw_12, (q9inT8 193 rfl rfl), rfl, rfl, tyX12_ok, nmX12, q9fitA _ rfl⟩
set_option maxRecDepth 100000 in
theorem q9fl_X12_264 : q9FLs q9ALLW q9TBL RX12 (264, 12, 1) := ⟨RX12, TX12, 109, q9ft_12, (0, 0, 8), tyX12, rfl, Nat.le_of_ble_eq_true rfl, q9uw_12, (q9inT8 86 rfl rfl), rfl, rfl, tyX12_ok, nmX12, q9fitI rfl⟩
set_option maxRecDepth 100000 in
theorem q9fl_X12_279 : q9FLs q9ALLW q9TBL RX12 (279, 12, 12) := ⟨RX12, TX12, 109, q9ft_12, (0, 0, 400), tyX12, rfl, Nat.le_of_ble_eq_true rfl, q9uw_12, (q9inT8 97 rfl rfl), rfl, rfl, tyX12_ok, nmX12, q9fitI rfl⟩
set_option maxRecDepth 100000 in
theorem q9fl_X12_282 : q9FLs q9ALLW q9TBL RX12 (282, 12, 15) := ⟨RX12, TX12, 109, q9ft_12, (0, (-1), 400), tyX12, rfl, Nat.le_of_ble_eq_true rfl, q9uw_12, (q9inT8 100 rfl rfl), rfl, rfl, tyX12_ok, nmX12, q9fitI rfl⟩
set_option maxRecDepth 100000 in
theorem q9fl_X12_285 : q9FLs q9ALLW q9TBL RX12 (285, 12, 16) := ⟨RX12, TX12, 109, q9ft_12, (0, (-2147483648), 2147483647), tyX12, rfl, Nat.le_of_ble_eq_true rfl, q9uw_12, (q9inT8 101 rfl rfl), rfl, rfl, tyX12_ok, nmX12, q9fitI rfl⟩
set_option maxRecDepth 100000 in
theorem q9fl_X12_288 : q9FLs q9ALLW q9TBL RX12 (288, 12, 14) := ⟨RX12, TX12, 109, q9ft_12, (0, 0, 400), tyX12, rfl, Nat.le_of_ble_eq_true rfl, q9uw_12, (q9inT8 99 rfl rfl), rfl, rfl, tyX12_ok, nmX12, q9fitI rfl⟩
set_option maxRecDepth 100000 in
theorem q9fl_X12_291 : q9FLs q9ALLW q9TBL RX12 (291, 12, 13) := ⟨RX12, TX12, 109, q9ft_12, (0, 0, 400), tyX12, rfl, Nat.le_of_ble_eq_true rfl, q9uw_12, (q9inT8 98 rfl rfl), rfl, rfl, tyX12_ok, nmX12, q9fitI rfl⟩
set_option maxRecDepth 100000 in
theorem q9fl_X12_325 : q9FLs q9ALLW q9TBL RX12 (325, 12, 34) := ⟨RX12, TX12, 109, q9ft_12, (0, (-2147483648), 2147483647), tyX12, rfl, Nat.le_of_ble_eq_true rfl, q9uw_12, (q9inT8 119 rfl rfl), rfl, rfl, tyX12_ok, nmX12, q9fitI rfl⟩
set_option maxRecDepth 100000 in
theorem q9fl_X12_332 : q9FLs q9ALLW q9TBL RX12 (332, 12, 18) := ⟨RX12, TX12, 109, q9ft_12, (0, 0, 400), tyX12, rfl, Nat.le_of_ble_eq_true rfl, q9uw_12, (q9inT8 103 rfl rfl), rfl, rfl, tyX12_ok, nmX12, q9fitI rfl⟩
set_option maxRecDepth 100000 in
theorem q9fl_X12_348 : q9FLs q9ALLW q9TBL RX12 (348, 12, 35) := ⟨RX12, TX12, 109, q9ft_12, (0, (-2147483648), 2147483647), tyX12, rfl, Nat.le_of_ble_eq_true rfl, q9uw_12, (q9inT8 120 rfl rfl), rfl, rfl, tyX12_ok, nmX12, q9fitI rfl⟩
set_option maxRecDepth 100000 in
theorem q9fl_X12_351 : q9FLs q9ALLW q9TBL RX12 (351, 12, 19) := ⟨RX12, TX12, 109, q9ft_12, (0, 0, 400), tyX12, rfl, Nat.le_of_ble_eq_true rfl, q9uw_12, (q9inT8 104 rfl rfl), rfl, rfl, tyX12_ok, nmX12, q9fitI rfl⟩
set_option maxRecDepth 100000 in
theorem q9fl_X12_368 : q9FLs q9ALLW q9TBL RX12 (368, 12, 17) := ⟨RX12, TX12, 109, q9ft_12, (0, 0, 60), tyX12, rfl, Nat.le_of_ble_eq_true rfl, q9uw_12, (q9inT8 102 rfl rfl), rfl, rfl, tyX12_ok, nmX12, q9fitI rfl⟩
set_option maxRecDepth 100000 in
theorem q9fl_X12_389 : q9FLs q9ALLW q9TBL RX12 (389, 12, 36) := ⟨RX12, TX12, 109, q9ft_12, (1, (-9223372036854775808), 9223372036854775807), tyX12, rfl, Nat.le_of_ble_eq_true rfl, q9uw_12, (q9inT8 121 rfl rfl), rfl, rfl, tyX12_ok, nmX12, q9fitJ rfl⟩
set_option maxRecDepth 100000 in
theorem q9fl_X12_393 : q9FLs q9ALLW q9TBL RX12 (393, 12, 37) := ⟨RX12, TX12, 109, q9ft_12, (1, (-9223372036854775808), 9223372036854775807), tyX12, rfl, Nat.le_of_ble_eq_true rfl, q9uw_12, (q9inT8 122 rfl rfl), rfl, rfl, tyX12_ok, nmX12, q9fitJ rfl⟩
set_option maxRecDepth 100000 in
theorem q9fl_X12_398 : q9FLs q9ALLW q9TBL RX12 (398, 12, 38) := ⟨RX12, TX12, 109, q9ft_12, (0, 0, 12), tyX12, rfl, Nat.le_of_ble_eq_true rfl, q9uw_12, (q9inT8 123 rfl rfl), rfl, rfl, tyX12_ok, nmX12, q9fitI rfl⟩
set_option maxRecDepth 100000 in
theorem q9fl_X12_401 : q9FLs q9ALLW q9TBL RX12 (401, 12, 51) := ⟨RX12, TX12, 109, q9ft_12, (0, 0, 400), tyX12, rfl, Nat.le_of_ble_eq_true rfl, q9uw_12, (q9inT8 136 rfl rfl), rfl, rfl, tyX12_ok, nmX12, q9fitI rfl⟩
set_option maxRecDepth 100000 in
theorem q9fl_X12_407 : q9FLs q9ALLW q9TBL RX12 (407, 12, 52) := ⟨RX12, TX12, 109, q9ft_12, (0, (-2147483648), 2147483647), tyX12, rfl, Nat.le_of_ble_eq_true rfl, q9uw_12, (q9inT8 137 rfl rfl), rfl, rfl, tyX12_ok, nmX12, q9fitI rfl⟩
set_option maxRecDepth 100000 in
theorem q9fl_X12_410 : q9FLs q9ALLW q9TBL RX12 (410, 12, 53) := ⟨RX12, TX12, 109, q9ft_12, (0, (-2147483648), 2147483647), tyX12, rfl, Nat.le_of_ble_eq_true rfl, q9uw_12, (q9inT8 138 rfl rfl), rfl, rfl, tyX12_ok, nmX12, q9fitI rfl⟩
set_option maxRecDepth 100000 in
theorem q9fl_X12_486 : q9FLs q9ALLW q9TBL RX12 (486, 12, 66) := ⟨RX12, TX12, 109, q9ft_12, (0, 0, 5), tyX12, rfl, Nat.le_of_ble_eq_true rfl, q9uw_12, (q9inT8 151 rfl rfl), rfl, rfl, tyX12_ok, nmX12, q9fitI rfl⟩
set_option maxRecDepth 100000 in
theorem q9fl_X12_489 : q9FLs q9ALLW q9TBL RX12 (489, 12, 67) := ⟨RX12, TX12, 109, q9ft_12, (0, 0, 5), tyX12, rfl, Nat.le_of_ble_eq_true rfl, q9uw_12, (q9inT8 152 rfl rfl), rfl, rfl, tyX12_ok, nmX12, q9fitI rfl⟩
set_option maxRecDepth 100000 in
theorem q9fl_X12_492 : q9FLs q9ALLW q9TBL RX12 (492, 12, 68) := ⟨RX12, TX12, 109, q9ft_12, (1, (-9223372036854775808), 9223372036854775807), tyX12, rfl, Nat.le_of_ble_eq_true rfl, q9uw_12, (q9inT8 153 rfl rfl), rfl, rfl, tyX12_ok, nmX12, q9fitJ rfl⟩
set_option maxRecDepth 100000 in
theorem q9fl_X12_495 : q9FLs q9ALLW q9TBL RX12 (495, 12, 69) := ⟨RX12, TX12, 109, q9ft_12, (1, (-9223372036854775808), 9223372036854775807), tyX12, rfl, Nat.le_of_ble_eq_true rfl, q9uw_12, (q9inT8 154 rfl rfl), rfl, rfl, tyX12_ok, nmX12, q9fitJ rfl⟩
set_option maxRecDepth 100000 in
theorem q9fl_X12_504 : q9FLs q9ALLW q9TBL RX12 (504, 12, 78) := ⟨RX12, TX12, 109, q9ft_12, (0, 0, 12), tyX12, rfl, Nat.le_of_ble_eq_true rfl, q9uw_12, (q9inT8 163 rfl rfl), rfl, rfl, tyX12_ok, nmX12, q9fitI rfl⟩
set_option maxRecDepth 100000 in
theorem q9fl_X12_513 : q9FLs q9ALLW q9TBL RX12 (513, 12, 82) := ⟨RX12, TX12, 109, q9ft_12, (0, (-2147483648), 2147483647), tyX12, rfl, Nat.le_of_ble_eq_true rfl, q9uw_12, (q9inT8 167 rfl rfl), rfl, rfl, tyX12_ok, nmX12, q9fitI rfl⟩
set_option maxRecDepth 100000 in
theorem q9fl_X12_516 : q9FLs q9ALLW q9TBL RX12 (516, 12, 83) := ⟨RX12, TX12, 109, q9ft_12, (0, 0, 80), tyX12, rfl, Nat.le_of_ble_eq_true rfl, q9uw_12, (q9inT8 168 rfl rfl), rfl, rfl, tyX12_ok, nmX12, q9fitI rfl⟩
set_option maxRecDepth 100000 in
theorem q9fl_X12_525 : q9FLs q9ALLW q9TBL RX12 (525, 12, 88) := ⟨RX12, TX12, 109, q9ft_12, (0, 0, 6), tyX12, rfl, Nat.le_of_ble_eq_true rfl, q9uw_12, (q9inT8 173 rfl rfl), rfl, rfl, tyX12_ok, nmX12, q9fitI rfl⟩
set_option maxRecDepth 100000 in
theorem q9fl_X12_561 : q9FLs q9ALLW q9TBL RX12 (561, 12, 99) := ⟨RX12, TX12, 109, q9ft_12, (0, (-2147483648), 2147483647), tyX12, rfl, Nat.le_of_ble_eq_true rfl, q9uw_12, (q9inT8 184 rfl rfl), rfl, rfl, tyX12_ok, nmX12, q9fitI rfl⟩
noncomputable def q9fs_X12 : List (Nat × Nat × Nat) := ((1, 12, 0) :: (13, 12, 2) :: (17, 12, 3) :: (20, 12, 4) :: (23, 12, 5) :: (26, 12, 6) :: (29, 12, 7) :: (32, 12, 8) :: (35, 12, 9) :: (38, 12, 10) :: (41, 12, 11) :: (44, 12, 20) :: (47, 12, 21) :: (50, 12, 22) :: (53, 12, 23) :: (56, 12, 24) :: (59, 12, 25) :: (62, 12, 26) :: (65, 12, 27) :: (68, 12, 28) :: (71, 12, 29) :: (74, 12, 30) :: (77, 12, 31) :: (80, 12, 32) :: (83, 12, 33) :: (87, 12, 39) :: (92, 12, 40) :: (95, 12, 41) :: (98, 12, 42) :: (101, 12, 43) :: (104, 12, 44) :: (107, 12, 45) :: (110, 12, 46) :: (113, 12, 47) :: (116, 12, 48) :: (119, 12, 49) :: (122, 12, 50) :: (126, 12, 54) :: (129, 12, 55) :: (132, 12, 56) :: (135, 12, 57) :: (138, 12, 58) :: (141, 12, 59) :: (144, 12, 60) :: (147, 12, 61) :: (150, 12, 62) :: (153, 12, 63) :: (156, 12, 64) :: (159, 12, 65) :: (162, 12, 70) :: (165, 12, 71) :: (168, 12, 72) :: (171, 12, 73) :: (174, 12, 74) :: (177, 12, 75) :: (180, 12, 76) :: (183, 12, 77) :: (186, 12, 79) :: (189, 12, 80) :: (192, 12, 81) :: (195, 12, 84) :: (198, 12, 85) :: (201, 12, 86) :: (204, 12, 87) :: (207, 12, 89) :: (210, 12, 90) :: (213, 12, 91) :: (216, 12, 92) :: (219, 12, 93) :: [(222, 12, 94), (225, 12, 95), (228, 12, 96), (231, 12, 97), (234, 12, 98), (237, 12, 100), (240, 12, 101), (243, 12, 102), (246, 12, 103), (249, 12, 104), (252, 12, 105), (255, 12, 106), (258, 12, 107), (261, 12, 108), (264, 12, 1), (279, 12, 12), (282, 12, 15), (285, 12, 16), (288, 12, 14), (291, 12, 13), (325, 12, 34), (332, 12, 18), (348, 12, 35), (351, 12, 19), (368, 12, 17), (389, 12, 36), (393, 12, 37), (398, 12, 38), (401, 12, 51), (407, 12, 52), (410, 12, 53), (486, 12, 66), (489, 12, 67), (492, 12, 68), (495, 12, 69), (504, 12, 78), (513, 12, 82), (516, 12, 83), (525, 12, 88), (561, 12, 99)])
set_option maxRecDepth 100000 in
theorem q9fs_X12_ok : ∀ q ∈ q9fs_X12, q9FLs q9ALLW q9TBL RX12 q := (List.forall_mem_cons.mpr ⟨q9fl_X12_1, (List.forall_mem_cons.mpr ⟨q9fl_X12_13, (List.forall_mem_cons.mpr ⟨q9fl_X12_17, (List.forall_mem_cons.mpr ⟨q9fl_X12_20, (List.forall_mem_cons.mpr ⟨q9fl_X12_23, (List.forall_mem_cons.mpr ⟨q9fl_X12_26, (List.forall_mem_cons.mpr ⟨q9fl_X12_29, (List.forall_mem_cons.mpr ⟨q9fl_X12_32, (List.forall_mem_cons.mpr ⟨q9fl_X12_35, (List.forall_mem_cons.mpr ⟨q9fl_X12_38, (List.forall_mem_cons.mpr ⟨q9fl_X12_41, (List.forall_mem_cons.mpr ⟨q9fl_X12_44, (List.forall_mem_cons.mpr ⟨q9fl_X12_47, (List.forall_mem_cons.mpr ⟨q9fl_X12_50, (List.forall_mem_cons.mpr ⟨q9fl_X12_53, (List.forall_mem_cons.mpr ⟨q9fl_X12_56, (List.forall_mem_cons.mpr ⟨q9fl_X12_59, (List.forall_mem_cons.mpr ⟨q9fl_X12_62, (List.forall_mem_cons.mpr ⟨q9fl_X12_65, (List.forall_mem_cons.mpr ⟨q9fl_X12_68, (List.forall_mem_cons.mpr ⟨q9fl_X12_71, (List.forall_mem_cons.mpr ⟨q9fl_X12_74, (List.forall_mem_cons.mpr ⟨q9fl_X12_77, (List.forall_mem_cons.mpr ⟨q9fl_X12_80, (List.forall_mem_cons.mpr ⟨q9fl_X12_83, (List.forall_mem_cons.mpr ⟨q9fl_X12_87, (List.forall_mem_cons.mpr ⟨q9fl_X12_92, (List.forall_mem_cons.mpr ⟨q9fl_X12_95, (List.forall_mem_cons.mpr ⟨q9fl_X12_98, (List.forall_mem_cons.mpr ⟨q9fl_X12_101, (List.forall_mem_cons.mpr ⟨q9fl_X12_104, (List.forall_mem_cons.mpr ⟨q9fl_X12_107, (List.forall_mem_cons.mpr ⟨q9fl_X12_110, (List.forall_mem_cons.mpr ⟨q9fl_X12_113, (List.forall_mem_cons.mpr ⟨q9fl_X12_116, (List.forall_mem_cons.mpr ⟨q9fl_X12_119, (List.forall_mem_cons.mpr ⟨q9fl_X12_122, (List.forall_mem_cons.mpr ⟨q9fl_X12_126, (List.forall_mem_cons.mpr ⟨q9fl_X12_129, (List.forall_mem_cons.mpr ⟨q9fl_X12_132, (List.forall_mem_cons.mpr ⟨q9fl_X12_135, (List.forall_mem_cons.mpr ⟨q9fl_X12_138, (List.forall_mem_cons.mpr ⟨q9fl_X12_141, (List.forall_mem_cons.mpr ⟨q9fl_X12_144, (List.forall_mem_cons.mpr ⟨q9fl_X12_147, (List.forall_mem_cons.mpr ⟨q9fl_X12_150, (List.forall_mem_cons.mpr ⟨q9fl_X12_153, (List.forall_mem_cons.mpr ⟨q9fl_X12_156, (List.forall_mem_cons.mpr ⟨q9fl_X12_159, (List.forall_mem_cons.mpr ⟨q9fl_X12_162, (List.forall_mem_cons.mpr ⟨q9fl_X12_165, (List.forall_mem_cons.mpr ⟨q9fl_X12_168, (List.forall_mem_cons.mpr ⟨q9fl_X12_171, (List.forall_mem_cons.mpr ⟨q9fl_X12_174, (List.forall_mem_cons.mpr ⟨q9fl_X12_177, (List.forall_mem_cons.mpr ⟨q9fl_X12_180, (List.forall_mem_cons.mpr ⟨q9fl_X12_183, (List.forall_mem_cons.mpr ⟨q9fl_X12_186, (List.forall_mem_cons.mpr ⟨q9fl_X12_189, (List.forall_mem_cons.mpr ⟨q9fl_X12_192, (List.forall_mem_cons.mpr ⟨q9fl_X12_195, (List.forall_mem_cons.mpr ⟨q9fl_X12_198, (List.forall_mem_cons.mpr ⟨q9fl_X12_201, (List.forall_mem_cons.mpr ⟨q9fl_X12_204, (List.forall_mem_cons.mpr ⟨q9fl_X12_207, (List.forall_mem_cons.mpr ⟨q9fl_X12_210, (List.forall_mem_cons.mpr ⟨q9fl_X12_213, (List.forall_mem_cons.mpr ⟨q9fl_X12_216, (List.forall_mem_cons.mpr ⟨q9fl_X12_219, (List.forall_mem_cons.mpr ⟨q9fl_X12_222, (List.forall_mem_cons.mpr ⟨q9fl_X12_225, (List.forall_mem_cons.mpr ⟨q9fl_X12_228, (List.forall_mem_cons.mpr ⟨q9fl_X12_231, (List.forall_mem_cons.mpr ⟨q9fl_X12_234, (List.forall_mem_cons.mpr ⟨q9fl_X12_237, (List.forall_mem_cons.mpr ⟨q9fl_X12_240, (List.forall_mem_cons.mpr ⟨q9fl_X12_243, (List.forall_mem_cons.mpr ⟨q9fl_X12_246, (List.forall_mem_cons.mpr ⟨q9fl_X12_249, (List.forall_mem_cons.mpr ⟨q9fl_X12_252, (List.forall_mem_cons.mpr ⟨q9fl_X12_255, (List.forall_mem_cons.mpr ⟨q9fl_X12_258, (List.forall_mem_cons.mpr ⟨q9fl_X12_261, (List.forall_mem_cons.mpr ⟨q9fl_X12_264, (List.forall_mem_cons.mpr ⟨q9fl_X12_279, (List.forall_mem_cons.mpr ⟨q9fl_X12_282, (List.forall_mem_cons.mpr ⟨q9fl_X12_285, (List.forall_mem_cons.mpr ⟨q9fl_X12_288, (List.forall_mem_cons.mpr ⟨q9fl_X12_291, (List.forall_mem_cons.mpr ⟨q9fl_X12_325, (List.forall_mem_cons.mpr ⟨q9fl_X12_332, (List.forall_mem_cons.mpr ⟨q9fl_X12_348, (List.forall_mem_cons.mpr ⟨q9fl_X12_351, (List.forall_mem_cons.mpr ⟨q9fl_X12_368, (List.forall_mem_cons.mpr ⟨q9fl_X12_389, (List.forall_mem_cons.mpr ⟨q9fl_X12_393, (List.forall_mem_cons.mpr ⟨q9fl_X12_398, (List.forall_mem_cons.mpr ⟨q9fl_X12_401, (List.forall_mem_cons.mpr ⟨q9fl_X12_407, (List.forall_mem_cons.mpr ⟨q9fl_X12_410, (List.forall_mem_cons.mpr ⟨q9fl_X12_486, (List.forall_mem_cons.mpr ⟨q9fl_X12_489, (List.forall_mem_cons.mpr ⟨q9fl_X12_492, (List.forall_mem_cons.mpr ⟨q9fl_X12_495, (List.forall_mem_cons.mpr ⟨q9fl_X12_504, (List.forall_mem_cons.mpr ⟨q9fl_X12_513, (List.forall_mem_cons.mpr ⟨q9fl_X12_516, (List.forall_mem_cons.mpr ⟨q9fl_X12_525, (List.forall_mem_cons.mpr ⟨q9fl_X12_561, (fun _ h => absurd h List.not_mem_nil)⟩)⟩)⟩)⟩)⟩)⟩)⟩)⟩)⟩)⟩)⟩)⟩)⟩)⟩)⟩)⟩)⟩)⟩)⟩)⟩)⟩)⟩)⟩)⟩)⟩)⟩)⟩)⟩)⟩)⟩)⟩)⟩)⟩)⟩)⟩)⟩)⟩)⟩)⟩)⟩)⟩)⟩)⟩)⟩)⟩)⟩)⟩)⟩)⟩)⟩)⟩)⟩)⟩)⟩)⟩)⟩)⟩)⟩)⟩)⟩)⟩)⟩)⟩)⟩)⟩)⟩)⟩)⟩)⟩)⟩)⟩)⟩)⟩)⟩)⟩)⟩)⟩)⟩)⟩)⟩)⟩)⟩)⟩)⟩)⟩)⟩)⟩)⟩)⟩)⟩)⟩)⟩)⟩)⟩)⟩)⟩)⟩)⟩)⟩)⟩)⟩)⟩)⟩)⟩)⟩)⟩)⟩)⟩)⟩)
noncomputable def q9ps_X12 : List (Nat × Nat × Nat) := [(1, 12, 0), (44, 12, 20), (264, 12, 1), (279, 12, 12), (282, 12, 15), (285, 12, 16), (288, 12, 14), (291, 12, 13), (325, 12, 34), (332, 12, 18), (348, 12, 35), (351, 12, 19), (368, 12, 17), (389, 12, 36), (393, 12, 37), (398, 12, 38), (401, 12, 51), (407, 12, 52), (410, 12, 53), (486, 12, 66), (489, 12, 67), (492, 12, 68), (495, 12, 69), (504, 12, 78), (513, 12, 82), (516, 12, 83), (525, 12, 88), (561, 12, 99)]
set_option maxRecDepth 100000 in
theorem q9ps_X12_ok : ∀ q ∈ q9ps_X12, q9FLs q9ALLW q9TBL RX12 q ∧ q9FLput q := (List.forall_mem_cons.mpr ⟨⟨q9fl_X12_1, _, rfl, rfl⟩, (List.forall_mem_cons.mpr ⟨⟨q9fl_X12_44, _, rfl, rfl⟩, (List.forall_mem_cons.mpr ⟨⟨q9fl_X12_264, _, rfl, rfl⟩, (List.forall_mem_cons.mpr ⟨⟨q9fl_X12_279, _, rfl, rfl⟩, (List.forall_mem_cons.mpr ⟨⟨q9fl_X12_282, _, rfl, rfl⟩, (List.forall_mem_cons.mpr ⟨⟨q9fl_X12_285, _, rfl, rfl⟩, (List.forall_mem_cons.mpr ⟨⟨q9fl_X12_288, _, rfl, rfl⟩, (List.forall_mem_cons.mpr ⟨⟨q9fl_X12_291, _, rfl, rfl⟩, (List.forall_mem_cons.mpr ⟨⟨q9fl_X12_325, _, rfl, rfl⟩, (List.forall_mem_cons.mpr ⟨⟨q9fl_X12_332, _, rfl, rfl⟩, (List.forall_mem_cons.mpr ⟨⟨q9fl_X12_348, _, rfl, rfl⟩, (List.forall_mem_cons.mpr ⟨⟨q9fl_X12_351, _, rfl, rfl⟩, (List.forall_mem_cons.mpr ⟨⟨q9fl_X12_368, _, rfl, rfl⟩, (List.forall_mem_cons.mpr ⟨⟨q9fl_X12_389, _, rfl, rfl⟩, (List.forall_mem_cons.mpr ⟨⟨q9fl_X12_393, _, rfl, rfl⟩, (List.forall_mem_cons.mpr ⟨⟨q9fl_X12_398, _, rfl, rfl⟩, (List.forall_mem_cons.mpr ⟨⟨q9fl_X12_401, _, rfl, rfl⟩, (List.forall_mem_cons.mpr ⟨⟨q9fl_X12_407, _, rfl, rfl⟩, (List.forall_mem_cons.mpr ⟨⟨q9fl_X12_410, _, rfl, rfl⟩, (List.forall_mem_cons.mpr ⟨⟨q9fl_X12_486, _, rfl, rfl⟩, (List.forall_mem_cons.mpr ⟨⟨q9fl_X12_489, _, rfl, rfl⟩, (List.forall_mem_cons.mpr ⟨⟨q9fl_X12_492, _, rfl, rfl⟩, (List.forall_mem_cons.mpr ⟨⟨q9fl_X12_495, _, rfl, rfl⟩, (List.forall_mem_cons.mpr ⟨⟨q9fl_X12_504, _, rfl, rfl⟩, (List.forall_mem_cons.mpr ⟨⟨q9fl_X12_513, _, rfl, rfl⟩, (List.forall_mem_cons.mpr ⟨⟨q9fl_X12_516, _, rfl, rfl⟩, (List.forall_mem_cons.mpr ⟨⟨q9fl_X12_525, _, rfl, rfl⟩, (List.forall_mem_cons.mpr ⟨⟨q9fl_X12_561, _, rfl, rfl⟩, (fun _ h => absurd h List.not_mem_nil)⟩)⟩)⟩)⟩)⟩)⟩)⟩)⟩)⟩)⟩)⟩)⟩)⟩)⟩)⟩)⟩)⟩)⟩)⟩)⟩)⟩)⟩)⟩)⟩)⟩)⟩)⟩)⟩)
noncomputable def q9fs_L : List (Nat × Nat × Nat) := []
noncomputable def q9ps_L : List (Nat × Nat × Nat) := []
set_option maxRecDepth 100000 in
theorem q9fs_L_ok : ∀ q ∈ q9fs_L, q9FLs q9ALLW q9TBL RL q := fun _ h => absurd h List.not_mem_nil
set_option maxRecDepth 100000 in
theorem q9ps_L_ok : ∀ q ∈ q9ps_L, q9FLs q9ALLW q9TBL RL q ∧ q9FLput q := fun _ h => absurd h List.not_mem_nil
noncomputable def q9fs_J0 : List (Nat × Nat × Nat) := []
noncomputable def q9ps_J0 : List (Nat × Nat × Nat) := []
set_option maxRecDepth 100000 in
theorem q9fs_J0_ok : ∀ q ∈ q9fs_J0, q9FLs q9ALLW q9TBL RJ0 q := fun _ h => absurd h List.not_mem_nil
set_option maxRecDepth 100000 in
theorem q9ps_J0_ok : ∀ q ∈ q9ps_J0, q9FLs q9ALLW q9TBL RJ0 q ∧ q9FLput q := fun _ h => absurd h List.not_mem_nil
noncomputable def q9fs_J1 : List (Nat × Nat × Nat) := []
noncomputable def q9ps_J1 : List (Nat × Nat × Nat) := []
set_option maxRecDepth 100000 in
theorem q9fs_J1_ok : ∀ q ∈ q9fs_J1, q9FLs q9ALLW q9TBL RJ1 q := fun _ h => absurd h List.not_mem_nil
set_option maxRecDepth 100000 in
theorem q9ps_J1_ok : ∀ q ∈ q9ps_J1, q9FLs q9ALLW q9TBL RJ1 q ∧ q9FLput q := fun _ h => absurd h List.not_mem_nil
noncomputable def q9fs_J10 : List (Nat × Nat × Nat) := []
noncomputable def q9ps_J10 : List (Nat × Nat × Nat) := []
set_option maxRecDepth 100000 in
theorem q9fs_J10_ok : ∀ q ∈ q9fs_J10, q9FLs q9ALLW q9TBL RJ10 q := fun _ h => absurd h List.not_mem_nil
set_option maxRecDepth 100000 in
theorem q9ps_J10_ok : ∀ q ∈ q9ps_J10, q9FLs q9ALLW q9TBL RJ10 q ∧ q9FLput q := fun _ h => absurd h List.not_mem_nil
noncomputable def q9fs_J2 : List (Nat × Nat × Nat) := []
noncomputable def q9ps_J2 : List (Nat × Nat × Nat) := []
set_option maxRecDepth 100000 in
theorem q9fs_J2_ok : ∀ q ∈ q9fs_J2, q9FLs q9ALLW q9TBL RJ2 q := fun _ h => absurd h List.not_mem_nil
set_option maxRecDepth 100000 in
theorem q9ps_J2_ok : ∀ q ∈ q9ps_J2, q9FLs q9ALLW q9TBL RJ2 q ∧ q9FLput q := fun _ h => absurd h List.not_mem_nil
noncomputable def q9fs_J3 : List (Nat × Nat × Nat) := []
noncomputable def q9ps_J3 : List (Nat × Nat × Nat) := []
set_option maxRecDepth 100000 in
theorem q9fs_J3_ok : ∀ q ∈ q9fs_J3, q9FLs q9ALLW q9TBL RJ3 q := fun _ h => absurd h List.not_mem_nil
set_option maxRecDepth 100000 in
theorem q9ps_J3_ok : ∀ q ∈ q9ps_J3, q9FLs q9ALLW q9TBL RJ3 q ∧ q9FLput q := fun _ h => absurd h List.not_mem_nil
noncomputable def q9fs_J6 : List (Nat × Nat × Nat) := []
noncomputable def q9ps_J6 : List (Nat × Nat × Nat) := []
set_option maxRecDepth 100000 in
theorem q9fs_J6_ok : ∀ q ∈ q9fs_J6, q9FLs q9ALLW q9TBL RJ6 q := fun _ h => absurd h List.not_mem_nil
set_option maxRecDepth 100000 in
theorem q9ps_J6_ok : ∀ q ∈ q9ps_J6, q9FLs q9ALLW q9TBL RJ6 q ∧ q9FLput q := fun _ h => absurd h List.not_mem_nil
noncomputable def q9fs_J7 : List (Nat × Nat × Nat) := []
noncomputable def q9ps_J7 : List (Nat × Nat × Nat) := []
set_option maxRecDepth 100000 in
theorem q9fs_J7_ok : ∀ q ∈ q9fs_J7, q9FLs q9ALLW q9TBL RJ7 q := fun _ h => absurd h List.not_mem_nil
set_option maxRecDepth 100000 in
theorem q9ps_J7_ok : ∀ q ∈ q9ps_J7, q9FLs q9ALLW q9TBL RJ7 q ∧ q9FLput q := fun _ h => absurd h List.not_mem_nil
noncomputable def q9fs_J9 : List (Nat × Nat × Nat) := []
noncomputable def q9ps_J9 : List (Nat × Nat × Nat) := []
set_option maxRecDepth 100000 in
theorem q9fs_J9_ok : ∀ q ∈ q9fs_J9, q9FLs q9ALLW q9TBL RJ9 q := fun _ h => absurd h List.not_mem_nil
set_option maxRecDepth 100000 in
theorem q9ps_J9_ok : ∀ q ∈ q9ps_J9, q9FLs q9ALLW q9TBL RJ9 q ∧ q9FLput q := fun _ h => absurd h List.not_mem_nil
noncomputable def q9fs_Jx145de : List (Nat × Nat × Nat) := []
noncomputable def q9ps_Jx145de : List (Nat × Nat × Nat) := []
set_option maxRecDepth 100000 in
theorem q9fs_Jx145de_ok : ∀ q ∈ q9fs_Jx145de, q9FLs q9ALLW q9TBL RJx145de q := fun _ h => absurd h List.not_mem_nil
set_option maxRecDepth 100000 in
theorem q9ps_Jx145de_ok : ∀ q ∈ q9ps_Jx145de, q9FLs q9ALLW q9TBL RJx145de q ∧ q9FLput q := fun _ h => absurd h List.not_mem_nil
noncomputable def q9fs_Jx3cf43 : List (Nat × Nat × Nat) := []
noncomputable def q9ps_Jx3cf43 : List (Nat × Nat × Nat) := []
set_option maxRecDepth 100000 in
theorem q9fs_Jx3cf43_ok : ∀ q ∈ q9fs_Jx3cf43, q9FLs q9ALLW q9TBL RJx3cf43 q := fun _ h => absurd h List.not_mem_nil
set_option maxRecDepth 100000 in
theorem q9ps_Jx3cf43_ok : ∀ q ∈ q9ps_Jx3cf43, q9FLs q9ALLW q9TBL RJx3cf43 q ∧ q9FLput q := fun _ h => absurd h List.not_mem_nil
noncomputable def q9fs_Jx9f9b0 : List (Nat × Nat × Nat) := []
noncomputable def q9ps_Jx9f9b0 : List (Nat × Nat × Nat) := []
set_option maxRecDepth 100000 in
theorem q9fs_Jx9f9b0_ok : ∀ q ∈ q9fs_Jx9f9b0, q9FLs q9ALLW q9TBL RJx9f9b0 q := fun _ h => absurd h List.not_mem_nil
set_option maxRecDepth 100000 in
theorem q9ps_Jx9f9b0_ok : ∀ q ∈ q9ps_Jx9f9b0, q9FLs q9ALLW q9TBL RJx9f9b0 q ∧ q9FLput q := fun _ h => absurd h List.not_mem_nil
noncomputable def q9fs_Jxb160c : List (Nat × Nat × Nat) := []
noncomputable def q9ps_Jxb160c : List (Nat × Nat × Nat) := []
set_option maxRecDepth 100000 in
theorem q9fs_Jxb160c_ok : ∀ q ∈ q9fs_Jxb160c, q9FLs q9ALLW q9TBL RJxb160c q := fun _ h => absurd h List.not_mem_nil
set_option maxRecDepth 100000 in
theorem q9ps_Jxb160c_ok : ∀ q ∈ q9ps_Jxb160c, q9FLs q9ALLW q9TBL RJxb160c q ∧ q9FLput q := fun _ h => absurd h List.not_mem_nil
noncomputable def q9fs_Jxfd54e : List (Nat × Nat × Nat) := []
noncomputable def q9ps_Jxfd54e : List (Nat × Nat × Nat) := []
set_option maxRecDepth 100000 in
theorem q9fs_Jxfd54e_ok : ∀ q ∈ q9fs_Jxfd54e, q9FLs q9ALLW q9TBL RJxfd54e q := fun _ h => absurd h List.not_mem_nil
set_option maxRecDepth 100000 in
theorem q9ps_Jxfd54e_ok : ∀ q ∈ q9ps_Jxfd54e, q9FLs q9ALLW q9TBL RJxfd54e q ∧ q9FLput q := fun _ h => absurd h List.not_mem_nil
set_option maxRecDepth 100000 in
theorem q9kas_ok : ∀ k ∈ q9KAS, k.1 < 7 ∧ (4 ≤ k.1 → ∃ rc : vw_C, vwCl[k.2.2.2.2.1.toNat]? = some rc ∧ ∀ cT : Nat → ClassId, (TY cT)[k.1]? = some (cT k.1, .object rc.1)) := (List.forall_mem_cons.mpr ⟨⟨Nat.le_of_ble_eq_true rfl, fun h => absurd h (by decide)⟩, (List.forall_mem_cons.mpr ⟨⟨Nat.le_of_ble_eq_true rfl, fun h => absurd h (by decide)⟩, (List.forall_mem_cons.mpr ⟨⟨Nat.le_of_ble_eq_true rfl, fun h => absurd h (by decide)⟩, (List.forall_mem_cons.mpr ⟨⟨Nat.le_of_ble_eq_true rfl, fun h => absurd h (by decide)⟩, (List.forall_mem_cons.mpr ⟨⟨Nat.le_of_ble_eq_true rfl, fun h => absurd h (by decide)⟩, (List.forall_mem_cons.mpr ⟨⟨Nat.le_of_ble_eq_true rfl, fun h => absurd h (by decide)⟩, (List.forall_mem_cons.mpr ⟨⟨Nat.le_of_ble_eq_true rfl, fun h => absurd h (by decide)⟩, (List.forall_mem_cons.mpr ⟨⟨Nat.le_of_ble_eq_true rfl, fun h => absurd h (by decide)⟩, (List.forall_mem_cons.mpr ⟨⟨Nat.le_of_ble_eq_true rfl, fun h => absurd h (by decide)⟩, (List.forall_mem_cons.mpr ⟨⟨Nat.le_of_ble_eq_true rfl, fun h => absurd h (by decide)⟩, (List.forall_mem_cons.mpr ⟨⟨Nat.le_of_ble_eq_true rfl, fun h => absurd h (by decide)⟩, (List.forall_mem_cons.mpr ⟨⟨Nat.le_of_ble_eq_true rfl, fun h => absurd h (by decide)⟩, (List.forall_mem_cons.mpr ⟨⟨Nat.le_of_ble_eq_true rfl, fun h => absurd h (by decide)⟩, (List.forall_mem_cons.mpr ⟨⟨Nat.le_of_ble_eq_true rfl, fun h => absurd h (by decide)⟩, (List.forall_mem_cons.mpr ⟨⟨Nat.le_of_ble_eq_true rfl, fun h => absurd h (by decide)⟩, (List.forall_mem_cons.mpr ⟨⟨Nat.le_of_ble_eq_true rfl, fun h => absurd h (by decide)⟩, (List.forall_mem_cons.mpr ⟨⟨Nat.le_of_ble_eq_true rfl, fun h => absurd h (by decide)⟩, (List.forall_mem_cons.mpr ⟨⟨Nat.le_of_ble_eq_true rfl, fun h => absurd h (by decide)⟩, (List.forall_mem_cons.mpr ⟨⟨Nat.le_of_ble_eq_true rfl, fun h => absurd h (by decide)⟩, (List.forall_mem_cons.mpr ⟨⟨Nat.le_of_ble_eq_true rfl, fun h => absurd h (by decide)⟩, (List.forall_mem_cons.mpr ⟨⟨Nat.le_of_ble_eq_true rfl, fun h => absurd h (by decide)⟩, (List.forall_mem_cons.mpr ⟨⟨Nat.le_of_ble_eq_true rfl, fun h => absurd h (by decide)⟩, (List.forall_mem_cons.mpr ⟨⟨Nat.le_of_ble_eq_true rfl, fun h => absurd h (by decide)⟩, (List.forall_mem_cons.mpr ⟨⟨Nat.le_of_ble_eq_true rfl, fun h => absurd h (by decide)⟩, (List.forall_mem_cons.mpr ⟨⟨Nat.le_of_ble_eq_true rfl, fun h => absurd h (by decide)⟩, (List.forall_mem_cons.mpr ⟨⟨Nat.le_of_ble_eq_true rfl, fun h => absurd h (by decide)⟩, (List.forall_mem_cons.mpr ⟨⟨Nat.le_of_ble_eq_true rfl, fun h => absurd h (by decide)⟩, (List.forall_mem_cons.mpr ⟨⟨Nat.le_of_ble_eq_true rfl, fun h => absurd h (by decide)⟩, (List.forall_mem_cons.mpr ⟨⟨Nat.le_of_ble_eq_true rfl, fun h => absurd h (by decide)⟩, (List.forall_mem_cons.mpr ⟨⟨Nat.le_of_ble_eq_true rfl, fun h => absurd h (by decide)⟩, (List.forall_mem_cons.mpr ⟨⟨Nat.le_of_ble_eq_true rfl, fun h => absurd h (by decide)⟩, (List.forall_mem_cons.mpr ⟨⟨Nat.le_of_ble_eq_true rfl, fun h => absurd h (by decide)⟩, (List.forall_mem_cons.mpr ⟨⟨Nat.le_of_ble_eq_true rfl, fun h => absurd h (by decide)⟩, (List.forall_mem_cons.mpr ⟨⟨Nat.le_of_ble_eq_true rfl, fun h => absurd h (by decide)⟩, (List.forall_mem_cons.mpr ⟨⟨Nat.le_of_ble_eq_true rfl, fun h => absurd h (by decide)⟩, (List.forall_mem_cons.mpr ⟨⟨Nat.le_of_ble_eq_true rfl, fun h => absurd h (by decide)⟩, (List.forall_mem_cons.mpr ⟨⟨Nat.le_of_ble_eq_true rfl, fun _ => ⟨_, rfl, fun _ => rfl⟩⟩, (List.forall_mem_cons.mpr ⟨⟨Nat.le_of_ble_eq_true rfl, fun h => absurd h (by decide)⟩, (List.forall_mem_cons.mpr ⟨⟨Nat.le_of_ble_eq_true rfl, fun h => absurd h (by decide)⟩, (List.forall_mem_cons.mpr ⟨⟨Nat.le_of_ble_eq_true rfl, fun h => absurd h (by decide)⟩, (List.forall_mem_cons.mpr ⟨⟨Nat.le_of_ble_eq_true rfl, fun h => absurd h (by decide)⟩, (List.forall_mem_cons.mpr ⟨⟨Nat.le_of_ble_eq_true rfl, fun h => absurd h (by decide)⟩, (List.forall_mem_cons.mpr ⟨⟨Nat.le_of_ble_eq_true rfl, fun h => absurd h (by decide)⟩, (List.forall_mem_cons.mpr ⟨⟨Nat.le_of_ble_eq_true rfl, fun h => absurd h (by decide)⟩, (List.forall_mem_cons.mpr ⟨⟨Nat.le_of_ble_eq_true rfl, fun h => absurd h (by decide)⟩, (List.forall_mem_cons.mpr ⟨⟨Nat.le_of_ble_eq_true rfl, fun h => absurd h (by decide)⟩, (List.forall_mem_cons.mpr ⟨⟨Nat.le_of_ble_eq_true rfl, fun h => absurd h (by decide)⟩, (List.forall_mem_cons.mpr ⟨⟨Nat.le_of_ble_eq_true rfl, fun h => absurd h (by decide)⟩, (List.forall_mem_cons.mpr ⟨⟨Nat.le_of_ble_eq_true rfl, fun h => absurd h (by decide)⟩, (List.forall_mem_cons.mpr ⟨⟨Nat.le_of_ble_eq_true rfl, fun h => absurd h (by decide)⟩, (List.forall_mem_cons.mpr ⟨⟨Nat.le_of_ble_eq_true rfl, fun h => absurd h (by decide)⟩, (List.forall_mem_cons.mpr ⟨⟨Nat.le_of_ble_eq_true rfl, fun h => absurd h (by decide)⟩, (List.forall_mem_cons.mpr ⟨⟨Nat.le_of_ble_eq_true rfl, fun _ => ⟨_, rfl, fun _ => rfl⟩⟩, (List.forall_mem_cons.mpr ⟨⟨Nat.le_of_ble_eq_true rfl, fun _ => ⟨_, rfl, fun _ => rfl⟩⟩, (List.forall_mem_cons.mpr ⟨⟨Nat.le_of_ble_eq_true rfl, fun h => absurd h (by decide)⟩, (List.forall_mem_cons.mpr ⟨⟨Nat.le_of_ble_eq_true rfl, fun h => absurd h (by decide)⟩, (List.forall_mem_cons.mpr ⟨⟨Nat.le_of_ble_eq_true rfl, fun h => absurd h (by decide)⟩, (List.forall_mem_cons.mpr ⟨⟨Nat.le_of_ble_eq_true rfl, fun h => absurd h (by decide)⟩, (List.forall_mem_cons.mpr ⟨⟨Nat.le_of_ble_eq_true rfl, fun h => absurd h (by decide)⟩, (List.forall_mem_cons.mpr ⟨⟨Nat.le_of_ble_eq_true rfl, fun h => absurd h (by decide)⟩, (List.forall_mem_cons.mpr ⟨⟨Nat.le_of_ble_eq_true rfl, fun h => absurd h (by decide)⟩, (List.forall_mem_cons.mpr ⟨⟨Nat.le_of_ble_eq_true rfl, fun h => absurd h (by decide)⟩, (List.forall_mem_cons.mpr ⟨⟨Nat.le_of_ble_eq_true rfl, fun h => absurd h (by decide)⟩, (List.forall_mem_cons.mpr ⟨⟨Nat.le_of_ble_eq_true rfl, fun h => absurd h (by decide)⟩, (List.forall_mem_cons.mpr ⟨⟨Nat.le_of_ble_eq_true rfl, fun h => absurd h (by decide)⟩, (List.forall_mem_cons.mpr ⟨⟨Nat.le_of_ble_eq_true rfl, fun h => absurd h (by decide)⟩, (List.forall_mem_cons.mpr ⟨⟨Nat.le_of_ble_eq_true rfl, fun h => absurd h (by decide)⟩, (List.forall_mem_cons.mpr ⟨⟨Nat.le_of_ble_eq_true rfl, fun h => absurd h (by decide)⟩, (List.forall_mem_cons.mpr ⟨⟨Nat.le_of_ble_eq_true rfl, fun h => absurd h (by decide)⟩, (List.forall_mem_cons.mpr ⟨⟨Nat.le_of_ble_eq_true rfl, fun h => absurd h (by decide)⟩, (List.forall_mem_cons.mpr ⟨⟨Nat.le_of_ble_eq_true rfl, fun h => absurd h (by decide)⟩, (List.forall_mem_cons.mpr ⟨⟨Nat.le_of_ble_eq_true rfl, fun h => absurd h (by decide)⟩, (List.forall_mem_cons.mpr ⟨⟨Nat.le_of_ble_eq_true rfl, fun h => absurd h (by decide)⟩, (List.forall_mem_cons.mpr ⟨⟨Nat.le_of_ble_eq_true rfl, fun h => absurd h (by decide)⟩, (List.forall_mem_cons.mpr ⟨⟨Nat.le_of_ble_eq_true rfl, fun h => absurd h (by decide)⟩, (List.forall_mem_cons.mpr ⟨⟨Nat.le_of_ble_eq_true rfl, fun h => absurd h (by decide)⟩, (List.forall_mem_cons.mpr ⟨⟨Nat.le_of_ble_eq_true rfl, fun h => absurd h (by decide)⟩, (List.forall_mem_cons.mpr ⟨⟨Nat.le_of_ble_eq_true rfl, fun h => absurd h (by decide)⟩, (List.forall_mem_cons.mpr ⟨⟨Nat.le_of_ble_eq_true rfl, fun h => absurd h (by decide)⟩, (List.forall_mem_cons.mpr ⟨⟨Nat.le_of_ble_eq_true rfl, fun h => absurd h (by decide)⟩, (List.forall_mem_cons.mpr ⟨⟨Nat.le_of_ble_eq_true rfl, fun h => absurd h (by decide)⟩, (List.forall_mem_cons.mpr ⟨⟨Nat.le_of_ble_eq_true rfl, fun h => absurd h (by decide)⟩, (List.forall_mem_cons.mpr ⟨⟨Nat.le_of_ble_eq_true rfl, fun h => absurd h (by decide)⟩, (List.forall_mem_cons.mpr ⟨⟨Nat.le_of_ble_eq_true rfl, fun h => absurd h (by decide)⟩, (List.forall_mem_cons.mpr ⟨⟨Nat.le_of_ble_eq_true rfl, fun h => absurd h (by decide)⟩, (List.forall_mem_cons.mpr ⟨⟨Nat.le_of_ble_eq_true rfl, fun h => absurd h (by decide)⟩, (List.forall_mem_cons.mpr ⟨⟨Nat.le_of_ble_eq_true rfl, fun h => absurd h (by decide)⟩, (List.forall_mem_cons.mpr ⟨⟨Nat.le_of_ble_eq_true rfl, fun h => absurd h (by decide)⟩, (List.forall_mem_cons.mpr ⟨⟨Nat.le_of_ble_eq_true rfl, fun h => absurd h (by decide)⟩, (List.forall_mem_cons.mpr ⟨⟨Nat.le_of_ble_eq_true rfl, fun h => absurd h (by decide)⟩, (List.forall_mem_cons.mpr ⟨⟨Nat.le_of_ble_eq_true rfl, fun h => absurd h (by decide)⟩, (List.forall_mem_cons.mpr ⟨⟨Nat.le_of_ble_eq_true rfl, fun h => absurd h (by decide)⟩, (List.forall_mem_cons.mpr ⟨⟨Nat.le_of_ble_eq_true rfl, fun h => absurd h (by decide)⟩, (List.forall_mem_cons.mpr ⟨⟨Nat.le_of_ble_eq_true rfl, fun h => absurd h (by decide)⟩, (List.forall_mem_cons.mpr ⟨⟨Nat.le_of_ble_eq_true rfl, fun h => absurd h (by decide)⟩, (List.forall_mem_cons.mpr ⟨⟨Nat.le_of_ble_eq_true rfl, fun h => absurd h (by decide)⟩, (List.forall_mem_cons.mpr ⟨⟨Nat.le_of_ble_eq_true rfl, fun h => absurd h (by decide)⟩, (List.forall_mem_cons.mpr ⟨⟨Nat.le_of_ble_eq_true rfl, fun h => absurd h (by decide)⟩, (List.forall_mem_cons.mpr ⟨⟨Nat.le_of_ble_eq_true rfl, fun h => absurd h (by decide)⟩, (List.forall_mem_cons.mpr ⟨⟨Nat.le_of_ble_eq_true rfl, fun h => absurd h (by decide)⟩, (List.forall_mem_cons.mpr ⟨⟨Nat.le_of_ble_eq_true rfl, fun h => absurd h (by decide)⟩, (List.forall_mem_cons.mpr ⟨⟨Nat.le_of_ble_eq_true rfl, fun h => absurd h (by decide)⟩, (List.forall_mem_cons.mpr ⟨⟨Nat.le_of_ble_eq_true rfl, fun h => absurd h (by decide)⟩, (List.forall_mem_cons.mpr ⟨⟨Nat.le_of_ble_eq_true rfl, fun h => absurd h (by decide)⟩, (List.forall_mem_cons.mpr ⟨⟨Nat.le_of_ble_eq_true rfl, fun h => absurd h (by decide)⟩, (List.forall_mem_cons.mpr ⟨⟨Nat.le_of_ble_eq_true rfl, fun h => absurd h (by decide)⟩, (List.forall_mem_cons.mpr ⟨⟨Nat.le_of_ble_eq_true rfl, fun h => absurd h (by decide)⟩, (List.forall_mem_cons.mpr ⟨⟨Nat.le_of_ble_eq_true rfl, fun h => absurd h (by decide)⟩, (List.forall_mem_cons.mpr ⟨⟨Nat.le_of_ble_eq_true rfl, fun h => absurd h (by decide)⟩, (List.forall_mem_cons.mpr ⟨⟨Nat.le_of_ble_eq_true rfl, fun h => absurd h (by decide)⟩, (List.forall_mem_cons.mpr ⟨⟨Nat.le_of_ble_eq_true rfl, fun h => absurd h (by decide)⟩, (List.forall_mem_cons.mpr ⟨⟨Nat.le_of_ble_eq_true rfl, fun h => absurd h (by decide)⟩, (List.forall_mem_cons.mpr ⟨⟨Nat.le_of_ble_eq_true rfl, fun h => absurd h (by decide)⟩, (List.forall_mem_cons.mpr ⟨⟨Nat.le_of_ble_eq_true rfl, fun h => absurd h (by decide)⟩, (List.forall_mem_cons.mpr ⟨⟨Nat.le_of_ble_eq_true rfl, fun h => absurd h (by decide)⟩, (List.forall_mem_cons.mpr ⟨⟨Nat.le_of_ble_eq_true rfl, fun h => absurd h (by decide)⟩, (List.forall_mem_cons.mpr ⟨⟨Nat.le_of_ble_eq_true rfl, fun h => absurd h (by decide)⟩, (List.forall_mem_cons.mpr ⟨⟨Nat.le_of_ble_eq_true rfl, fun h => absurd h (by decide)⟩, (List.forall_mem_cons.mpr ⟨⟨Nat.le_of_ble_eq_true rfl, fun h => absurd h (by decide)⟩, (List.forall_mem_cons.mpr ⟨⟨Nat.le_of_ble_eq_true rfl, fun h => absurd h (by decide)⟩, (List.forall_mem_cons.mpr ⟨⟨Nat.le_of_ble_eq_true rfl, fun h => absurd h (by decide)⟩, (List.forall_mem_cons.mpr ⟨⟨Nat.le_of_ble_eq_true rfl, fun h => absurd h (by decide)⟩, (List.forall_mem_cons.mpr ⟨⟨Nat.le_of_ble_eq_true rfl, fun h => absurd h (by decide)⟩, (List.forall_mem_cons.mpr ⟨⟨Nat.le_of_ble_eq_true rfl, fun h => absurd h (by decide)⟩, (List.forall_mem_cons.mpr ⟨⟨Nat.le_of_ble_eq_true rfl, fun h => absurd h (by decide)⟩, (List.forall_mem_cons.mpr ⟨⟨Nat.le_of_ble_eq_true rfl, fun h => absurd h (by decide)⟩, (List.forall_mem_cons.mpr ⟨⟨Nat.le_of_ble_eq_true rfl, fun h => absurd h (by decide)⟩, (List.forall_mem_cons.mpr ⟨⟨Nat.le_of_ble_eq_true rfl, fun h => absurd h (by decide)⟩, (List.forall_mem_cons.mpr ⟨⟨Nat.le_of_ble_eq_true rfl, fun h => absurd h (by decide)⟩, (List.forall_mem_cons.mpr ⟨⟨Nat.le_of_ble_eq_true rfl, fun h => absurd h (by decide)⟩, (List.forall_mem_cons.mpr ⟨⟨Nat.le_of_ble_eq_true rfl, fun h => absurd h (by decide)⟩, (List.forall_mem_cons.mpr ⟨⟨Nat.le_of_ble_eq_true rfl, fun h => absurd h (by decide)⟩, (List.forall_mem_cons.mpr ⟨⟨Nat.le_of_ble_eq_true rfl, fun h => absurd h (by decide)⟩, (List.forall_mem_cons.mpr ⟨⟨Nat.le_of_ble_eq_true rfl, fun h => absurd h (by decide)⟩, (List.forall_mem_cons.mpr ⟨⟨Nat.le_of_ble_eq_true rfl, fun h => absurd h (by decide)⟩, (List.forall_mem_cons.mpr ⟨⟨Nat.le_of_ble_eq_true rfl, fun h => absurd h (by decide)⟩, (List.forall_mem_cons.mpr ⟨⟨Nat.le_of_ble_eq_true rfl, fun h => absurd h (by decide)⟩, (List.forall_mem_cons.mpr ⟨⟨Nat.le_of_ble_eq_true rfl, fun h => absurd h (by decide)⟩, (List.forall_mem_cons.mpr ⟨⟨Nat.le_of_ble_eq_true rfl, fun h => absurd h (by decide)⟩, (List.forall_mem_cons.mpr ⟨⟨Nat.le_of_ble_eq_true rfl, fun h => absurd h (by decide)⟩, (List.forall_mem_cons.mpr ⟨⟨Nat.le_of_ble_eq_true rfl, fun h => absurd h (by decide)⟩, (List.forall_mem_cons.mpr ⟨⟨Nat.le_of_ble_eq_true rfl, fun h => absurd h (by decide)⟩, (List.forall_mem_cons.mpr ⟨⟨Nat.le_of_ble_eq_true rfl, fun h => absurd h (by decide)⟩, (List.forall_mem_cons.mpr ⟨⟨Nat.le_of_ble_eq_true rfl, fun h => absurd h (by decide)⟩, (List.forall_mem_cons.mpr ⟨⟨Nat.le_of_ble_eq_true rfl, fun h => absurd h (by decide)⟩, (List.forall_mem_cons.mpr ⟨⟨Nat.le_of_ble_eq_true rfl, fun h => absurd h (by decide)⟩, (List.forall_mem_cons.mpr ⟨⟨Nat.le_of_ble_eq_true rfl, fun h => absurd h (by decide)⟩, (List.forall_mem_cons.mpr ⟨⟨Nat.le_of_ble_eq_true rfl, fun h => absurd h (by decide)⟩, (List.forall_mem_cons.mpr ⟨⟨Nat.le_of_ble_eq_true rfl, fun h => absurd h (by decide)⟩, (List.forall_mem_cons.mpr ⟨⟨Nat.le_of_ble_eq_true rfl, fun h => absurd h (by decide)⟩, (List.forall_mem_cons.mpr ⟨⟨Nat.le_of_ble_eq_true rfl, fun _ => ⟨_, rfl, fun _ => rfl⟩⟩, (List.forall_mem_cons.mpr ⟨⟨Nat.le_of_ble_eq_true rfl, fun h => absurd h (by decide)⟩, (List.forall_mem_cons.mpr ⟨⟨Nat.le_of_ble_eq_true rfl, fun h => absurd h (by decide)⟩, (List.forall_mem_cons.mpr ⟨⟨Nat.le_of_ble_eq_true rfl, fun h => absurd h (by decide)⟩, (List.forall_mem_cons.mpr ⟨⟨Nat.le_of_ble_eq_true rfl, fun h => absurd h (by decide)⟩, (List.forall_mem_cons.mpr ⟨⟨Nat.le_of_ble_eq_true rfl, fun h => absurd h (by decide)⟩, (List.forall_mem_cons.mpr ⟨⟨Nat.le_of_ble_eq_true rfl, fun h => absurd h (by decide)⟩, (List.forall_mem_cons.mpr ⟨⟨Nat.le_of_ble_eq_true rfl, fun h => absurd h (by decide)⟩, (List.forall_mem_cons.mpr ⟨⟨Nat.le_of_ble_eq_true rfl, fun h => absurd h (by decide)⟩, (List.forall_mem_cons.mpr ⟨⟨Nat.le_of_ble_eq_true rfl, fun h => absurd h (by decide)⟩, (List.forall_mem_cons.mpr ⟨⟨Nat.le_of_ble_eq_true rfl, fun h => absurd h (by decide)⟩, (List.forall_mem_cons.mpr ⟨⟨Nat.le_of_ble_eq_true rfl, fun h => absurd h (by decide)⟩, (List.forall_mem_cons.mpr ⟨⟨Nat.le_of_ble_eq_true rfl, fun h => absurd h (by decide)⟩, (List.forall_mem_cons.mpr ⟨⟨Nat.le_of_ble_eq_true rfl, fun h => absurd h (by decide)⟩, (List.forall_mem_cons.mpr ⟨⟨Nat.le_of_ble_eq_true rfl, fun h => absurd h (by decide)⟩, (List.forall_mem_cons.mpr ⟨⟨Nat.le_of_ble_eq_true rfl, fun h => absurd h (by decide)⟩, (fun _ h => absurd h List.not_mem_nil)⟩)⟩)⟩)⟩)⟩)⟩)⟩)⟩)⟩)⟩)⟩)⟩)⟩)⟩)⟩)⟩)⟩)⟩)⟩)⟩)⟩)⟩)⟩)⟩)⟩)⟩)⟩)⟩)⟩)⟩)⟩)⟩)⟩)⟩)⟩)⟩)⟩)⟩)⟩)⟩)⟩)⟩)⟩)⟩)⟩)⟩)⟩)⟩)⟩)⟩)⟩)⟩)⟩)⟩)⟩)⟩)⟩)⟩)⟩)⟩)⟩)⟩)⟩)⟩)⟩)⟩)⟩)⟩)⟩)⟩)⟩)⟩)⟩)⟩)⟩)⟩)⟩)⟩)⟩)⟩)⟩)⟩)⟩)⟩)⟩)⟩)⟩)⟩)⟩)⟩)⟩)⟩)⟩)⟩)⟩)⟩)⟩)⟩)⟩)⟩)⟩)⟩)⟩)⟩)⟩)⟩)⟩)⟩)⟩)⟩)⟩)⟩)⟩)⟩)⟩)⟩)⟩)⟩)⟩)⟩)⟩)⟩)⟩)⟩)⟩)⟩)⟩)⟩)⟩)⟩)⟩)⟩)⟩)⟩)⟩)⟩)⟩)⟩)⟩)⟩)⟩)⟩)⟩)⟩)⟩)⟩)⟩)⟩)⟩)⟩)⟩)⟩)⟩)⟩)⟩)⟩)⟩)⟩)⟩)⟩)⟩)⟩)⟩)⟩)⟩)⟩)
