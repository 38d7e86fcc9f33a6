set_option maxRecDepth 20000 in
theorem ggX1_init_J7_fill_53178 : GoodIn wsX1_init wsJ7_fill_53178 := goodIn_r _ [21] (by decide +kernel) (by decide +kernel)
set_option maxRecDepth 20000 in
theorem gX1_init_J7_fill_53178 : GoodIn wsX1_init (va_wsS RX1 53 yJ7_fill_53178 wsJ7_fill_53178) := goodIn_app (goodIn_of _ (by decide +kernel)) ggX1_init_J7_fill_53178
set_option maxRecDepth 20000 in
theorem ggX1_onIn_X11_entry : GoodIn wsX1_onIn wsX11_entry := goodIn_r _ [4] (by decide +kernel) (by decide +kernel)
set_option maxRecDepth 20000 in
theorem gX1_onIn_X11_entry_n78 : GoodIn wsX1_onIn (wsX11_entry) := ggX1_onIn_X11_entry
set_option maxRecDepth 20000 in
theorem ggX1_queuedIn_X11_entry : GoodIn wsX1_queuedIn wsX11_entry := goodIn_r _ [4] (by decide +kernel) (by decide +kernel)
set_option maxRecDepth 20000 in
theorem gX1_queuedIn_X11_entry_n78 : GoodIn wsX1_queuedIn (wsX11_entry) := ggX1_queuedIn_X11_entry
set_option maxRecDepth 20000 in
theorem ggX1_firstIn_X1_queuedIn : GoodIn wsX1_firstIn wsX1_queuedIn := goodIn_r _ [5, 6, 7, 8, 9, 17, 18, 19, 20, 21, 22, 23, 24, 25, 26, 27, 28, 29, 30, 31, 32, 33, 34] (by decide +kernel) (by decide +kernel)
set_option maxRecDepth 20000 in
theorem gX1_firstIn_X1_queuedIn : GoodIn wsX1_firstIn (wsV RX1 82 RX1 yX1_queuedIn wsX1_queuedIn) := goodIn_app (goodIn_of _ (by decide +kernel)) ggX1_firstIn_X1_queuedIn
set_option maxRecDepth 20000 in
theorem ggX1_standsIn_X11_entry : GoodIn wsX1_standsIn wsX11_entry := goodIn_r _ [4] (by decide +kernel) (by decide +kernel)
set_option maxRecDepth 20000 in
theorem gX1_standsIn_X11_entry_n78 : GoodIn wsX1_standsIn (wsX11_entry) := ggX1_standsIn_X11_entry
set_option maxRecDepth 20000 in
theorem ggX1_dressedIn_X1_onIn : GoodIn wsX1_dressedIn wsX1_onIn := goodIn_r _ [9, 10, 11, 12, 13, 20, 21, 22, 23, 24, 25, 26, 27, 28, 29, 30, 31, 32, 33, 34, 35, 36, 37] (by decide +kernel) (by decide +kernel)
set_option maxRecDepth 20000 in
theorem gX1_dressedIn_X1_onIn : GoodIn wsX1_dressedIn (wsV RX1 90 RX1 yX1_onIn wsX1_onIn) := goodIn_app (goodIn_of _ (by decide +kernel)) ggX1_dressedIn_X1_onIn
set_option maxRecDepth 20000 in
theorem ggX1_dressedIn_X8_shotAt : GoodIn wsX1_dressedIn wsX8_shotAt := goodIn_r _ [18, 19, 53, 54, 55, 56, 57, 58, 59] (by decide +kernel) (by decide +kernel)
set_option maxRecDepth 20000 in
theorem gX1_dressedIn_X8_shotAt : GoodIn wsX1_dressedIn (wsV RX1 93 RX8 yX8_shotAt wsX8_shotAt) := goodIn_app (goodIn_of _ (by decide +kernel)) ggX1_dressedIn_X8_shotAt
set_option maxRecDepth 20000 in
theorem ggX1_dressedIn_X11_entry : GoodIn wsX1_dressedIn wsX11_entry := goodIn_r _ [13] (by decide +kernel) (by decide +kernel)
set_option maxRecDepth 20000 in
theorem gX1_dressedIn_X11_entry_n78 : GoodIn wsX1_dressedIn (wsX11_entry) := ggX1_dressedIn_X11_entry
set_option maxRecDepth 20000 in
theorem ggX1_turnWeek_J7_fill_53178 : GoodIn wsX1_turnWeek wsJ7_fill_53178 := goodIn_r _ [7] (by decide +kernel) (by decide +kernel)
set_option maxRecDepth 20000 in
theorem gX1_turnWeek_J7_fill_53178 : GoodIn wsX1_turnWeek (va_wsS RX1 53 yJ7_fill_53178 wsJ7_fill_53178) := goodIn_app (goodIn_of _ (by decide +kernel)) ggX1_turnWeek_J7_fill_53178
set_option maxRecDepth 20000 in
theorem ggX1_pass_X1_turnWeek : GoodIn wsX1_pass wsX1_turnWeek := goodIn_r _ [8, 2, 9, 10, 11, 12, 13, 14, 161, 162, 163, 164, 165, 166, 167, 168, 169, 170, 171, 172, 173, 174, 175, 176, 177, 178] (by decide +kernel) (by decide +kernel)
set_option maxRecDepth 20000 in
theorem gX1_pass_X1_turnWeek : GoodIn wsX1_pass (wsV RX1 104 RX1 yX1_turnWeek wsX1_turnWeek) := goodIn_app (goodIn_of _ (by decide +kernel)) ggX1_pass_X1_turnWeek
set_option maxRecDepth 20000 in
theorem ggX1_pass_X1_attend : GoodIn wsX1_pass wsX1_attend := goodIn_r _ [18, 19, 20, 21, 22, 23, 24, 25, 7, 26, 27, 28, 1, 29, 30, 31, 32, 33, 34, 35, 36, 37, 38, 39, 40, 41, 42, 43, 44, 45, 46, 47, 48, 49, 50, 51, 52, 53, 54, 55, 56, 57, 58, 59, 60, 61, 62, 63, 64, 65, 66, 67, 68, 69, 70, 71, 72, 73, 74, 75, 76, 77, 78, 79, 80, 81, 82, 83, 84, 85, 86, 87, 88, 89, 90, 91, 92, 93, 94, 95, 96, 97, 98, 99, 100, 101, 102, 103, 104, 105, 106, 107, 108, 109, 110, 111, 112, 113, 114, 115, 116, 117, 10, 118, 119, 120, 121, 122, 123, 124, 125, 126, 127, 128, 129, 130, 131, 132, 133, 134, 135, 136, 137, 138, 139, 140, 141, 142, 143, 144, 145, 146, 147, 148, 149, 150, 151, 152, 153, 154, 155, 156, 157, 158, 159, 160, 2, 161, 162, 163, 164, 165, 166, 167, 168, 169, 170, 171, 172, 173, 174, 175, 176, 177, 178, 179, 180, 181, 182, 183, 184, 185, 186, 187, 188, 189, 190, 191, 192, 193, 194, 195, 196, 197, 198, 199, 200, 201, 202, 203, 204, 205, 206, 207, 208, 209, 210, 211] (by decide +kernel) (by decide +kernel)
set_option maxRecDepth 20000 in
theorem gX1_pass_X1_attend : GoodIn wsX1_pass (wsV RX1 130 RX1 yX1_attend wsX1_attend) := goodIn_app (goodIn_of _ (by decide +kernel)) ggX1_pass_X1_attend
set_option maxRecDepth 20000 in
theorem ggX1_attend_X1_dropAllShot : GoodIn wsX1_attend wsX1_dropAllShot := goodIn_r _ [9, 10, 11, 12, 13, 14, 15, 8, 16, 17, 18, 19, 20, 21, 22, 23, 24, 25, 26, 2, 27, 28, 29, 30, 31, 32, 33, 34, 35, 36, 37, 38, 39, 40, 41, 42, 43, 44, 147, 148, 149, 150, 151, 152, 153, 154, 155, 156, 157, 158, 159, 160, 161, 162, 163, 164, 165, 166, 167, 168, 169, 170, 171, 172, 173, 174, 175, 176, 177, 178, 179, 180, 181, 182, 183, 184, 185, 186] (by decide +kernel) (by decide +kernel)
set_option maxRecDepth 20000 in
theorem gX1_attend_X1_dropAllShot : GoodIn wsX1_attend (wsV RX1 134 RX1 yX1_dropAllShot wsX1_dropAllShot) := goodIn_app (goodIn_of _ (by decide +kernel)) ggX1_attend_X1_dropAllShot
set_option maxRecDepth 20000 in
theorem ggX1_attend_X1_beginFirst : GoodIn wsX1_attend wsX1_beginFirst := goodIn_r _ [48, 10, 1, 12, 13, 14, 15, 8, 16, 17, 18, 19, 20, 21, 22, 49, 50, 51, 52, 2, 4, 28, 29, 30, 31, 32, 33, 53, 54, 55, 56, 57, 58, 59, 60, 61, 62, 63, 64, 65, 66, 67, 68, 69, 70, 71, 72, 73, 74, 41, 42, 43, 44, 39, 40, 147, 148, 149, 150, 151, 152, 153, 154, 155, 156, 157, 158, 159, 160, 161, 162, 163, 164, 165, 166, 167, 168, 169, 170, 171, 172, 173, 174, 175, 176, 177, 178, 179, 180, 181, 182, 183, 184, 185, 186, 187, 188, 189, 190, 191, 192, 193, 194, 195, 196, 197] (by decide +kernel) (by decide +kernel)
set_option maxRecDepth 20000 in
theorem gX1_attend_X1_beginFirst : GoodIn wsX1_attend (wsV RX1 137 RX1 yX1_beginFirst wsX1_beginFirst) := goodIn_app (goodIn_of _ (by decide +kernel)) ggX1_attend_X1_beginFirst
set_option maxRecDepth 20000 in
theorem ggX1_attend_X8_shotAt : GoodIn wsX1_attend wsX8_shotAt := goodIn_r _ [32, 33, 180, 181, 182, 183, 184, 185, 186] (by decide +kernel) (by decide +kernel)
set_option maxRecDepth 20000 in
theorem gX1_attend_X8_shotAt : GoodIn wsX1_attend (wsV RX1 93 RX8 yX8_shotAt wsX8_shotAt) := goodIn_app (goodIn_of _ (by decide +kernel)) ggX1_attend_X8_shotAt
set_option maxRecDepth 20000 in
theorem ggX1_attend_X1_standsIn : GoodIn wsX1_attend wsX1_standsIn := goodIn_r _ [56, 57, 21, 19, 22, 147, 148, 149, 150, 151, 152, 153, 154, 155, 156, 157, 158, 159, 160, 161, 162, 163, 164] (by decide +kernel) (by decide +kernel)
set_option maxRecDepth 20000 in
theorem gX1_attend_X1_standsIn : GoodIn wsX1_attend (wsV RX1 143 RX1 yX1_standsIn wsX1_standsIn) := goodIn_app (goodIn_of _ (by decide +kernel)) ggX1_attend_X1_standsIn
set_option maxRecDepth 20000 in
theorem ggX1_dropAllShot_X11_swapIn : GoodIn wsX1_dropAllShot wsX11_swapIn := goodIn_r _ [33] (by decide +kernel) (by decide +kernel)
set_option maxRecDepth 20000 in
theorem gX1_dropAllShot_X11_swapIn_n111 : GoodIn wsX1_dropAllShot (wsX11_swapIn) := ggX1_dropAllShot_X11_swapIn
set_option maxRecDepth 20000 in
theorem ggX6_init_X10_init : GoodIn wsX6_init wsX10_init := goodIn_r _ [22, 23, 2, 3, 24, 25, 29, 30, 31, 32, 33, 34, 35] (by decide +kernel) (by decide +kernel)
set_option maxRecDepth 20000 in
theorem gX6_init_X10_init_n11 : GoodIn wsX6_init (wsX10_init) := ggX6_init_X10_init
set_option maxRecDepth 20000 in
theorem ggX6_init_X2_init : GoodIn wsX6_init wsX2_init := goodIn_r _ [27, 28, 2, 3] (by decide +kernel) (by decide +kernel)
set_option maxRecDepth 20000 in
theorem gX6_init_X2_init_n48 : GoodIn wsX6_init (wsX2_init) := ggX6_init_X2_init
set_option maxRecDepth 20000 in
theorem ggX6_read_X10_load : GoodIn wsX6_read wsX10_load := goodIn_r _ [17, 18, 19, 20, 21, 22, 23, 24, 25, 26, 27, 28, 29, 30, 31, 32, 33, 226, 227, 228, 229, 230, 231, 232] (by decide +kernel) (by decide +kernel)
set_option maxRecDepth 20000 in
theorem gX6_read_X10_load : GoodIn wsX6_read (wsV RX6 49 RX10 yX10_load wsX10_load) := goodIn_app (goodIn_of _ (by decide +kernel)) ggX6_read_X10_load
set_option maxRecDepth 20000 in
theorem ggX6_read_J7_fill_d0a16 : GoodIn wsX6_read wsJ7_fill_d0a16 := goodIn_r _ [37] (by decide +kernel) (by decide +kernel)
set_option maxRecDepth 20000 in
theorem gX6_read_J7_fill_d0a16 : GoodIn wsX6_read (va_wsS RX6 69 yJ7_fill_d0a16 wsJ7_fill_d0a16) := goodIn_app (goodIn_of _ (by decide +kernel)) ggX6_read_J7_fill_d0a16
set_option maxRecDepth 20000 in
theorem ggX6_read_X10_peek : GoodIn wsX6_read wsX10_peek := goodIn_r _ [41, 31, 26, 18, 226, 227, 228, 229, 230, 231, 232] (by decide +kernel) (by decide +kernel)
set_option maxRecDepth 20000 in
theorem gX6_read_X10_peek : GoodIn wsX6_read (wsV RX6 78 RX10 yX10_peek wsX10_peek) := goodIn_app (goodIn_of _ (by decide +kernel)) ggX6_read_X10_peek
set_option maxRecDepth 20000 in
theorem ggX6_read_X10_fail : GoodIn wsX6_read wsX10_fail := goodIn_r _ [65, 32, 33, 226, 227, 228, 229, 230, 231, 232] (by decide +kernel) (by decide +kernel)
set_option maxRecDepth 20000 in
theorem gX6_read_X10_fail : GoodIn wsX6_read (wsV RX6 100 RX10 yX10_fail wsX10_fail) := goodIn_app (goodIn_of _ (by decide +kernel)) ggX6_read_X10_fail
set_option maxRecDepth 20000 in
theorem ggX8_init_J7_fill_53178 : GoodIn wsX8_init wsJ7_fill_53178 := goodIn_r _ [15] (by decide +kernel) (by decide +kernel)
set_option maxRecDepth 20000 in
theorem gX8_init_J7_fill_53178 : GoodIn wsX8_init (va_wsS RX8 33 yJ7_fill_53178 wsJ7_fill_53178) := goodIn_app (goodIn_of _ (by decide +kernel)) ggX8_init_J7_fill_53178
set_option maxRecDepth 20000 in
theorem ggX11_init_X8_init : GoodIn wsX11_init wsX8_init := goodIn_r _ [38, 39, 2, 3, 40, 41, 42, 43, 44, 45, 46, 47, 48, 49, 50, 51, 141, 142, 143, 144, 145, 146, 147] (by decide +kernel) (by decide +kernel)
set_option maxRecDepth 20000 in
theorem gX11_init_X8_init : GoodIn wsX11_init (wsX8_init) := ggX11_init_X8_init
set_option maxRecDepth 20000 in
theorem ggX11_init_X6_init : GoodIn wsX11_init wsX6_init := goodIn_r _ [54, 55, 2, 3, 56, 57, 58, 59, 60, 61, 44, 62, 63, 64, 65, 66, 67, 68, 69, 70, 71, 72, 73, 74, 33, 75, 76, 77, 78, 233, 234, 235, 236, 237, 238, 239, 159, 160, 161, 162, 163, 164, 165, 166, 167, 168, 169, 170, 171, 172, 240, 241, 242, 243, 244, 245, 246, 247] (by decide +kernel) (by decide +kernel)
set_option maxRecDepth 20000 in
theorem gX11_init_X6_init : GoodIn wsX11_init (wsX6_init) := ggX11_init_X6_init
set_option maxRecDepth 20000 in
theorem ggX11_init_X9_init : GoodIn wsX11_init wsX9_init := goodIn_r _ [81, 82, 2, 3, 44, 83, 84, 85, 86, 87, 88, 89, 90, 91, 173, 174, 175, 176, 177, 178, 179, 180, 181, 182, 183, 184, 185] (by decide +kernel) (by decide +kernel)
set_option maxRecDepth 20000 in
theorem gX11_init_X9_init : GoodIn wsX11_init (wsX9_init) := ggX11_init_X9_init
set_option maxRecDepth 20000 in
theorem ggX11_init_X4_init : GoodIn wsX11_init wsX4_init := goodIn_r _ [94, 95, 2, 3, 44, 96, 97, 98, 99, 100, 101, 102, 103, 104, 105, 106, 107, 186, 187, 188, 189, 190, 191, 192, 193, 194, 195, 196, 197, 198, 199, 200, 201, 202, 203, 204] (by decide +kernel) (by decide +kernel)
set_option maxRecDepth 20000 in
theorem gX11_init_X4_init : GoodIn wsX11_init (wsX4_init) := ggX11_init_X4_init
set_option maxRecDepth 20000 in
theorem ggX11_init_X3_init : GoodIn wsX11_init wsX3_init := goodIn_r _ [110, 111, 2, 3, 44, 112, 113, 114, 115, 205, 206, 207, 208, 209] (by decide +kernel) (by decide +kernel)
set_option maxRecDepth 20000 in
theorem gX11_init_X3_init : GoodIn wsX11_init (wsX3_init) := ggX11_init_X3_init
set_option maxRecDepth 20000 in
theorem ggX11_init_X0_init : GoodIn wsX11_init wsX0_init := goodIn_r _ [117, 118, 2, 3, 44, 119, 120, 121, 122, 210, 211, 212, 213, 214] (by decide +kernel) (by decide +kernel)
set_option maxRecDepth 20000 in
theorem gX11_init_X0_init_n50 : GoodIn wsX11_init (wsX0_init) := ggX11_init_X0_init
set_option maxRecDepth 20000 in
theorem ggX11_init_X1_init : GoodIn wsX11_init wsX1_init := goodIn_r _ [125, 126, 2, 3, 44, 127, 128, 129, 130, 131, 132, 133, 134, 135, 136, 137, 138, 139, 140, 49, 50, 51, 215, 216, 217, 218, 219, 220, 221, 222, 223, 224, 225, 226, 227, 228, 229, 230, 231, 232] (by decide +kernel) (by decide +kernel)
set_option maxRecDepth 20000 in
theorem gX11_init_X1_init : GoodIn wsX11_init (wsX1_init) := ggX11_init_X1_init
set_option maxRecDepth 20000 in
theorem ggX11_puppet_X5_init : GoodIn wsX11_puppet wsX5_init := goodIn_r _ [7, 8, 9, 10, 11, 12, 13, 14, 15, 16, 17, 18, 44, 45, 46, 47, 48, 49, 50, 51, 52, 53, 54] (by decide +kernel) (by decide +kernel)
set_option maxRecDepth 20000 in
theorem gX11_puppet_X5_init_n80 : GoodIn wsX11_puppet (wsX5_init) := ggX11_puppet_X5_init
set_option maxRecDepth 20000 in
theorem ggX11_puppet_X8_addPuppet : GoodIn wsX11_puppet wsX8_addPuppet := goodIn_r _ [23, 24, 25, 37, 38, 39, 40, 41, 42, 43] (by decide +kernel) (by decide +kernel)
set_option maxRecDepth 20000 in
theorem gX11_puppet_X8_addPuppet : GoodIn wsX11_puppet (wsV RX11 81 RX8 yX8_addPuppet wsX8_addPuppet) := goodIn_app (goodIn_of _ (by decide +kernel)) ggX11_puppet_X8_addPuppet
set_option maxRecDepth 20000 in
theorem ggX11_joint_X11_needPuppet : GoodIn wsX11_joint wsX11_needPuppet := goodIn_ca (goodIn_r _ [6, 7, 8, 9, 10, 11, 12, 13, 14, 15, 50, 51, 52, 53, 54, 55, 56, 57, 58, 59, 60, 61, 62, 63, 64, 65, 66, 67] (by decide +kernel) (by decide +kernel)) (goodIn_sub (fun _ h => List.mem_cons_of_mem _ (List.mem_append_left _ (List.mem_append_right _ h))) (by decide +kernel))
set_option maxRecDepth 20000 in
theorem gX11_joint_X11_needPuppet : GoodIn wsX11_joint (wsV RX11 85 RX11 yX11_needPuppet wsX11_needPuppet) := goodIn_app (goodIn_of _ (by decide +kernel)) ggX11_joint_X11_needPuppet
set_option maxRecDepth 20000 in
theorem ggX11_joint_X11_need : GoodIn wsX11_joint wsX11_need := goodIn_ca (goodIn_r _ [24, 25, 26] (by decide +kernel) (by decide +kernel)) (goodIn_sub (fun _ h => List.mem_cons_of_mem _ (List.mem_append_right _ h)) (by decide +kernel))
set_option maxRecDepth 20000 in
theorem gX11_joint_X11_need : GoodIn wsX11_joint (va_wsS RX11 93 yX11_need wsX11_need) := goodIn_app (goodIn_of _ (by decide +kernel)) ggX11_joint_X11_need
set_option maxRecDepth 20000 in
theorem ggX11_joint_X11_within : GoodIn wsX11_joint wsX11_within := goodIn_r _ [29] (by decide +kernel) (by decide +kernel)
set_option maxRecDepth 20000 in
theorem gX11_joint_X11_within : GoodIn wsX11_joint (va_wsS RX11 97 yX11_within wsX11_within) := goodIn_app (goodIn_of _ (by decide +kernel)) ggX11_joint_X11_within
set_option maxRecDepth 20000 in
theorem ggX11_feet_X11_needPuppet : GoodIn wsX11_feet wsX11_needPuppet := goodIn_ca (goodIn_r _ [7, 8, 9, 10, 11, 12, 13, 14, 15, 16, 36, 37, 38, 39, 40, 41, 42, 43, 44, 45, 46, 47, 48, 49, 50, 51, 52, 53] (by decide +kernel) (by decide +kernel)) (goodIn_sub (fun _ h => List.mem_cons_of_mem _ (List.mem_append_left _ (List.mem_append_right _ h))) (by decide +kernel))
set_option maxRecDepth 20000 in
theorem gX11_feet_X11_needPuppet : GoodIn wsX11_feet (wsV RX11 85 RX11 yX11_needPuppet wsX11_needPuppet) := goodIn_app (goodIn_of _ (by decide +kernel)) ggX11_feet_X11_needPuppet
set_option maxRecDepth 20000 in
theorem ggX11_feet_X11_within : GoodIn wsX11_feet wsX11_within := goodIn_r _ [19] (by decide +kernel) (by decide +kernel)
set_option maxRecDepth 20000 in
theorem gX11_feet_X11_within : GoodIn wsX11_feet (va_wsS RX11 97 yX11_within wsX11_within) := goodIn_app (goodIn_of _ (by decide +kernel)) ggX11_feet_X11_within
set_option maxRecDepth 20000 in
theorem ggX11_feet_X11_need : GoodIn wsX11_feet wsX11_need := goodIn_ca (goodIn_r _ [22, 23, 24] (by decide +kernel) (by decide +kernel)) (goodIn_sub (fun _ h => List.mem_cons_of_mem _ (List.mem_append_right _ h)) (by decide +kernel))
set_option maxRecDepth 20000 in
theorem gX11_feet_X11_need : GoodIn wsX11_feet (va_wsS RX11 93 yX11_need wsX11_need) := goodIn_app (goodIn_of _ (by decide +kernel)) ggX11_feet_X11_need
set_option maxRecDepth 20000 in
theorem ggX11_kit_X11_needPuppet : GoodIn wsX11_kit wsX11_needPuppet := goodIn_ca (goodIn_r _ [6, 7, 8, 9, 10, 11, 12, 13, 14, 15, 35, 36, 37, 38, 39, 40, 41, 42, 43, 44, 45, 46, 47, 48, 49, 50, 51, 52] (by decide +kernel) (by decide +kernel)) (goodIn_sub (fun _ h => List.mem_cons_of_mem _ (List.mem_append_left _ (List.mem_append_right _ h))) (by decide +kernel))
set_option maxRecDepth 20000 in
theorem gX11_kit_X11_needPuppet : GoodIn wsX11_kit (wsV RX11 85 RX11 yX11_needPuppet wsX11_needPuppet) := goodIn_app (goodIn_of _ (by decide +kernel)) ggX11_kit_X11_needPuppet
set_option maxRecDepth 20000 in
theorem ggX11_kit_X11_within : GoodIn wsX11_kit wsX11_within := goodIn_r _ [18] (by decide +kernel) (by decide +kernel)
set_option maxRecDepth 20000 in
theorem gX11_kit_X11_within : GoodIn wsX11_kit (va_wsS RX11 97 yX11_within wsX11_within) := goodIn_app (goodIn_of _ (by decide +kernel)) ggX11_kit_X11_within
set_option maxRecDepth 20000 in
theorem ggX11_kit_X11_need : GoodIn wsX11_kit wsX11_need := goodIn_ca (goodIn_r _ [21, 22, 23] (by decide +kernel) (by decide +kernel)) (goodIn_sub (fun _ h => List.mem_cons_of_mem _ (List.mem_append_right _ h)) (by decide +kernel))
set_option maxRecDepth 20000 in
theorem gX11_kit_X11_need : GoodIn wsX11_kit (va_wsS RX11 93 yX11_need wsX11_need) := goodIn_app (goodIn_of _ (by decide +kernel)) ggX11_kit_X11_need
set_option maxRecDepth 20000 in
theorem ggX11_sound_X11_within : GoodIn wsX11_sound wsX11_within := goodIn_r _ [6] (by decide +kernel) (by decide +kernel)
set_option maxRecDepth 20000 in
theorem gX11_sound_X11_within : GoodIn wsX11_sound (va_wsS RX11 97 yX11_within wsX11_within) := goodIn_app (goodIn_of _ (by decide +kernel)) ggX11_sound_X11_within
set_option maxRecDepth 20000 in
theorem ggX11_sound_X11_need : GoodIn wsX11_sound wsX11_need := goodIn_ca (goodIn_r _ [9, 10, 11] (by decide +kernel) (by decide +kernel)) (goodIn_sub (fun _ h => List.mem_cons_of_mem _ (List.mem_append_right _ h)) (by decide +kernel))
set_option maxRecDepth 20000 in
theorem gX11_sound_X11_need : GoodIn wsX11_sound (va_wsS RX11 93 yX11_need wsX11_need) := goodIn_app (goodIn_of _ (by decide +kernel)) ggX11_sound_X11_need
set_option maxRecDepth 20000 in
theorem ggX11_sound_X11_swapIn : GoodIn wsX11_sound wsX11_swapIn := goodIn_r _ [14] (by decide +kernel) (by decide +kernel)
set_option maxRecDepth 20000 in
theorem gX11_sound_X11_swapIn : GoodIn wsX11_sound (va_wsS RX11 121 yX11_swapIn wsX11_swapIn) := goodIn_app (goodIn_of _ (by decide +kernel)) ggX11_sound_X11_swapIn
set_option maxRecDepth 20000 in
theorem ggX11_feed_X11_feedNumber : GoodIn wsX11_feed wsX11_feedNumber := goodIn_r _ [6, 1, 7, 8, 9, 10, 11, 12, 13, 14, 15, 16, 17, 18] (by decide +kernel) (by decide +kernel)
set_option maxRecDepth 20000 in
theorem gX11_feed_X11_feedNumber : GoodIn wsX11_feed (wsV RX11 128 RX11 yX11_feedNumber wsX11_feedNumber) := goodIn_app (goodIn_of _ (by decide +kernel)) ggX11_feed_X11_feedNumber
set_option maxRecDepth 20000 in
theorem ggX11_shot_X11_within : GoodIn wsX11_shot wsX11_within := goodIn_r _ [16] (by decide +kernel) (by decide +kernel)
set_option maxRecDepth 20000 in
theorem gX11_shot_X11_within : GoodIn wsX11_shot (va_wsS RX11 97 yX11_within wsX11_within) := goodIn_app (goodIn_of _ (by decide +kernel)) ggX11_shot_X11_within
set_option maxRecDepth 20000 in
theorem ggX11_shot_X11_need : GoodIn wsX11_shot wsX11_need := goodIn_ca (goodIn_r _ [19, 20, 21] (by decide +kernel) (by decide +kernel)) (goodIn_sub (fun _ h => List.mem_cons_of_mem _ (List.mem_append_right _ h)) (by decide +kernel))
set_option maxRecDepth 20000 in
theorem gX11_shot_X11_need : GoodIn wsX11_shot (va_wsS RX11 93 yX11_need wsX11_need) := goodIn_app (goodIn_of _ (by decide +kernel)) ggX11_shot_X11_need
set_option maxRecDepth 20000 in
theorem ggX11_shot_X6_read : GoodIn wsX11_shot wsX6_read := goodIn_r _ [26, 27, 28, 29, 30, 31, 32, 33, 34, 35, 36, 37, 38, 39, 40, 41, 42, 43, 44, 45, 46, 47, 48, 49, 50, 51, 52, 53, 54, 55, 56, 57, 58, 59, 60, 61, 62, 63, 64, 65, 66, 67, 68, 69, 70, 71, 72, 73, 74, 75, 25, 76, 77, 78, 79, 80, 81, 82, 83, 84, 85, 86, 87, 88, 89, 90, 91, 92, 93, 94, 95, 96, 97, 98, 99, 100, 101, 102, 103, 104, 105, 106, 14, 15, 16, 107, 108, 109, 110, 111, 112, 113, 114, 115, 116, 117, 118, 119, 120, 121, 122, 123, 124, 125, 126, 127, 128, 129, 130, 131, 132, 133, 134, 135, 136, 137, 138, 139, 140, 141, 142, 143, 144, 145, 146, 147, 148, 149, 150, 151, 152, 153, 154, 155, 156, 157, 158, 159, 160, 161, 162, 163, 164, 165, 166, 167, 168, 169, 170, 171, 172, 173, 174, 175, 176, 177, 178, 179, 180, 181, 182, 183, 184, 185, 186, 187, 188, 189, 190, 191, 192, 193, 194, 195, 196, 197, 198, 199, 200, 201, 202, 203, 204, 205, 206, 207, 208, 209, 210, 211, 212, 213, 214, 215, 216, 217, 218, 219, 220, 221, 222, 223, 224, 225, 226, 227, 228, 229, 230, 231, 232, 233, 415, 416, 417, 418, 419, 420, 421, 422, 423, 424, 425, 426, 427, 428, 429, 430, 431, 432, 433, 434, 435, 436, 437, 438, 439, 440, 441, 442, 443, 408, 409, 410, 411, 412, 413, 414, 444, 445, 446, 447, 448, 449, 450, 451, 452, 453, 454] (by decide +kernel) (by decide +kernel)
set_option maxRecDepth 20000 in
theorem gX11_shot_X6_read : GoodIn wsX11_shot (wsV RX11 142 RX6 yX6_read wsX6_read) := goodIn_app (goodIn_of _ (by decide +kernel)) ggX11_shot_X6_read
set_option maxRecDepth 20000 in
theorem ggX11_told_X11_needShot : GoodIn wsX11_told wsX11_needShot := goodIn_ca (goodIn_r _ [12, 13, 14, 15, 16, 17, 18, 19, 20, 21, 61, 62, 63, 64, 65, 66, 67, 68, 69, 70, 71, 72, 73, 74, 75, 76, 77, 78] (by decide +kernel) (by decide +kernel)) (goodIn_sub (fun _ h => List.mem_cons_of_mem _ (List.mem_append_right _ h)) (by decide +kernel))
set_option maxRecDepth 20000 in
theorem gX11_told_X11_needShot : GoodIn wsX11_told (wsV RX11 166 RX11 yX11_needShot wsX11_needShot) := goodIn_app (goodIn_of _ (by decide +kernel)) ggX11_told_X11_needShot
set_option maxRecDepth 20000 in
theorem ggX11_step_X11_needShot : GoodIn wsX11_step wsX11_needShot := goodIn_ca (goodIn_r _ [7, 8, 9, 1, 10, 11, 12, 13, 14, 15, 46, 47, 48, 49, 50, 51, 52, 53, 54, 55, 56, 57, 58, 59, 60, 61, 62, 63] (by decide +kernel) (by decide +kernel)) (goodIn_sub (fun _ h => List.mem_cons_of_mem _ (List.mem_append_right _ h)) (by decide +kernel))
set_option maxRecDepth 20000 in
theorem gX11_step_X11_needShot : GoodIn wsX11_step (wsV RX11 166 RX11 yX11_needShot wsX11_needShot) := goodIn_app (goodIn_of _ (by decide +kernel)) ggX11_step_X11_needShot
set_option maxRecDepth 20000 in
theorem ggX11_step_X8_puppetAt : GoodIn wsX11_step wsX8_puppetAt := goodIn_r _ [19, 20, 57, 58, 59, 60, 61, 62, 63] (by decide +kernel) (by decide +kernel)
set_option maxRecDepth 20000 in
theorem gX11_step_X8_puppetAt : GoodIn wsX11_step (wsV RX11 197 RX8 yX8_puppetAt wsX8_puppetAt) := goodIn_app (goodIn_of _ (by decide +kernel)) ggX11_step_X8_puppetAt
set_option maxRecDepth 20000 in
theorem ggX11_mouth_X11_needShot : GoodIn wsX11_mouth wsX11_needShot := goodIn_ca (goodIn_r _ [6, 7, 8, 1, 9, 10, 11, 12, 13, 14, 44, 45, 46, 47, 48, 49, 50, 51, 52, 53, 54, 55, 56, 57, 58, 59, 60, 61] (by decide +kernel) (by decide +kernel)) (goodIn_sub (fun _ h => List.mem_cons_of_mem _ (List.mem_append_right _ h)) (by decide +kernel))
set_option maxRecDepth 20000 in
theorem gX11_mouth_X11_needShot : GoodIn wsX11_mouth (wsV RX11 166 RX11 yX11_needShot wsX11_needShot) := goodIn_app (goodIn_of _ (by decide +kernel)) ggX11_mouth_X11_needShot
set_option maxRecDepth 20000 in
theorem ggX11_mouth_X8_puppetAt : GoodIn wsX11_mouth wsX8_puppetAt := goodIn_r _ [24, 25, 55, 56, 57, 58, 59, 60, 61] (by decide +kernel) (by decide +kernel)
set_option maxRecDepth 20000 in
theorem gX11_mouth_X8_puppetAt : GoodIn wsX11_mouth (wsV RX11 197 RX8 yX8_puppetAt wsX8_puppetAt) := goodIn_app (goodIn_of _ (by decide +kernel)) ggX11_mouth_X8_puppetAt
set_option maxRecDepth 20000 in
theorem ggX11_camera_X11_needShot : GoodIn wsX11_camera wsX11_needShot := goodIn_ca (goodIn_r _ [5, 6, 7, 8, 9, 10, 11, 12, 13, 14, 31, 32, 33, 34, 35, 36, 37, 38, 39, 40, 41, 42, 43, 44, 45, 46, 47, 48] (by decide +kernel) (by decide +kernel)) (goodIn_sub (fun _ h => List.mem_cons_of_mem _ (List.mem_append_right _ h)) (by decide +kernel))
set_option maxRecDepth 20000 in
theorem gX11_camera_X11_needShot : GoodIn wsX11_camera (wsV RX11 166 RX11 yX11_needShot wsX11_needShot) := goodIn_app (goodIn_of _ (by decide +kernel)) ggX11_camera_X11_needShot
set_option maxRecDepth 20000 in
theorem ggX11_camera_X11_within : GoodIn wsX11_camera wsX11_within := goodIn_r _ [23] (by decide +kernel) (by decide +kernel)
set_option maxRecDepth 20000 in
theorem gX11_camera_X11_within : GoodIn wsX11_camera (va_wsS RX11 97 yX11_within wsX11_within) := goodIn_app (goodIn_of _ (by decide +kernel)) ggX11_camera_X11_within
set_option maxRecDepth 20000 in
theorem ggX11_state_X11_needShot : GoodIn wsX11_state wsX11_needShot := goodIn_ca (goodIn_r _ [6, 7, 8, 1, 9, 10, 11, 12, 13, 14, 71, 72, 73, 74, 75, 76, 77, 78, 79, 80, 81, 82, 83, 84, 85, 86, 87, 88] (by decide +kernel) (by decide +kernel)) (goodIn_sub (fun _ h => List.mem_cons_of_mem _ (List.mem_append_right _ h)) (by decide +kernel))
set_option maxRecDepth 20000 in
theorem gX11_state_X11_needShot : GoodIn wsX11_state (wsV RX11 166 RX11 yX11_needShot wsX11_needShot) := goodIn_app (goodIn_of _ (by decide +kernel)) ggX11_state_X11_needShot
set_option maxRecDepth 20000 in
theorem ggX11_state_X8_puppetAt : GoodIn wsX11_state wsX8_puppetAt := goodIn_r _ [18, 19, 82, 83, 84, 85, 86, 87, 88] (by decide +kernel) (by decide +kernel)
set_option maxRecDepth 20000 in
theorem gX11_state_X8_puppetAt : GoodIn wsX11_state (wsV RX11 197 RX8 yX8_puppetAt wsX8_puppetAt) := goodIn_app (goodIn_of _ (by decide +kernel)) ggX11_state_X8_puppetAt
set_option maxRecDepth 20000 in
theorem ggX11_lean_X11_needShot : GoodIn wsX11_lean wsX11_needShot := goodIn_ca (goodIn_r _ [7, 8, 9, 1, 10, 11, 12, 13, 14, 15, 54, 55, 56, 57, 58, 59, 60, 61, 62, 63, 64, 65, 66, 67, 68, 69, 70, 71] (by decide +kernel) (by decide +kernel)) (goodIn_sub (fun _ h => List.mem_cons_of_mem _ (List.mem_append_right _ h)) (by decide +kernel))
set_option maxRecDepth 20000 in
theorem gX11_lean_X11_needShot : GoodIn wsX11_lean (wsV RX11 166 RX11 yX11_needShot wsX11_needShot) := goodIn_app (goodIn_of _ (by decide +kernel)) ggX11_lean_X11_needShot
set_option maxRecDepth 20000 in
theorem ggX11_lean_X8_puppetAt : GoodIn wsX11_lean wsX8_puppetAt := goodIn_r _ [19, 20, 65, 66, 67, 68, 69, 70, 71] (by decide +kernel) (by decide +kernel)
set_option maxRecDepth 20000 in
theorem gX11_lean_X8_puppetAt : GoodIn wsX11_lean (wsV RX11 197 RX8 yX8_puppetAt wsX8_puppetAt) := goodIn_app (goodIn_of _ (by decide +kernel)) ggX11_lean_X8_puppetAt
set_option maxRecDepth 20000 in
theorem ggX11_breach_X11_needShot : GoodIn wsX11_breach wsX11_needShot := goodIn_ca (goodIn_r _ [7, 8, 9, 2, 10, 11, 12, 13, 14, 15, 71, 72, 73, 74, 75, 76, 77, 78, 79, 80, 81, 82, 83, 84, 85, 86, 87, 88] (by decide +kernel) (by decide +kernel)) (goodIn_sub (fun _ h => List.mem_cons_of_mem _ (List.mem_append_left _ (List.mem_append_right _ h))) (by decide +kernel))
set_option maxRecDepth 20000 in
theorem gX11_breach_X11_needShot : GoodIn wsX11_breach (wsV RX11 166 RX11 yX11_needShot wsX11_needShot) := goodIn_app (goodIn_of _ (by decide +kernel)) ggX11_breach_X11_needShot
set_option maxRecDepth 20000 in
theorem ggX11_breach_X11_within : GoodIn wsX11_breach wsX11_within := goodIn_r _ [18] (by decide +kernel) (by decide +kernel)
set_option maxRecDepth 20000 in
theorem gX11_breach_X11_within : GoodIn wsX11_breach (va_wsS RX11 97 yX11_within wsX11_within) := goodIn_app (goodIn_of _ (by decide +kernel)) ggX11_breach_X11_within
set_option maxRecDepth 20000 in
theorem ggX11_breach_X11_need : GoodIn wsX11_breach wsX11_need := goodIn_ca (goodIn_r _ [21, 22, 23] (by decide +kernel) (by decide +kernel)) (goodIn_sub (fun _ h => List.mem_cons_of_mem _ (List.mem_append_right _ h)) (by decide +kernel))
set_option maxRecDepth 20000 in
theorem gX11_breach_X11_need : GoodIn wsX11_breach (va_wsS RX11 93 yX11_need wsX11_need) := goodIn_app (goodIn_of _ (by decide +kernel)) ggX11_breach_X11_need
set_option maxRecDepth 20000 in
theorem ggX11_fall_X11_needShot : GoodIn wsX11_fall wsX11_needShot := goodIn_ca (goodIn_r _ [7, 8, 9, 2, 10, 11, 12, 13, 14, 15, 88, 89, 90, 91, 92, 93, 94, 95, 96, 97, 98, 99, 100, 101, 102, 103, 104, 105] (by decide +kernel) (by decide +kernel)) (goodIn_sub (fun _ h => List.mem_cons_of_mem _ (List.mem_append_left _ (List.mem_append_right _ h))) (by decide +kernel))
set_option maxRecDepth 20000 in
theorem gX11_fall_X11_needShot : GoodIn wsX11_fall (wsV RX11 166 RX11 yX11_needShot wsX11_needShot) := goodIn_app (goodIn_of _ (by decide +kernel)) ggX11_fall_X11_needShot
set_option maxRecDepth 20000 in
theorem ggX11_fall_X11_within : GoodIn wsX11_fall wsX11_within := goodIn_r _ [18] (by decide +kernel) (by decide +kernel)
set_option maxRecDepth 20000 in
theorem gX11_fall_X11_within : GoodIn wsX11_fall (va_wsS RX11 97 yX11_within wsX11_within) := goodIn_app (goodIn_of _ (by decide +kernel)) ggX11_fall_X11_within
set_option maxRecDepth 20000 in
theorem ggX11_fall_X11_need : GoodIn wsX11_fall wsX11_need := goodIn_ca (goodIn_r _ [21, 22, 23] (by decide +kernel) (by decide +kernel)) (goodIn_sub (fun _ h => List.mem_cons_of_mem _ (List.mem_append_right _ h)) (by decide +kernel))
set_option maxRecDepth 20000 in
theorem gX11_fall_X11_need : GoodIn wsX11_fall (va_wsS RX11 93 yX11_need wsX11_need) := goodIn_app (goodIn_of _ (by decide +kernel)) ggX11_fall_X11_need
set_option maxRecDepth 20000 in
theorem ggX11_alike_X11_needShot : GoodIn wsX11_alike wsX11_needShot := goodIn_ca (goodIn_r _ [6, 7, 8, 1, 9, 10, 11, 12, 13, 14, 64, 65, 66, 67, 68, 69, 70, 71, 72, 73, 74, 75, 76, 77, 78, 79, 80, 81] (by decide +kernel) (by decide +kernel)) (goodIn_sub (fun _ h => List.mem_cons_of_mem _ (List.mem_append_left _ (List.mem_append_right _ h))) (by decide +kernel))
set_option maxRecDepth 20000 in
theorem gX11_alike_X11_needShot : GoodIn wsX11_alike (wsV RX11 166 RX11 yX11_needShot wsX11_needShot) := goodIn_app (goodIn_of _ (by decide +kernel)) ggX11_alike_X11_needShot
set_option maxRecDepth 20000 in
theorem ggX11_swap_X11_needShot : GoodIn wsX11_swap wsX11_needShot := goodIn_ca (goodIn_r _ [5, 6, 7, 8, 9, 10, 11, 12, 13, 14, 102, 103, 104, 105, 106, 107, 108, 109, 110, 111, 112, 113, 114, 115, 116, 117, 118, 119] (by decide +kernel) (by decide +kernel)) (goodIn_sub (fun _ h => List.mem_cons_of_mem _ (List.mem_append_left _ (List.mem_append_right _ h))) (by decide +kernel))
set_option maxRecDepth 20000 in
theorem gX11_swap_X11_needShot : GoodIn wsX11_swap (wsV RX11 166 RX11 yX11_needShot wsX11_needShot) := goodIn_app (goodIn_of _ (by decide +kernel)) ggX11_swap_X11_needShot
set_option maxRecDepth 20000 in
theorem ggX11_swap_X11_needPuppet : GoodIn wsX11_swap wsX11_needPuppet := goodIn_ca (goodIn_r _ [18, 19, 20, 8, 21, 22, 23, 12, 24, 25, 102, 103, 104, 105, 106, 107, 108, 109, 110, 111, 112, 113, 114, 115, 116, 117, 118, 119] (by decide +kernel) (by decide +kernel)) (goodIn_sub (fun _ h => List.mem_cons_of_mem _ (List.mem_append_right _ h)) (by decide +kernel))
set_option maxRecDepth 20000 in
theorem gX11_swap_X11_needPuppet : GoodIn wsX11_swap (wsV RX11 85 RX11 yX11_needPuppet wsX11_needPuppet) := goodIn_app (goodIn_of _ (by decide +kernel)) ggX11_swap_X11_needPuppet
set_option maxRecDepth 20000 in
theorem ggX11_set_X11_within : GoodIn wsX11_set wsX11_within := goodIn_r _ [10] (by decide +kernel) (by decide +kernel)
set_option maxRecDepth 20000 in
theorem gX11_set_X11_within : GoodIn wsX11_set (va_wsS RX11 97 yX11_within wsX11_within) := goodIn_app (goodIn_of _ (by decide +kernel)) ggX11_set_X11_within
set_option maxRecDepth 20000 in
theorem ggX11_set_X11_need : GoodIn wsX11_set wsX11_need := goodIn_ca (goodIn_r _ [13, 1, 2] (by decide +kernel) (by decide +kernel)) (goodIn_sub (fun _ h => List.mem_cons_of_mem _ (List.mem_append_right _ h)) (by decide +kernel))
set_option maxRecDepth 20000 in
theorem gX11_set_X11_need : GoodIn wsX11_set (va_wsS RX11 93 yX11_need wsX11_need) := goodIn_app (goodIn_of _ (by decide +kernel)) ggX11_set_X11_need
set_option maxRecDepth 20000 in
theorem ggX11_set_X11_swapIn : GoodIn wsX11_set wsX11_swapIn := goodIn_r _ [16] (by decide +kernel) (by decide +kernel)
set_option maxRecDepth 20000 in
theorem gX11_set_X11_swapIn : GoodIn wsX11_set (va_wsS RX11 121 yX11_swapIn wsX11_swapIn) := goodIn_app (goodIn_of _ (by decide +kernel)) ggX11_set_X11_swapIn
set_option maxRecDepth 20000 in
theorem ggX11_set_X8_shotAt : GoodIn wsX11_set wsX8_shotAt := goodIn_r _ [21, 22, 34, 35, 36, 37, 38, 39, 40] (by decide +kernel) (by decide +kernel)
set_option maxRecDepth 20000 in
theorem gX11_set_X8_shotAt : GoodIn wsX11_set (wsV RX11 271 RX8 yX8_shotAt wsX8_shotAt) := goodIn_app (goodIn_of _ (by decide +kernel)) ggX11_set_X8_shotAt
set_option maxRecDepth 20000 in
theorem ggX11_lasts_X11_needShot : GoodIn wsX11_lasts wsX11_needShot := goodIn_ca (goodIn_r _ [6, 7, 8, 1, 9, 10, 11, 12, 13, 14, 51, 52, 53, 54, 55, 56, 57, 58, 59, 60, 61, 62, 63, 64, 65, 66, 67, 68] (by decide +kernel) (by decide +kernel)) (goodIn_sub (fun _ h => List.mem_cons_of_mem _ (List.mem_append_left _ (List.mem_append_right _ h))) (by decide +kernel))
set_option maxRecDepth 20000 in
theorem gX11_lasts_X11_needShot : GoodIn wsX11_lasts (wsV RX11 166 RX11 yX11_needShot wsX11_needShot) := goodIn_app (goodIn_of _ (by decide +kernel)) ggX11_lasts_X11_needShot
set_option maxRecDepth 20000 in
theorem ggX11_lasts_X11_within : GoodIn wsX11_lasts wsX11_within := goodIn_r _ [17] (by decide +kernel) (by decide +kernel)
set_option maxRecDepth 20000 in
theorem gX11_lasts_X11_within : GoodIn wsX11_lasts (va_wsS RX11 97 yX11_within wsX11_within) := goodIn_app (goodIn_of _ (by decide +kernel)) ggX11_lasts_X11_within
set_option maxRecDepth 20000 in
theorem ggX11_lasts_X11_need : GoodIn wsX11_lasts wsX11_need := goodIn_ca (goodIn_r _ [20, 21, 22] (by decide +kernel) (by decide +kernel)) (goodIn_sub (fun _ h => List.mem_cons_of_mem _ (List.mem_append_right _ h)) (by decide +kernel))
set_option maxRecDepth 20000 in
theorem gX11_lasts_X11_need : GoodIn wsX11_lasts (va_wsS RX11 93 yX11_need wsX11_need) := goodIn_app (goodIn_of _ (by decide +kernel)) ggX11_lasts_X11_need
set_option maxRecDepth 20000 in
theorem ggX11_clash_X11_needShot : GoodIn wsX11_clash wsX11_needShot := goodIn_ca (goodIn_r _ [6, 7, 8, 1, 9, 10, 11, 12, 13, 14, 28, 29, 30, 31, 32, 33, 34, 35, 36, 37, 38, 39, 40, 41, 42, 43, 44, 45] (by decide +kernel) (by decide +kernel)) (goodIn_sub (fun _ h => List.mem_cons_of_mem _ (List.mem_append_right _ h)) (by decide +kernel))
set_option maxRecDepth 20000 in
theorem gX11_clash_X11_needShot : GoodIn wsX11_clash (wsV RX11 166 RX11 yX11_needShot wsX11_needShot) := goodIn_app (goodIn_of _ (by decide +kernel)) ggX11_clash_X11_needShot
set_option maxRecDepth 20000 in
theorem ggX11_best_X11_need : GoodIn wsX11_best wsX11_need := goodIn_ca (goodIn_r _ [9, 10, 11] (by decide +kernel) (by decide +kernel)) (goodIn_sub (fun _ h => List.mem_cons_of_mem _ (List.mem_append_right _ h)) (by decide +kernel))
set_option maxRecDepth 20000 in
theorem gX11_best_X11_need : GoodIn wsX11_best (va_wsS RX11 93 yX11_need wsX11_need) := goodIn_app (goodIn_of _ (by decide +kernel)) ggX11_best_X11_need
set_option maxRecDepth 20000 in
theorem ggX11_best_X11_within : GoodIn wsX11_best wsX11_within := goodIn_r _ [21] (by decide +kernel) (by decide +kernel)
set_option maxRecDepth 20000 in
theorem gX11_best_X11_within : GoodIn wsX11_best (va_wsS RX11 97 yX11_within wsX11_within) := goodIn_app (goodIn_of _ (by decide +kernel)) ggX11_best_X11_within
set_option maxRecDepth 20000 in
theorem ggX11_row_X11_needShot : GoodIn wsX11_row wsX11_needShot := goodIn_ca (goodIn_r _ [7, 8, 9, 10, 11, 12, 13, 14, 15, 16, 34, 35, 36, 37, 38, 39, 40, 41, 42, 43, 44, 45, 46, 47, 48, 49, 50, 51] (by decide +kernel) (by decide +kernel)) (goodIn_sub (fun _ h => List.mem_cons_of_mem _ (List.mem_append_left _ (List.mem_append_right _ h))) (by decide +kernel))
set_option maxRecDepth 20000 in
theorem gX11_row_X11_needShot : GoodIn wsX11_row (wsV RX11 166 RX11 yX11_needShot wsX11_needShot) := goodIn_app (goodIn_of _ (by decide +kernel)) ggX11_row_X11_needShot
set_option maxRecDepth 20000 in
theorem ggX11_row_X11_within : GoodIn wsX11_row wsX11_within := goodIn_r _ [19] (by decide +kernel) (by decide +kernel)
set_option maxRecDepth 20000 in
theorem gX11_row_X11_within : GoodIn wsX11_row (va_wsS RX11 97 yX11_within wsX11_within) := goodIn_app (goodIn_of _ (by decide +kernel)) ggX11_row_X11_within
set_option maxRecDepth 20000 in
theorem ggX11_row_X11_need : GoodIn wsX11_row wsX11_need := goodIn_ca (goodIn_r _ [22, 23, 24] (by decide +kernel) (by decide +kernel)) (goodIn_sub (fun _ h => List.mem_cons_of_mem _ (List.mem_append_right _ h)) (by decide +kernel))
set_option maxRecDepth 20000 in
theorem gX11_row_X11_need : GoodIn wsX11_row (va_wsS RX11 93 yX11_need wsX11_need) := goodIn_app (goodIn_of _ (by decide +kernel)) ggX11_row_X11_need
set_option maxRecDepth 20000 in
theorem ggX11_bump_X11_needShot : GoodIn wsX11_bump wsX11_needShot := goodIn_ca (goodIn_r _ [13, 14, 15, 1, 16, 17, 18, 19, 20, 21, 93, 94, 95, 96, 97, 98, 99, 100, 101, 102, 103, 119, 120, 121, 122, 123, 124, 125] (by decide +kernel) (by decide +kernel)) (goodIn_sub (fun _ h => List.mem_cons_of_mem _ (List.mem_append_left _ (List.mem_append_left _ (List.mem_append_right _ h)))) (by decide +kernel))
set_option maxRecDepth 20000 in
theorem gX11_bump_X11_needShot : GoodIn wsX11_bump (wsV RX11 166 RX11 yX11_needShot wsX11_needShot) := goodIn_app (goodIn_of _ (by decide +kernel)) ggX11_bump_X11_needShot
set_option maxRecDepth 20000 in
theorem ggX11_bump_X11_within : GoodIn wsX11_bump wsX11_within := goodIn_r _ [35] (by decide +kernel) (by decide +kernel)
set_option maxRecDepth 20000 in
theorem gX11_bump_X11_within : GoodIn wsX11_bump (va_wsS RX11 97 yX11_within wsX11_within) := goodIn_app (goodIn_of _ (by decide +kernel)) ggX11_bump_X11_within
set_option maxRecDepth 20000 in
theorem ggX11_bump_X11_need : GoodIn wsX11_bump wsX11_need := goodIn_ca (goodIn_r _ [38, 39, 40] (by decide +kernel) (by decide +kernel)) (goodIn_sub (fun _ h => List.mem_cons_of_mem _ (List.mem_append_right _ h)) (by decide +kernel))
set_option maxRecDepth 20000 in
theorem gX11_bump_X11_need : GoodIn wsX11_bump (va_wsS RX11 93 yX11_need wsX11_need) := goodIn_app (goodIn_of _ (by decide +kernel)) ggX11_bump_X11_need
set_option maxRecDepth 20000 in
theorem ggX11_wait_X11_within : GoodIn wsX11_wait wsX11_within := goodIn_r _ [6] (by decide +kernel) (by decide +kernel)
set_option maxRecDepth 20000 in
theorem gX11_wait_X11_within : GoodIn wsX11_wait (va_wsS RX11 97 yX11_within wsX11_within) := goodIn_app (goodIn_of _ (by decide +kernel)) ggX11_wait_X11_within
set_option maxRecDepth 20000 in
theorem ggX11_wait_X11_need : GoodIn wsX11_wait wsX11_need := goodIn_ca (goodIn_r _ [9, 10, 11] (by decide +kernel) (by decide +kernel)) (goodIn_sub (fun _ h => List.mem_cons_of_mem _ (List.mem_append_right _ h)) (by decide +kernel))
set_option maxRecDepth 20000 in
theorem gX11_wait_X11_need : GoodIn wsX11_wait (va_wsS RX11 93 yX11_need wsX11_need) := goodIn_app (goodIn_of _ (by decide +kernel)) ggX11_wait_X11_need
set_option maxRecDepth 20000 in
theorem ggX11_shoot_X11_needShot : GoodIn wsX11_shoot wsX11_needShot := goodIn_ca (goodIn_r _ [7, 8, 9, 10, 11, 12, 13, 14, 15, 16, 60, 61, 62, 63, 64, 65, 66, 67, 68, 69, 70, 71, 72, 73, 74, 75, 76, 77] (by decide +kernel) (by decide +kernel)) (goodIn_sub (fun _ h => List.mem_cons_of_mem _ (List.mem_append_left _ (List.mem_append_right _ h))) (by decide +kernel))
set_option maxRecDepth 20000 in
theorem gX11_shoot_X11_needShot : GoodIn wsX11_shoot (wsV RX11 166 RX11 yX11_needShot wsX11_needShot) := goodIn_app (goodIn_of _ (by decide +kernel)) ggX11_shoot_X11_needShot
set_option maxRecDepth 20000 in
theorem ggX11_shoot_X11_within : GoodIn wsX11_shoot wsX11_within := goodIn_r _ [19] (by decide +kernel) (by decide +kernel)
set_option maxRecDepth 20000 in
theorem gX11_shoot_X11_within : GoodIn wsX11_shoot (va_wsS RX11 97 yX11_within wsX11_within) := goodIn_app (goodIn_of _ (by decide +kernel)) ggX11_shoot_X11_within
set_option maxRecDepth 20000 in
theorem ggX11_shoot_X11_need : GoodIn wsX11_shoot wsX11_need := goodIn_ca (goodIn_r _ [22, 23, 24] (by decide +kernel) (by decide +kernel)) (goodIn_sub (fun _ h => List.mem_cons_of_mem _ (List.mem_append_right _ h)) (by decide +kernel))
set_option maxRecDepth 20000 in
theorem gX11_shoot_X11_need : GoodIn wsX11_shoot (va_wsS RX11 93 yX11_need wsX11_need) := goodIn_app (goodIn_of _ (by decide +kernel)) ggX11_shoot_X11_need
set_option maxRecDepth 20000 in
theorem ggX11_when_X11_needShot : GoodIn wsX11_when wsX11_needShot := goodIn_ca (goodIn_r _ [6, 7, 8, 9, 10, 11, 12, 13, 14, 15, 40, 41, 42, 43, 44, 45, 46, 47, 48, 49, 50, 51, 52, 53, 54, 55, 56, 57] (by decide +kernel) (by decide +kernel)) (goodIn_sub (fun _ h => List.mem_cons_of_mem _ (List.mem_append_left _ (List.mem_append_right _ h))) (by decide +kernel))
set_option maxRecDepth 20000 in
theorem gX11_when_X11_needShot : GoodIn wsX11_when (wsV RX11 166 RX11 yX11_needShot wsX11_needShot) := goodIn_app (goodIn_of _ (by decide +kernel)) ggX11_when_X11_needShot
set_option maxRecDepth 20000 in
theorem ggX11_measure_X11_needShot : GoodIn wsX11_measure wsX11_needShot := goodIn_ca (goodIn_r _ [9, 10, 11, 12, 13, 14, 15, 16, 17, 18, 56, 57, 58, 59, 60, 61, 62, 63, 64, 65, 66, 90, 91, 92, 93, 94, 95, 96] (by decide +kernel) (by decide +kernel)) (goodIn_sub (fun _ h => List.mem_cons_of_mem _ (List.mem_append_left _ (List.mem_append_left _ (List.mem_append_right _ h)))) (by decide +kernel))
set_option maxRecDepth 20000 in
theorem gX11_measure_X11_needShot : GoodIn wsX11_measure (wsV RX11 166 RX11 yX11_needShot wsX11_needShot) := goodIn_app (goodIn_of _ (by decide +kernel)) ggX11_measure_X11_needShot
set_option maxRecDepth 20000 in
theorem ggX11_measure_X11_within : GoodIn wsX11_measure wsX11_within := goodIn_r _ [32] (by decide +kernel) (by decide +kernel)
set_option maxRecDepth 20000 in
theorem gX11_measure_X11_within : GoodIn wsX11_measure (va_wsS RX11 97 yX11_within wsX11_within) := goodIn_app (goodIn_of _ (by decide +kernel)) ggX11_measure_X11_within
set_option maxRecDepth 20000 in
theorem ggX11_measure_X11_need : GoodIn wsX11_measure wsX11_need := goodIn_ca (goodIn_r _ [35, 36, 37] (by decide +kernel) (by decide +kernel)) (goodIn_sub (fun _ h => List.mem_cons_of_mem _ (List.mem_append_right _ h)) (by decide +kernel))
set_option maxRecDepth 20000 in
theorem gX11_measure_X11_need : GoodIn wsX11_measure (va_wsS RX11 93 yX11_need wsX11_need) := goodIn_app (goodIn_of _ (by decide +kernel)) ggX11_measure_X11_need
set_option maxRecDepth 20000 in
theorem ggX11_mended_X11_needShot : GoodIn wsX11_mended wsX11_needShot := goodIn_ca (goodIn_r _ [6, 7, 8, 9, 10, 11, 12, 13, 14, 15, 47, 48, 49, 50, 51, 52, 53, 54, 55, 56, 57, 58, 59, 60, 61, 62, 63, 64] (by decide +kernel) (by decide +kernel)) (goodIn_sub (fun _ h => List.mem_cons_of_mem _ (List.mem_append_left _ (List.mem_append_right _ h))) (by decide +kernel))
set_option maxRecDepth 20000 in
theorem gX11_mended_X11_needShot : GoodIn wsX11_mended (wsV RX11 166 RX11 yX11_needShot wsX11_needShot) := goodIn_app (goodIn_of _ (by decide +kernel)) ggX11_mended_X11_needShot
set_option maxRecDepth 20000 in
theorem ggX11_leap_X11_needShot : GoodIn wsX11_leap wsX11_needShot := goodIn_ca (goodIn_r _ [14, 15, 16, 17, 18, 19, 20, 21, 22, 23, 50, 51, 52, 53, 54, 55, 56, 57, 58, 59, 60, 61, 62, 63, 64, 65, 66, 67] (by decide +kernel) (by decide +kernel)) (goodIn_sub (fun _ h => List.mem_cons_of_mem _ (List.mem_append_right _ h)) (by decide +kernel))
set_option maxRecDepth 20000 in
theorem gX11_leap_X11_needShot : GoodIn wsX11_leap (wsV RX11 166 RX11 yX11_needShot wsX11_needShot) := goodIn_app (goodIn_of _ (by decide +kernel)) ggX11_leap_X11_needShot
set_option maxRecDepth 20000 in
theorem ggX11_paint_X11_needShot : GoodIn wsX11_paint wsX11_needShot := goodIn_ca (goodIn_r _ [7, 8, 9, 10, 11, 12, 13, 14, 15, 16, 32, 33, 34, 35, 36, 37, 38, 39, 40, 41, 42, 43, 44, 45, 46, 47, 48, 49] (by decide +kernel) (by decide +kernel)) (goodIn_sub (fun _ h => List.mem_cons_of_mem _ (List.mem_append_right _ h)) (by decide +kernel))
set_option maxRecDepth 20000 in
theorem gX11_paint_X11_needShot : GoodIn wsX11_paint (wsV RX11 166 RX11 yX11_needShot wsX11_needShot) := goodIn_app (goodIn_of _ (by decide +kernel)) ggX11_paint_X11_needShot
set_option maxRecDepth 20000 in
theorem ggX11_dirty_X11_needShot : GoodIn wsX11_dirty wsX11_needShot := goodIn_ca (goodIn_r _ [10, 11, 12, 13, 14, 15, 16, 17, 18, 19, 47, 48, 49, 50, 51, 52, 53, 54, 55, 56, 57, 58, 59, 60, 61, 62, 63, 64] (by decide +kernel) (by decide +kernel)) (goodIn_sub (fun _ h => List.mem_cons_of_mem _ (List.mem_append_right _ h)) (by decide +kernel))
set_option maxRecDepth 20000 in
theorem gX11_dirty_X11_needShot : GoodIn wsX11_dirty (wsV RX11 166 RX11 yX11_needShot wsX11_needShot) := goodIn_app (goodIn_of _ (by decide +kernel)) ggX11_dirty_X11_needShot
set_option maxRecDepth 20000 in
theorem ggX11_animator_X11_within : GoodIn wsX11_animator wsX11_within := goodIn_r _ [5] (by decide +kernel) (by decide +kernel)
set_option maxRecDepth 20000 in
theorem gX11_animator_X11_within : GoodIn wsX11_animator (va_wsS RX11 97 yX11_within wsX11_within) := goodIn_app (goodIn_of _ (by decide +kernel)) ggX11_animator_X11_within
set_option maxRecDepth 20000 in
theorem ggX11_animator_X11_need : GoodIn wsX11_animator wsX11_need := goodIn_ca (goodIn_r _ [8, 9, 10] (by decide +kernel) (by decide +kernel)) (goodIn_sub (fun _ h => List.mem_cons_of_mem _ (List.mem_append_right _ h)) (by decide +kernel))
set_option maxRecDepth 20000 in
theorem gX11_animator_X11_need : GoodIn wsX11_animator (va_wsS RX11 93 yX11_need wsX11_need) := goodIn_app (goodIn_of _ (by decide +kernel)) ggX11_animator_X11_need
set_option maxRecDepth 20000 in
theorem ggX11_animator_X1_addAnimator : GoodIn wsX11_animator wsX1_addAnimator := goodIn_r _ [15, 16, 17, 29, 30, 31, 32, 33, 34, 35, 36, 37, 38, 39, 40, 41, 42, 43, 44, 45, 46] (by decide +kernel) (by decide +kernel)
set_option maxRecDepth 20000 in
theorem gX11_animator_X1_addAnimator : GoodIn wsX11_animator (wsV RX11 358 RX1 yX1_addAnimator wsX1_addAnimator) := goodIn_app (goodIn_of _ (by decide +kernel)) ggX11_animator_X1_addAnimator
set_option maxRecDepth 20000 in
theorem ggX11_station_X11_needUnit : GoodIn wsX11_station wsX11_needUnit := goodIn_ca (goodIn_r _ [7, 8, 9, 10, 11, 6, 12] (by decide +kernel) (by decide +kernel)) (goodIn_sub (fun _ h => List.mem_cons_of_mem _ (List.mem_append_left _ (List.mem_append_right _ h))) (by decide +kernel))
set_option maxRecDepth 20000 in
theorem gX11_station_X11_needUnit : GoodIn wsX11_station (va_wsS RX11 361 yX11_needUnit wsX11_needUnit) := goodIn_app (goodIn_of _ (by decide +kernel)) ggX11_station_X11_needUnit
set_option maxRecDepth 20000 in
theorem ggX11_station_X11_within : GoodIn wsX11_station wsX11_within := goodIn_r _ [12] (by decide +kernel) (by decide +kernel)
set_option maxRecDepth 20000 in
theorem gX11_station_X11_within : GoodIn wsX11_station (va_wsS RX11 97 yX11_within wsX11_within) := goodIn_app (goodIn_of _ (by decide +kernel)) ggX11_station_X11_within
set_option maxRecDepth 20000 in
theorem ggX11_station_X11_need : GoodIn wsX11_station wsX11_need := goodIn_ca (goodIn_r _ [15, 16, 17] (by decide +kernel) (by decide +kernel)) (goodIn_sub (fun _ h => List.mem_cons_of_mem _ (List.mem_append_right _ h)) (by decide +kernel))
set_option maxRecDepth 20000 in
theorem gX11_station_X11_need : GoodIn wsX11_station (va_wsS RX11 93 yX11_need wsX11_need) := goodIn_app (goodIn_of _ (by decide +kernel)) ggX11_station_X11_need
set_option maxRecDepth 20000 in
theorem ggX11_station_X11_swapIn : GoodIn wsX11_station wsX11_swapIn := goodIn_r _ [20] (by decide +kernel) (by decide +kernel)
set_option maxRecDepth 20000 in
theorem gX11_station_X11_swapIn : GoodIn wsX11_station (va_wsS RX11 121 yX11_swapIn wsX11_swapIn) := goodIn_app (goodIn_of _ (by decide +kernel)) ggX11_station_X11_swapIn
set_option maxRecDepth 20000 in
theorem ggX11_queue_X11_needShot : GoodIn wsX11_queue wsX11_needShot := goodIn_ca (goodIn_r _ [7, 8, 9, 10, 11, 12, 13, 14, 15, 16, 55, 56, 57, 58, 59, 60, 61, 62, 63, 64, 65, 81, 82, 83, 84, 85, 86, 87] (by decide +kernel) (by decide +kernel)) (goodIn_sub (fun _ h => List.mem_cons_of_mem _ (List.mem_append_left _ (List.mem_append_right _ h))) (by decide +kernel))
set_option maxRecDepth 20000 in
theorem gX11_queue_X11_needShot : GoodIn wsX11_queue (wsV RX11 166 RX11 yX11_needShot wsX11_needShot) := goodIn_app (goodIn_of _ (by decide +kernel)) ggX11_queue_X11_needShot
set_option maxRecDepth 20000 in
theorem ggX11_queue_X11_needUnit : GoodIn wsX11_queue wsX11_needUnit := goodIn_ca (goodIn_r _ [19, 20, 21, 22, 23, 6, 24] (by decide +kernel) (by decide +kernel)) (goodIn_sub (fun _ h => List.mem_cons_of_mem _ (List.mem_append_right _ h)) (by decide +kernel))
set_option maxRecDepth 20000 in
theorem gX11_queue_X11_needUnit : GoodIn wsX11_queue (va_wsS RX11 361 yX11_needUnit wsX11_needUnit) := goodIn_app (goodIn_of _ (by decide +kernel)) ggX11_queue_X11_needUnit
set_option maxRecDepth 20000 in
theorem ggX11_queue_X1_queuedIn : GoodIn wsX11_queue wsX1_queuedIn := goodIn_r _ [29, 30, 31, 6, 32, 88, 89, 90, 91, 92, 93, 94, 95, 96, 97, 98, 99, 100, 101, 102, 103, 104, 105] (by decide +kernel) (by decide +kernel)
set_option maxRecDepth 20000 in
theorem gX11_queue_X1_queuedIn : GoodIn wsX11_queue (wsV RX11 370 RX1 yX1_queuedIn wsX1_queuedIn) := goodIn_app (goodIn_of _ (by decide +kernel)) ggX11_queue_X1_queuedIn
set_option maxRecDepth 20000 in
theorem ggX11_floor_X11_within : GoodIn wsX11_floor wsX11_within := goodIn_r _ [6] (by decide +kernel) (by decide +kernel)
set_option maxRecDepth 20000 in
theorem gX11_floor_X11_within : GoodIn wsX11_floor (va_wsS RX11 97 yX11_within wsX11_within) := goodIn_app (goodIn_of _ (by decide +kernel)) ggX11_floor_X11_within
set_option maxRecDepth 20000 in
theorem ggX11_floor_X11_need : GoodIn wsX11_floor wsX11_need := goodIn_ca (goodIn_r _ [9, 10, 11] (by decide +kernel) (by decide +kernel)) (goodIn_sub (fun _ h => List.mem_cons_of_mem _ (List.mem_append_right _ h)) (by decide +kernel))
set_option maxRecDepth 20000 in
theorem gX11_floor_X11_need : GoodIn wsX11_floor (va_wsS RX11 93 yX11_need wsX11_need) := goodIn_app (goodIn_of _ (by decide +kernel)) ggX11_floor_X11_need
set_option maxRecDepth 20000 in
theorem ggX11_floor_X1_pass : GoodIn wsX11_floor wsX1_pass := goodIn_r _ [16, 17, 18, 19, 20, 21, 22, 15, 23, 24, 25, 26, 27, 28, 29, 30, 31, 32, 33, 34, 35, 36, 37, 38, 39, 40, 41, 42, 43, 44, 45, 46, 47, 48, 4, 5, 6, 49, 50, 51, 52, 53, 54, 55, 56, 57, 58, 59, 60, 61, 62, 63, 64, 65, 66, 67, 68, 69, 70, 71, 72, 73, 74, 75, 76, 77, 78, 79, 80, 81, 82, 83, 84, 85, 86, 87, 88, 89, 90, 91, 92, 93, 94, 95, 96, 97, 98, 99, 100, 101, 102, 103, 104, 105, 106, 107, 108, 109, 110, 111, 112, 113, 114, 115, 116, 117, 118, 119, 120, 121, 122, 123, 124, 125, 126, 127, 128, 129, 130, 131, 132, 133, 134, 135, 136, 137, 138, 139, 140, 141, 142, 143, 144, 145, 146, 147, 148, 149, 150, 151, 152, 153, 154, 155, 156, 157, 158, 159, 160, 161, 162, 163, 164, 165, 166, 167, 168, 169, 170, 171, 172, 184, 185, 186, 187, 188, 189, 190, 191, 192, 193, 194, 195, 196, 197, 198, 199, 200, 201, 202, 203, 204, 205, 206, 207, 208, 209, 210, 211, 212, 213, 214, 215, 216, 217, 218, 219, 220, 221, 222, 223, 224, 225, 226, 227, 228, 229, 230, 231, 232, 233, 234] (by decide +kernel) (by decide +kernel)
set_option maxRecDepth 20000 in
theorem gX11_floor_X1_pass : GoodIn wsX11_floor (wsV RX11 379 RX1 yX1_pass wsX1_pass) := goodIn_app (goodIn_of _ (by decide +kernel)) ggX11_floor_X1_pass
set_option maxRecDepth 20000 in
theorem ggX11_on_X11_needUnit : GoodIn wsX11_on wsX11_needUnit := goodIn_ca (goodIn_r _ [7, 8, 9, 10, 11, 6, 12] (by decide +kernel) (by decide +kernel)) (goodIn_sub (fun _ h => List.mem_cons_of_mem _ (List.mem_append_right _ h)) (by decide +kernel))
set_option maxRecDepth 20000 in
theorem gX11_on_X11_needUnit : GoodIn wsX11_on (va_wsS RX11 361 yX11_needUnit wsX11_needUnit) := goodIn_app (goodIn_of _ (by decide +kernel)) ggX11_on_X11_needUnit
set_option maxRecDepth 20000 in
theorem ggX11_on_X1_onIn : GoodIn wsX11_on wsX1_onIn := goodIn_r _ [17, 18, 19, 6, 20, 62, 63, 64, 65, 66, 67, 68, 69, 70, 71, 72, 73, 74, 75, 76, 77, 78, 79] (by decide +kernel) (by decide +kernel)
set_option maxRecDepth 20000 in
theorem gX11_on_X1_onIn : GoodIn wsX11_on (wsV RX11 382 RX1 yX1_onIn wsX1_onIn) := goodIn_app (goodIn_of _ (by decide +kernel)) ggX11_on_X1_onIn
set_option maxRecDepth 20000 in
theorem ggX11_on_X1_dressedIn : GoodIn wsX11_on wsX1_dressedIn := goodIn_r _ [24, 25, 26, 27, 28, 29, 14, 15, 16, 17, 18, 19, 6, 20, 30, 31, 32, 33, 34, 35, 62, 63, 64, 65, 66, 67, 68, 69, 70, 71, 72, 73, 74, 75, 76, 77, 78, 79, 80, 81, 82, 83, 84, 85, 86, 87, 88, 89, 90, 91, 92, 93, 94, 95, 96, 97, 98, 99, 100, 101] (by decide +kernel) (by decide +kernel)
set_option maxRecDepth 20000 in
theorem gX11_on_X1_dressedIn : GoodIn wsX11_on (wsV RX11 385 RX1 yX1_dressedIn wsX1_dressedIn) := goodIn_app (goodIn_of _ (by decide +kernel)) ggX11_on_X1_dressedIn
set_option maxRecDepth 20000 in
theorem ggX11_on_X1_queuedIn : GoodIn wsX11_on wsX1_queuedIn := goodIn_r _ [39, 40, 19, 6, 20, 62, 63, 64, 65, 66, 67, 68, 69, 70, 71, 72, 73, 74, 75, 76, 77, 78, 79] (by decide +kernel) (by decide +kernel)
set_option maxRecDepth 20000 in
theorem gX11_on_X1_queuedIn : GoodIn wsX11_on (wsV RX11 370 RX1 yX1_queuedIn wsX1_queuedIn) := goodIn_app (goodIn_of _ (by decide +kernel)) ggX11_on_X1_queuedIn
set_option maxRecDepth 20000 in
theorem ggX11_on_X1_firstIn : GoodIn wsX11_on wsX1_firstIn := goodIn_r _ [44, 45, 37, 38, 16, 39, 40, 19, 6, 20, 46, 47, 48, 49, 50, 11, 12, 62, 63, 64, 65, 66, 67, 68, 69, 70, 71, 72, 73, 74, 75, 76, 77, 78, 79] (by decide +kernel) (by decide +kernel)
set_option maxRecDepth 20000 in
theorem gX11_on_X1_firstIn : GoodIn wsX11_on (wsV RX11 388 RX1 yX1_firstIn wsX1_firstIn) := goodIn_app (goodIn_of _ (by decide +kernel)) ggX11_on_X1_firstIn
set_option maxRecDepth 20000 in
theorem ggX11_stands_X11_within : GoodIn wsX11_stands wsX11_within := goodIn_r _ [5] (by decide +kernel) (by decide +kernel)
set_option maxRecDepth 20000 in
theorem gX11_stands_X11_within : GoodIn wsX11_stands (va_wsS RX11 97 yX11_within wsX11_within) := goodIn_app (goodIn_of _ (by decide +kernel)) ggX11_stands_X11_within
set_option maxRecDepth 20000 in
theorem ggX11_stands_X11_need : GoodIn wsX11_stands wsX11_need := goodIn_ca (goodIn_r _ [8, 9, 10] (by decide +kernel) (by decide +kernel)) (goodIn_sub (fun _ h => List.mem_cons_of_mem _ (List.mem_append_right _ h)) (by decide +kernel))
set_option maxRecDepth 20000 in
theorem gX11_stands_X11_need : GoodIn wsX11_stands (va_wsS RX11 93 yX11_need wsX11_need) := goodIn_app (goodIn_of _ (by decide +kernel)) ggX11_stands_X11_need
set_option maxRecDepth 20000 in
theorem ggX11_stands_X1_standsIn : GoodIn wsX11_stands wsX1_standsIn := goodIn_r _ [15, 16, 17, 4, 18, 30, 31, 32, 33, 34, 35, 36, 37, 38, 39, 40, 41, 42, 43, 44, 45, 46, 47] (by decide +kernel) (by decide +kernel)
set_option maxRecDepth 20000 in
theorem gX11_stands_X1_standsIn : GoodIn wsX11_stands (wsV RX11 391 RX1 yX1_standsIn wsX1_standsIn) := goodIn_app (goodIn_of _ (by decide +kernel)) ggX11_stands_X1_standsIn
set_option maxRecDepth 20000 in
theorem ggX11_worked_X11_within : GoodIn wsX11_worked wsX11_within := goodIn_r _ [6] (by decide +kernel) (by decide +kernel)
set_option maxRecDepth 20000 in
theorem gX11_worked_X11_within : GoodIn wsX11_worked (va_wsS RX11 97 yX11_within wsX11_within) := goodIn_app (goodIn_of _ (by decide +kernel)) ggX11_worked_X11_within
set_option maxRecDepth 20000 in
theorem ggX11_worked_X11_need : GoodIn wsX11_worked wsX11_need := goodIn_ca (goodIn_r _ [9, 10, 11] (by decide +kernel) (by decide +kernel)) (goodIn_sub (fun _ h => List.mem_cons_of_mem _ (List.mem_append_right _ h)) (by decide +kernel))
set_option maxRecDepth 20000 in
theorem gX11_worked_X11_need : GoodIn wsX11_worked (va_wsS RX11 93 yX11_need wsX11_need) := goodIn_app (goodIn_of _ (by decide +kernel)) ggX11_worked_X11_need
set_option maxRecDepth 20000 in
theorem ggX11_foretold_X1_copyFrom : GoodIn wsX11_foretold wsX1_copyFrom := goodIn_r _ [7, 8, 9, 10, 11, 12, 13, 14, 15, 16, 17, 18, 19, 20, 21, 22, 23, 24, 25, 26, 195, 196, 197, 198, 199, 200, 201, 202, 203, 204, 205, 206, 207, 208, 209, 210, 211, 212] (by decide +kernel) (by decide +kernel)
set_option maxRecDepth 20000 in
theorem gX11_foretold_X1_copyFrom : GoodIn wsX11_foretold (wsV RX11 397 RX1 yX1_copyFrom wsX1_copyFrom) := goodIn_app (goodIn_of _ (by decide +kernel)) ggX11_foretold_X1_copyFrom
set_option maxRecDepth 20000 in
theorem ggX11_foretold_X1_isDone : GoodIn wsX11_foretold wsX1_isDone := goodIn_r _ [30, 14, 16, 195, 196, 197, 198, 199, 200, 201, 202, 203, 204, 205, 206, 207, 208, 209, 210, 211, 212] (by decide +kernel) (by decide +kernel)
set_option maxRecDepth 20000 in
theorem gX11_foretold_X1_isDone : GoodIn wsX11_foretold (wsV RX11 401 RX1 yX1_isDone wsX1_isDone) := goodIn_app (goodIn_of _ (by decide +kernel)) ggX11_foretold_X1_isDone
set_option maxRecDepth 20000 in
theorem ggX11_foretold_X1_pass : GoodIn wsX11_foretold wsX1_pass := goodIn_r _ [34, 35, 8, 26, 36, 37, 38, 6, 39, 25, 24, 40, 41, 42, 43, 44, 45, 46, 47, 14, 48, 18, 49, 50, 51, 52, 53, 16, 17, 54, 55, 56, 57, 15, 58, 59, 60, 61, 62, 63, 64, 65, 66, 67, 68, 69, 70, 71, 72, 73, 74, 75, 76, 77, 9, 78, 79, 80, 81, 82, 83, 84, 85, 86, 87, 88, 89, 90, 91, 92, 93, 94, 95, 20, 96, 97, 98, 99, 100, 101, 102, 103, 104, 105, 106, 107, 108, 109, 110, 111, 112, 113, 114, 115, 116, 117, 118, 119, 120, 19, 121, 122, 123, 124, 125, 126, 127, 128, 129, 130, 131, 132, 133, 134, 135, 136, 137, 21, 23, 138, 139, 140, 141, 142, 143, 144, 145, 146, 147, 148, 149, 150, 151, 152, 153, 154, 155, 156, 157, 158, 159, 160, 161, 162, 163, 164, 165, 166, 167, 168, 169, 170, 171, 172, 173, 174, 175, 176, 177, 178, 179, 195, 196, 197, 198, 199, 200, 201, 202, 203, 204, 205, 206, 207, 208, 209, 210, 211, 212, 213, 214, 215, 216, 217, 218, 219, 220, 221, 222, 223, 224, 225, 226, 227, 228, 229, 230, 231, 232, 233, 234, 235, 236, 237, 238, 239, 240, 241, 242, 243, 244, 245] (by decide +kernel) (by decide +kernel)
set_option maxRecDepth 20000 in
theorem gX11_foretold_X1_pass : GoodIn wsX11_foretold (wsV RX11 379 RX1 yX1_pass wsX1_pass) := goodIn_app (goodIn_of _ (by decide +kernel)) ggX11_foretold_X1_pass
set_option maxRecDepth 20000 in
theorem ggX11_needShot_X8_shotAt : GoodIn wsX11_needShot wsX8_shotAt := goodIn_r _ [8, 9, 21, 22, 23, 24, 25, 26, 27] (by decide +kernel) (by decide +kernel)
set_option maxRecDepth 20000 in
theorem gX11_needShot_X8_shotAt : GoodIn wsX11_needShot (wsV RX11 271 RX8 yX8_shotAt wsX8_shotAt) := goodIn_app (goodIn_of _ (by decide +kernel)) ggX11_needShot_X8_shotAt
set_option maxRecDepth 20000 in
theorem ggX11_needPuppet_X8_puppetAt : GoodIn wsX11_needPuppet wsX8_puppetAt := goodIn_r _ [8, 9, 21, 22, 23, 24, 25, 26, 27] (by decide +kernel) (by decide +kernel)
set_option maxRecDepth 20000 in
theorem gX11_needPuppet_X8_puppetAt : GoodIn wsX11_needPuppet (wsV RX11 197 RX8 yX8_puppetAt wsX8_puppetAt) := goodIn_app (goodIn_of _ (by decide +kernel)) ggX11_needPuppet_X8_puppetAt
set_option maxRecDepth 20000 in
theorem ggX11_needUnit_X11_within : GoodIn wsX11_needUnit wsX11_within := goodIn_r _ [6] (by decide +kernel) (by decide +kernel)
set_option maxRecDepth 20000 in
theorem gX11_needUnit_X11_within : GoodIn wsX11_needUnit (va_wsS RX11 97 yX11_within wsX11_within) := goodIn_app (goodIn_of _ (by decide +kernel)) ggX11_needUnit_X11_within
set_option maxRecDepth 20000 in
theorem ggX12_isPuppet_X12_within : GoodIn wsX12_isPuppet wsX12_within := goodIn_r _ [5] (by decide +kernel) (by decide +kernel)
set_option maxRecDepth 20000 in
theorem gX12_isPuppet_X12_within : GoodIn wsX12_isPuppet (va_wsS RX12 267 yX12_within wsX12_within) := goodIn_app (goodIn_of _ (by decide +kernel)) ggX12_isPuppet_X12_within
set_option maxRecDepth 20000 in
theorem ggX12_isPuppet_X12_may : GoodIn wsX12_isPuppet wsX12_may := goodIn_r _ [9, 10, 11, 12, 13, 14, 15, 16, 17, 18, 19, 20, 21, 22, 23, 24, 25, 26, 27, 28, 29, 30, 31, 32, 33, 34, 35, 36, 37, 38, 39, 40, 41, 42, 43, 44, 45, 46, 47, 48, 49, 50, 51, 52, 53, 54, 55, 56, 57, 58, 59, 60, 61, 62, 63, 64, 65, 66, 67, 68, 69, 70, 71, 72, 73, 74, 75, 76, 77, 78, 79, 80, 81, 82, 83, 84, 85, 86, 87, 88, 89, 90, 91, 92, 93, 94, 95, 96, 97, 98, 99, 100, 101, 102, 103, 104, 105, 106, 107, 108, 109, 110, 111, 112, 113, 114, 115, 116, 117, 118, 119] (by decide +kernel) (by decide +kernel)
set_option maxRecDepth 20000 in
theorem gX12_isPuppet_X12_may : GoodIn wsX12_isPuppet (wsV RX12 271 RX12 yX12_may wsX12_may) := goodIn_app (goodIn_of _ (by decide +kernel)) ggX12_isPuppet_X12_may
set_option maxRecDepth 20000 in
theorem ggX12_joint_X12_isPuppet : GoodIn wsX12_joint wsX12_isPuppet := goodIn_r _ [12, 13, 14, 15, 11, 16, 17, 18, 19, 20, 1, 21, 22, 23, 24, 25, 26, 27, 28, 29, 30, 31, 32, 33, 34, 35, 36, 37, 38, 39, 40, 41, 42, 43, 44, 45, 46, 47, 48, 49, 50, 51, 52, 53, 54, 55, 56, 57, 58, 59, 60, 61, 62, 63, 64, 65, 66, 67, 68, 69, 70, 71, 72, 73, 74, 75, 76, 77, 78, 79, 80, 81, 82, 83, 84, 85, 86, 87, 88, 89, 90, 91, 92, 93, 94, 95, 96, 97, 98, 99, 100, 101, 102, 103, 104, 105, 106, 107, 108, 109, 110, 111, 112, 113, 114, 115, 116, 117, 118, 119, 120, 121, 122, 123, 124, 125, 126, 127, 128, 129] (by decide +kernel) (by decide +kernel)
set_option maxRecDepth 20000 in
theorem gX12_joint_X12_isPuppet : GoodIn wsX12_joint (wsV RX12 275 RX12 yX12_isPuppet wsX12_isPuppet) := goodIn_app (goodIn_of _ (by decide +kernel)) ggX12_joint_X12_isPuppet
set_option maxRecDepth 20000 in
theorem ggX12_joint_X12_within : GoodIn wsX12_joint wsX12_within := goodIn_r _ [16] (by decide +kernel) (by decide +kernel)
set_option maxRecDepth 20000 in
theorem gX12_joint_X12_within : GoodIn wsX12_joint (va_wsS RX12 267 yX12_within wsX12_within) := goodIn_app (goodIn_of _ (by decide +kernel)) ggX12_joint_X12_within
set_option maxRecDepth 20000 in
theorem ggX12_joint_X12_may : GoodIn wsX12_joint wsX12_may := goodIn_r _ [20, 1, 21, 22, 23, 24, 25, 26, 27, 28, 29, 30, 31, 32, 33, 34, 35, 36, 37, 38, 39, 40, 41, 42, 43, 44, 45, 46, 47, 48, 49, 50, 51, 52, 53, 54, 55, 56, 57, 58, 59, 60, 61, 62, 63, 64, 65, 66, 67, 68, 69, 70, 71, 72, 73, 74, 75, 76, 77, 78, 79, 80, 81, 82, 83, 84, 85, 86, 87, 88, 89, 90, 91, 92, 93, 94, 95, 96, 97, 98, 99, 100, 101, 102, 103, 104, 105, 106, 107, 108, 109, 110, 111, 112, 113, 114, 115, 116, 117, 118, 119, 120, 121, 122, 123, 124, 125, 126, 127, 128, 129] (by decide +kernel) (by decide +kernel)
set_option maxRecDepth 20000 in
theorem gX12_joint_X12_may : GoodIn wsX12_joint (wsV RX12 271 RX12 yX12_may wsX12_may) := goodIn_app (goodIn_of _ (by decide +kernel)) ggX12_joint_X12_may
set_option maxRecDepth 20000 in
theorem ggX12_feet_X12_isPuppet : GoodIn wsX12_feet wsX12_isPuppet := goodIn_r _ [8, 9, 10, 11, 7, 12, 13, 14, 15, 16, 1, 17, 18, 19, 20, 21, 22, 23, 24, 25, 26, 27, 28, 29, 30, 31, 32, 33, 34, 35, 36, 37, 38, 39, 40, 41, 42, 43, 44, 45, 46, 47, 48, 49, 50, 51, 52, 53, 54, 55, 56, 57, 58, 59, 60, 61, 62, 63, 64, 65, 66, 67, 68, 69, 70, 71, 72, 73, 74, 75, 76, 77, 78, 79, 80, 81, 82, 83, 84, 85, 86, 87, 88, 89, 90, 91, 92, 93, 94, 95, 96, 97, 98, 99, 100, 101, 102, 103, 104, 105, 106, 107, 108, 109, 110, 111, 112, 113, 114, 115, 116, 117, 118, 119, 120, 121, 122, 123, 124, 125] (by decide +kernel) (by decide +kernel)
set_option maxRecDepth 20000 in
theorem gX12_feet_X12_isPuppet : GoodIn wsX12_feet (wsV RX12 275 RX12 yX12_isPuppet wsX12_isPuppet) := goodIn_app (goodIn_of _ (by decide +kernel)) ggX12_feet_X12_isPuppet
set_option maxRecDepth 20000 in
theorem ggX12_feet_X12_within : GoodIn wsX12_feet wsX12_within := goodIn_r _ [12] (by decide +kernel) (by decide +kernel)
set_option maxRecDepth 20000 in
theorem gX12_feet_X12_within : GoodIn wsX12_feet (va_wsS RX12 267 yX12_within wsX12_within) := goodIn_app (goodIn_of _ (by decide +kernel)) ggX12_feet_X12_within
set_option maxRecDepth 20000 in
theorem ggX12_feet_X12_may : GoodIn wsX12_feet wsX12_may := goodIn_r _ [16, 1, 17, 18, 19, 20, 21, 22, 23, 24, 25, 26, 27, 28, 29, 30, 31, 32, 33, 34, 35, 36, 37, 38, 39, 40, 41, 42, 43, 44, 45, 46, 47, 48, 49, 50, 51, 52, 53, 54, 55, 56, 57, 58, 59, 60, 61, 62, 63, 64, 65, 66, 67, 68, 69, 70, 71, 72, 73, 74, 75, 76, 77, 78, 79, 80, 81, 82, 83, 84, 85, 86, 87, 88, 89, 90, 91, 92, 93, 94, 95, 96, 97, 98, 99, 100, 101, 102, 103, 104, 105, 106, 107, 108, 109, 110, 111, 112, 113, 114, 115, 116, 117, 118, 119, 120, 121, 122, 123, 124, 125] (by decide +kernel) (by decide +kernel)
set_option maxRecDepth 20000 in
theorem gX12_feet_X12_may : GoodIn wsX12_feet (wsV RX12 271 RX12 yX12_may wsX12_may) := goodIn_app (goodIn_of _ (by decide +kernel)) ggX12_feet_X12_may
set_option maxRecDepth 20000 in
theorem ggX12_kit_X12_isPuppet : GoodIn wsX12_kit wsX12_isPuppet := goodIn_r _ [7, 8, 9, 10, 6, 11, 12, 13, 14, 15, 1, 16, 17, 18, 19, 20, 21, 22, 23, 24, 25, 26, 27, 28, 29, 30, 31, 32, 33, 34, 35, 36, 37, 38, 39, 40, 41, 42, 43, 44, 45, 46, 47, 48, 49, 50, 51, 52, 53, 54, 55, 56, 57, 58, 59, 60, 61, 62, 63, 64, 65, 66, 67, 68, 69, 70, 71, 72, 73, 74, 75, 76, 77, 78, 79, 80, 81, 82, 83, 84, 85, 86, 87, 88, 89, 90, 91, 92, 93, 94, 95, 96, 97, 98, 99, 100, 101, 102, 103, 104, 105, 106, 107, 108, 109, 110, 111, 112, 113, 114, 115, 116, 117, 118, 119, 120, 121, 122, 123, 124] (by decide +kernel) (by decide +kernel)
set_option maxRecDepth 20000 in
theorem gX12_kit_X12_isPuppet : GoodIn wsX12_kit (wsV RX12 275 RX12 yX12_isPuppet wsX12_isPuppet) := goodIn_app (goodIn_of _ (by decide +kernel)) ggX12_kit_X12_isPuppet
set_option maxRecDepth 20000 in
theorem ggX12_kit_X12_within : GoodIn wsX12_kit wsX12_within := goodIn_r _ [11] (by decide +kernel) (by decide +kernel)
set_option maxRecDepth 20000 in
theorem gX12_kit_X12_within : GoodIn wsX12_kit (va_wsS RX12 267 yX12_within wsX12_within) := goodIn_app (goodIn_of _ (by decide +kernel)) ggX12_kit_X12_within
set_option maxRecDepth 20000 in
theorem ggX12_kit_X12_may : GoodIn wsX12_kit wsX12_may := goodIn_r _ [15, 1, 16, 17, 18, 19, 20, 21, 22, 23, 24, 25, 26, 27, 28, 29, 30, 31, 32, 33, 34, 35, 36, 37, 38, 39, 40, 41, 42, 43, 44, 45, 46, 47, 48, 49, 50, 51, 52, 53, 54, 55, 56, 57, 58, 59, 60, 61, 62, 63, 64, 65, 66, 67, 68, 69, 70, 71, 72, 73, 74, 75, 76, 77, 78, 79, 80, 81, 82, 83, 84, 85, 86, 87, 88, 89, 90, 91, 92, 93, 94, 95, 96, 97, 98, 99, 100, 101, 102, 103, 104, 105, 106, 107, 108, 109, 110, 111, 112, 113, 114, 115, 116, 117, 118, 119, 120, 121, 122, 123, 124] (by decide +kernel) (by decide +kernel)
set_option maxRecDepth 20000 in
theorem gX12_kit_X12_may : GoodIn wsX12_kit (wsV RX12 271 RX12 yX12_may wsX12_may) := goodIn_app (goodIn_of _ (by decide +kernel)) ggX12_kit_X12_may
set_option maxRecDepth 20000 in
theorem ggX12_sound_X12_within : GoodIn wsX12_sound wsX12_within := goodIn_r _ [6] (by decide +kernel) (by decide +kernel)
set_option maxRecDepth 20000 in
theorem gX12_sound_X12_within : GoodIn wsX12_sound (va_wsS RX12 267 yX12_within wsX12_within) := goodIn_app (goodIn_of _ (by decide +kernel)) ggX12_sound_X12_within
set_option maxRecDepth 20000 in
theorem ggX12_sound_X12_may : GoodIn wsX12_sound wsX12_may := goodIn_r _ [10, 1, 11, 12, 13, 14, 15, 16, 17, 18, 19, 20, 21, 22, 23, 24, 25, 26, 27, 28, 29, 30, 31, 32, 33, 34, 35, 36, 37, 38, 39, 40, 41, 42, 43, 44, 45, 46, 47, 48, 49, 50, 51, 52, 53, 54, 55, 56, 57, 58, 59, 60, 61, 62, 63, 64, 65, 66, 67, 68, 69, 70, 71, 72, 73, 74, 75, 76, 77, 78, 79, 80, 81, 82, 83, 84, 85, 86, 87, 88, 89, 90, 91, 92, 93, 94, 95, 96, 97, 98, 99, 100, 101, 102, 103, 104, 105, 106, 107, 108, 109, 110, 111, 112, 113, 114, 115, 116, 117, 118, 119] (by decide +kernel) (by decide +kernel)
set_option maxRecDepth 20000 in
theorem gX12_sound_X12_may : GoodIn wsX12_sound (wsV RX12 271 RX12 yX12_may wsX12_may) := goodIn_app (goodIn_of _ (by decide +kernel)) ggX12_sound_X12_may
set_option maxRecDepth 20000 in
theorem ggX12_counts_X12_counts : GoodIn wsX12_counts wsX12_counts := goodIn_r _ [0, 1, 2, 3, 4, 5, 6, 7, 8, 9, 10, 11, 12, 13, 14, 15, 16, 17, 18, 19, 20, 21, 22, 23, 24, 25, 26, 27, 28, 29, 30, 31, 32, 33, 34, 35, 36, 37, 38, 39, 40, 41, 42, 43, 44, 45, 46, 47, 48, 49, 50, 51, 52, 53, 54, 55, 56, 57, 58, 59, 60, 61, 62, 63, 64, 65, 66, 67, 68, 69, 70, 71, 72, 73, 74, 75, 76, 77, 78, 79, 80, 81, 82, 83, 84, 85, 86, 87, 88, 89, 90, 91, 92, 93, 94, 95, 96, 97, 98, 99, 100, 101, 102, 103, 104, 105, 106, 107, 108, 109, 110, 111, 112, 113, 114, 115, 116, 117, 118] (by decide +kernel) (by decide +kernel)
set_option maxRecDepth 20000 in
theorem gX12_counts_X12_counts : GoodIn wsX12_counts (wsV RX12 386 RX12 yX12_counts wsX12_counts) := goodIn_app (goodIn_of _ (by decide +kernel)) ggX12_counts_X12_counts
set_option maxRecDepth 20000 in
theorem ggX12_shot_X12_may : GoodIn wsX12_shot wsX12_may := goodIn_r _ [34, 1, 178, 179, 180, 181, 182, 183, 184, 185, 186, 187, 188, 189, 190, 191, 192, 193, 194, 195, 196, 197, 198, 199, 200, 201, 202, 203, 204, 205, 206, 207, 208, 209, 210, 211, 212, 213, 214, 215, 216, 217, 218, 219, 220, 221, 222, 223, 224, 225, 226, 227, 228, 229, 230, 231, 232, 233, 234, 235, 236, 237, 238, 239, 240, 241, 242, 243, 244, 245, 246, 247, 248, 249, 250, 251, 252, 253, 254, 255, 256, 257, 258, 259, 260, 261, 262, 263, 264, 265, 266, 267, 268, 269, 270, 271, 272, 273, 274, 275, 276, 277, 278, 279, 280, 281, 282, 283, 284, 285, 286] (by decide +kernel) (by decide +kernel)
set_option maxRecDepth 20000 in
theorem gX12_shot_X12_may : GoodIn wsX12_shot (wsV RX12 271 RX12 yX12_may wsX12_may) := goodIn_app (goodIn_of _ (by decide +kernel)) ggX12_shot_X12_may
set_option maxRecDepth 20000 in
theorem ggX12_shot_X12_fine : GoodIn wsX12_shot wsX12_fine := goodIn_r _ [38, 6, 178, 179, 180, 181, 182, 183, 184, 185, 186, 187, 188, 189, 190, 191, 192, 193, 194, 195, 196, 197, 198, 199, 200, 201, 202, 203, 204, 205, 206, 207, 208, 209, 210, 211, 212, 213, 214, 215, 216, 217, 218, 219, 220, 221, 222, 223, 224, 225, 226, 227, 228, 229, 230, 231, 232, 233, 234, 235, 236, 237, 238, 239, 240, 241, 242, 243, 244, 245, 246, 247, 248, 249, 250, 251, 252, 253, 254, 255, 256, 257, 258, 259, 260, 261, 262, 263, 264, 265, 266, 267, 268, 269, 270, 271, 272, 273, 274, 275, 276, 277, 278, 279, 280, 281, 282, 283, 284, 285, 286] (by decide +kernel) (by decide +kernel)
set_option maxRecDepth 20000 in
theorem gX12_shot_X12_fine : GoodIn wsX12_shot (wsV RX12 302 RX12 yX12_fine wsX12_fine) := goodIn_app (goodIn_of _ (by decide +kernel)) ggX12_shot_X12_fine
set_option maxRecDepth 20000 in
theorem ggX12_shot_X12_isMore : GoodIn wsX12_shot wsX12_isMore := goodIn_r _ [42, 5, 4, 43, 44, 45, 33, 46, 47, 178, 179, 180, 181, 182, 183, 184, 185, 186, 187, 188, 189, 190, 191, 192, 193, 194, 195, 196, 197, 198, 199, 200, 201, 202, 203, 204, 205, 206, 207, 208, 209, 210, 211, 212, 213, 214, 215, 216, 217, 218, 219, 220, 221, 222, 223, 224, 225, 226, 227, 228, 229, 230, 231, 232, 233, 234, 235, 236, 237, 238, 239, 240, 241, 242, 243, 244, 245, 246, 247, 248, 249, 250, 251, 252, 253, 254, 255, 256, 257, 258, 259, 260, 261, 262, 263, 264, 265, 266, 267, 268, 269, 270, 271, 272, 273, 274, 275, 276, 277, 278, 279, 280, 281, 282, 283, 284, 285, 286] (by decide +kernel) (by decide +kernel)
set_option maxRecDepth 20000 in
theorem gX12_shot_X12_isMore : GoodIn wsX12_shot (wsV RX12 429 RX12 yX12_isMore wsX12_isMore) := goodIn_app (goodIn_of _ (by decide +kernel)) ggX12_shot_X12_isMore
set_option maxRecDepth 20000 in
theorem ggX12_shot_X12_counts : GoodIn wsX12_shot wsX12_counts := goodIn_r _ [146, 52, 53, 55, 12, 14, 143, 144, 145, 33, 178, 179, 180, 181, 182, 183, 184, 185, 186, 187, 188, 189, 190, 191, 192, 193, 194, 195, 196, 197, 198, 199, 200, 201, 202, 203, 204, 205, 206, 207, 208, 209, 210, 211, 212, 213, 214, 215, 216, 217, 218, 219, 220, 221, 222, 223, 224, 225, 226, 227, 228, 229, 230, 231, 232, 233, 234, 235, 236, 237, 238, 239, 240, 241, 242, 243, 244, 245, 246, 247, 248, 249, 250, 251, 252, 253, 254, 255, 256, 257, 258, 259, 260, 261, 262, 263, 264, 265, 266, 267, 268, 269, 270, 271, 272, 273, 274, 275, 276, 277, 278, 279, 280, 281, 282, 283, 284, 285, 286] (by decide +kernel) (by decide +kernel)
set_option maxRecDepth 20000 in
theorem gX12_shot_X12_counts : GoodIn wsX12_shot (wsV RX12 386 RX12 yX12_counts wsX12_counts) := goodIn_app (goodIn_of _ (by decide +kernel)) ggX12_shot_X12_counts
set_option maxRecDepth 20000 in
theorem ggX12_shot_X12_wrong : GoodIn wsX12_shot wsX12_wrong := goodIn_r _ [74, 6, 17, 178, 179, 180, 181, 182, 183, 184, 185, 186, 187, 188, 189, 190, 191, 192, 193, 194, 195, 196, 197, 198, 199, 200, 201, 202, 203, 204, 205, 206, 207, 208, 209, 210, 211, 212, 213, 214, 215, 216, 217, 218, 219, 220, 221, 222, 223, 224, 225, 226, 227, 228, 229, 230, 231, 232, 233, 234, 235, 236, 237, 238, 239, 240, 241, 242, 243, 244, 245, 246, 247, 248, 249, 250, 251, 252, 253, 254, 255, 256, 257, 258, 259, 260, 261, 262, 263, 264, 265, 266, 267, 268, 269, 270, 271, 272, 273, 274, 275, 276, 277, 278, 279, 280, 281, 282, 283, 284, 285, 286] (by decide +kernel) (by decide +kernel)
set_option maxRecDepth 20000 in
theorem gX12_shot_X12_wrong : GoodIn wsX12_shot (wsV RX12 309 RX12 yX12_wrong wsX12_wrong) := goodIn_app (goodIn_of _ (by decide +kernel)) ggX12_shot_X12_wrong
set_option maxRecDepth 20000 in
theorem ggX12_isMore_X12_here : GoodIn wsX12_isMore wsX12_here := goodIn_r _ [7, 1, 2, 8, 9, 10, 11, 12, 13, 14, 15, 16, 17, 18, 19, 20, 21, 22, 23, 24, 25, 26, 27, 28, 29, 30, 31, 32, 33, 34, 35, 36, 37, 38, 39, 40, 41, 42, 43, 44, 45, 46, 47, 48, 49, 50, 51, 52, 53, 54, 55, 56, 57, 58, 59, 60, 61, 62, 63, 64, 65, 66, 67, 68, 69, 70, 71, 72, 73, 74, 75, 76, 77, 78, 79, 80, 81, 82, 83, 84, 85, 86, 87, 88, 89, 90, 91, 92, 93, 94, 95, 96, 97, 98, 99, 100, 101, 102, 103, 104, 105, 106, 107, 108, 109, 110, 111, 112, 113, 114, 115, 116, 117] (by decide +kernel) (by decide +kernel)
set_option maxRecDepth 20000 in
theorem gX12_isMore_X12_here : GoodIn wsX12_isMore (wsV RX12 294 RX12 yX12_here wsX12_here) := goodIn_app (goodIn_of _ (by decide +kernel)) ggX12_isMore_X12_here
set_option maxRecDepth 20000 in
theorem ggX12_isShot_X12_within : GoodIn wsX12_isShot wsX12_within := goodIn_r _ [5] (by decide +kernel) (by decide +kernel)
set_option maxRecDepth 20000 in
theorem gX12_isShot_X12_within : GoodIn wsX12_isShot (va_wsS RX12 267 yX12_within wsX12_within) := goodIn_app (goodIn_of _ (by decide +kernel)) ggX12_isShot_X12_within
set_option maxRecDepth 20000 in
theorem ggX12_isShot_X12_may : GoodIn wsX12_isShot wsX12_may := goodIn_r _ [9, 10, 11, 12, 13, 14, 15, 16, 17, 18, 19, 20, 21, 22, 23, 24, 25, 26, 27, 28, 29, 30, 31, 32, 33, 34, 35, 36, 37, 38, 39, 40, 41, 42, 43, 44, 45, 46, 47, 48, 49, 50, 51, 52, 53, 54, 55, 56, 57, 58, 59, 60, 61, 62, 63, 64, 65, 66, 67, 68, 69, 70, 71, 72, 73, 74, 75, 76, 77, 78, 79, 80, 81, 82, 83, 84, 85, 86, 87, 88, 89, 90, 91, 92, 93, 94, 95, 96, 97, 98, 99, 100, 101, 102, 103, 104, 105, 106, 107, 108, 109, 110, 111, 112, 113, 114, 115, 116, 117, 118, 119] (by decide +kernel) (by decide +kernel)
set_option maxRecDepth 20000 in
theorem gX12_isShot_X12_may : GoodIn wsX12_isShot (wsV RX12 271 RX12 yX12_may wsX12_may) := goodIn_app (goodIn_of _ (by decide +kernel)) ggX12_isShot_X12_may
set_option maxRecDepth 20000 in
theorem ggX12_told_X12_isShot : GoodIn wsX12_told wsX12_isShot := goodIn_r _ [11, 12, 13, 14, 10, 15, 16, 17, 18, 19, 1, 29, 30, 31, 32, 33, 34, 35, 36, 37, 38, 39, 40, 41, 42, 43, 44, 45, 46, 47, 48, 49, 50, 51, 52, 53, 54, 55, 56, 57, 58, 59, 60, 61, 62, 63, 64, 65, 66, 67, 68, 69, 70, 71, 72, 73, 74, 75, 76, 77, 78, 79, 80, 81, 82, 83, 84, 85, 86, 87, 88, 89, 90, 91, 92, 93, 94, 95, 96, 97, 98, 99, 100, 101, 102, 103, 104, 105, 106, 107, 108, 109, 110, 111, 112, 113, 114, 115, 116, 117, 118, 119, 120, 121, 122, 123, 124, 125, 126, 127, 128, 129, 130, 131, 132, 133, 134, 135, 136, 137] (by decide +kernel) (by decide +kernel)
set_option maxRecDepth 20000 in
theorem gX12_told_X12_isShot : GoodIn wsX12_told (wsV RX12 436 RX12 yX12_isShot wsX12_isShot) := goodIn_app (goodIn_of _ (by decide +kernel)) ggX12_told_X12_isShot
set_option maxRecDepth 20000 in
theorem ggX12_told_X12_within : GoodIn wsX12_told wsX12_within := goodIn_r _ [15] (by decide +kernel) (by decide +kernel)
set_option maxRecDepth 20000 in
theorem gX12_told_X12_within : GoodIn wsX12_told (va_wsS RX12 267 yX12_within wsX12_within) := goodIn_app (goodIn_of _ (by decide +kernel)) ggX12_told_X12_within
set_option maxRecDepth 20000 in
theorem ggX12_told_X12_may : GoodIn wsX12_told wsX12_may := goodIn_r _ [19, 1, 29, 30, 31, 32, 33, 34, 35, 36, 37, 38, 39, 40, 41, 42, 43, 44, 45, 46, 47, 48, 49, 50, 51, 52, 53, 54, 55, 56, 57, 58, 59, 60, 61, 62, 63, 64, 65, 66, 67, 68, 69, 70, 71, 72, 73, 74, 75, 76, 77, 78, 79, 80, 81, 82, 83, 84, 85, 86, 87, 88, 89, 90, 91, 92, 93, 94, 95, 96, 97, 98, 99, 100, 101, 102, 103, 104, 105, 106, 107, 108, 109, 110, 111, 112, 113, 114, 115, 116, 117, 118, 119, 120, 121, 122, 123, 124, 125, 126, 127, 128, 129, 130, 131, 132, 133, 134, 135, 136, 137] (by decide +kernel) (by decide +kernel)
set_option maxRecDepth 20000 in
theorem gX12_told_X12_may : GoodIn wsX12_told (wsV RX12 271 RX12 yX12_may wsX12_may) := goodIn_app (goodIn_of _ (by decide +kernel)) ggX12_told_X12_may
set_option maxRecDepth 20000 in
theorem ggX12_step_X12_isShot : GoodIn wsX12_step wsX12_isShot := goodIn_r _ [9, 10, 11, 12, 8, 13, 14, 15, 16, 17, 1, 31, 32, 33, 34, 35, 36, 37, 38, 39, 40, 41, 42, 43, 44, 45, 46, 47, 48, 49, 50, 51, 52, 53, 54, 55, 56, 57, 58, 59, 60, 61, 62, 63, 64, 65, 66, 67, 68, 69, 70, 71, 72, 73, 74, 75, 76, 77, 78, 79, 80, 81, 82, 83, 84, 85, 86, 87, 88, 89, 90, 91, 92, 93, 94, 95, 96, 97, 98, 99, 100, 101, 102, 103, 104, 105, 106, 107, 108, 109, 110, 111, 112, 113, 114, 115, 116, 117, 118, 119, 120, 121, 122, 123, 124, 125, 126, 127, 128, 129, 130, 131, 132, 133, 134, 135, 136, 137, 138, 139] (by decide +kernel) (by decide +kernel)
set_option maxRecDepth 20000 in
theorem gX12_step_X12_isShot : GoodIn wsX12_step (wsV RX12 436 RX12 yX12_isShot wsX12_isShot) := goodIn_app (goodIn_of _ (by decide +kernel)) ggX12_step_X12_isShot
set_option maxRecDepth 20000 in
theorem ggX12_step_X12_within : GoodIn wsX12_step wsX12_within := goodIn_r _ [13] (by decide +kernel) (by decide +kernel)
set_option maxRecDepth 20000 in
theorem gX12_step_X12_within : GoodIn wsX12_step (va_wsS RX12 267 yX12_within wsX12_within) := goodIn_app (goodIn_of _ (by decide +kernel)) ggX12_step_X12_within
set_option maxRecDepth 20000 in
theorem ggX12_mouth_X12_isShot : GoodIn wsX12_mouth wsX12_isShot := goodIn_r _ [7, 8, 9, 10, 6, 11, 12, 13, 14, 15, 1, 30, 31, 32, 33, 34, 35, 36, 37, 38, 39, 40, 41, 42, 43, 44, 45, 46, 47, 48, 49, 50, 51, 52, 53, 54, 55, 56, 57, 58, 59, 60, 61, 62, 63, 64, 65, 66, 67, 68, 69, 70, 71, 72, 73, 74, 75, 76, 77, 78, 79, 80, 81, 82, 83, 84, 85, 86, 87, 88, 89, 90, 91, 92, 93, 94, 95, 96, 97, 98, 99, 100, 101, 102, 103, 104, 105, 106, 107, 108, 109, 110, 111, 112, 113, 114, 115, 116, 117, 118, 119, 120, 121, 122, 123, 124, 125, 126, 127, 128, 129, 130, 131, 132, 133, 134, 135, 136, 137, 138] (by decide +kernel) (by decide +kernel)
set_option maxRecDepth 20000 in
theorem gX12_mouth_X12_isShot : GoodIn wsX12_mouth (wsV RX12 436 RX12 yX12_isShot wsX12_isShot) := goodIn_app (goodIn_of _ (by decide +kernel)) ggX12_mouth_X12_isShot
set_option maxRecDepth 20000 in
theorem ggX12_mouth_X12_within : GoodIn wsX12_mouth wsX12_within := goodIn_r _ [11] (by decide +kernel) (by decide +kernel)
set_option maxRecDepth 20000 in
theorem gX12_mouth_X12_within : GoodIn wsX12_mouth (va_wsS RX12 267 yX12_within wsX12_within) := goodIn_app (goodIn_of _ (by decide +kernel)) ggX12_mouth_X12_within
set_option maxRecDepth 20000 in
theorem ggX12_camera_X12_isShot : GoodIn wsX12_camera wsX12_isShot := goodIn_r _ [7, 8, 9, 10, 6, 11, 12, 13, 14, 15, 1, 24, 25, 26, 27, 28, 29, 30, 31, 32, 33, 34, 35, 36, 37, 38, 39, 40, 41, 42, 43, 44, 45, 46, 47, 48, 49, 50, 51, 52, 53, 54, 55, 56, 57, 58, 59, 60, 61, 62, 63, 64, 65, 66, 67, 68, 69, 70, 71, 72, 73, 74, 75, 76, 77, 78, 79, 80, 81, 82, 83, 84, 85, 86, 87, 88, 89, 90, 91, 92, 93, 94, 95, 96, 97, 98, 99, 100, 101, 102, 103, 104, 105, 106, 107, 108, 109, 110, 111, 112, 113, 114, 115, 116, 117, 118, 119, 120, 121, 122, 123, 124, 125, 126, 127, 128, 129, 130, 131, 132] (by decide +kernel) (by decide +kernel)
set_option maxRecDepth 20000 in
theorem gX12_camera_X12_isShot : GoodIn wsX12_camera (wsV RX12 436 RX12 yX12_isShot wsX12_isShot) := goodIn_app (goodIn_of _ (by decide +kernel)) ggX12_camera_X12_isShot
set_option maxRecDepth 20000 in
theorem ggX12_camera_X12_within : GoodIn wsX12_camera wsX12_within := goodIn_r _ [11] (by decide +kernel) (by decide +kernel)
set_option maxRecDepth 20000 in
theorem gX12_camera_X12_within : GoodIn wsX12_camera (va_wsS RX12 267 yX12_within wsX12_within) := goodIn_app (goodIn_of _ (by decide +kernel)) ggX12_camera_X12_within
set_option maxRecDepth 20000 in
theorem ggX12_state_X12_isShot : GoodIn wsX12_state wsX12_isShot := goodIn_r _ [8, 9, 10, 11, 7, 12, 13, 14, 15, 16, 1, 54, 55, 56, 57, 58, 59, 60, 61, 62, 63, 64, 65, 66, 67, 68, 69, 70, 71, 72, 73, 74, 75, 76, 77, 78, 79, 80, 81, 82, 83, 84, 85, 86, 87, 88, 89, 90, 91, 92, 93, 94, 95, 96, 97, 98, 99, 100, 101, 102, 103, 104, 105, 106, 107, 108, 109, 110, 111, 112, 113, 114, 115, 116, 117, 118, 119, 120, 121, 122, 123, 124, 125, 126, 127, 128, 129, 130, 131, 132, 133, 134, 135, 136, 137, 138, 139, 140, 141, 142, 143, 144, 145, 146, 147, 148, 149, 150, 151, 152, 153, 154, 155, 156, 157, 158, 159, 160, 161, 162] (by decide +kernel) (by decide +kernel)
set_option maxRecDepth 20000 in
theorem gX12_state_X12_isShot : GoodIn wsX12_state (wsV RX12 436 RX12 yX12_isShot wsX12_isShot) := goodIn_app (goodIn_of _ (by decide +kernel)) ggX12_state_X12_isShot
set_option maxRecDepth 20000 in
theorem ggX12_state_X12_within : GoodIn wsX12_state wsX12_within := goodIn_r _ [12] (by decide +kernel) (by decide +kernel)
set_option maxRecDepth 20000 in
theorem gX12_state_X12_within : GoodIn wsX12_state (va_wsS RX12 267 yX12_within wsX12_within) := goodIn_app (goodIn_of _ (by decide +kernel)) ggX12_state_X12_within
set_option maxRecDepth 20000 in
theorem ggX12_lean_X12_isShot : GoodIn wsX12_lean wsX12_isShot := goodIn_r _ [8, 9, 10, 11, 7, 12, 13, 14, 15, 16, 1, 43, 44, 45, 46, 47, 48, 49, 50, 51, 52, 53, 54, 55, 56, 57, 58, 59, 60, 61, 62, 63, 64, 65, 66, 67, 68, 69, 70, 71, 72, 73, 74, 75, 76, 77, 78, 79, 80, 81, 82, 83, 84, 85, 86, 87, 88, 89, 90, 91, 92, 93, 94, 95, 96, 97, 98, 99, 100, 101, 102, 103, 104, 105, 106, 107, 108, 109, 110, 111, 112, 113, 114, 115, 116, 117, 118, 119, 120, 121, 122, 123, 124, 125, 126, 127, 128, 129, 130, 131, 132, 133, 134, 135, 136, 137, 138, 139, 140, 141, 142, 143, 144, 145, 146, 147, 148, 149, 150, 151] (by decide +kernel) (by decide +kernel)
set_option maxRecDepth 20000 in
theorem gX12_lean_X12_isShot : GoodIn wsX12_lean (wsV RX12 436 RX12 yX12_isShot wsX12_isShot) := goodIn_app (goodIn_of _ (by decide +kernel)) ggX12_lean_X12_isShot
set_option maxRecDepth 20000 in
theorem ggX12_lean_X12_within : GoodIn wsX12_lean wsX12_within := goodIn_r _ [12] (by decide +kernel) (by decide +kernel)
set_option maxRecDepth 20000 in
theorem gX12_lean_X12_within : GoodIn wsX12_lean (va_wsS RX12 267 yX12_within wsX12_within) := goodIn_app (goodIn_of _ (by decide +kernel)) ggX12_lean_X12_within
set_option maxRecDepth 20000 in
theorem ggX12_breach_X12_isShot : GoodIn wsX12_breach wsX12_isShot := goodIn_r _ [11, 12, 13, 14, 10, 15, 16, 17, 18, 19, 1, 28, 29, 30, 31, 32, 33, 34, 35, 36, 37, 38, 39, 40, 41, 42, 43, 44, 45, 46, 47, 48, 49, 50, 51, 52, 53, 54, 55, 56, 57, 58, 59, 60, 61, 62, 63, 64, 65, 66, 67, 68, 69, 70, 71, 72, 73, 74, 75, 76, 77, 78, 79, 80, 81, 82, 83, 84, 85, 86, 87, 88, 89, 90, 91, 92, 93, 94, 95, 96, 97, 98, 99, 100, 101, 102, 103, 104, 105, 106, 107, 108, 109, 110, 111, 112, 113, 114, 115, 116, 117, 118, 119, 120, 121, 122, 123, 124, 125, 126, 127, 128, 129, 130, 131, 132, 133, 134, 135, 136] (by decide +kernel) (by decide +kernel)
set_option maxRecDepth 20000 in
theorem gX12_breach_X12_isShot : GoodIn wsX12_breach (wsV RX12 436 RX12 yX12_isShot wsX12_isShot) := goodIn_app (goodIn_of _ (by decide +kernel)) ggX12_breach_X12_isShot
set_option maxRecDepth 20000 in
theorem ggX12_breach_X12_within : GoodIn wsX12_breach wsX12_within := goodIn_r _ [15] (by decide +kernel) (by decide +kernel)
set_option maxRecDepth 20000 in
theorem gX12_breach_X12_within : GoodIn wsX12_breach (va_wsS RX12 267 yX12_within wsX12_within) := goodIn_app (goodIn_of _ (by decide +kernel)) ggX12_breach_X12_within
set_option maxRecDepth 20000 in
theorem ggX12_breach_X12_may : GoodIn wsX12_breach wsX12_may := goodIn_r _ [19, 1, 28, 29, 30, 31, 32, 33, 34, 35, 36, 37, 38, 39, 40, 41, 42, 43, 44, 45, 46, 47, 48, 49, 50, 51, 52, 53, 54, 55, 56, 57, 58, 59, 60, 61, 62, 63, 64, 65, 66, 67, 68, 69, 70, 71, 72, 73, 74, 75, 76, 77, 78, 79, 80, 81, 82, 83, 84, 85, 86, 87, 88, 89, 90, 91, 92, 93, 94, 95, 96, 97, 98, 99, 100, 101, 102, 103, 104, 105, 106, 107, 108, 109, 110, 111, 112, 113, 114, 115, 116, 117, 118, 119, 120, 121, 122, 123, 124, 125, 126, 127, 128, 129, 130, 131, 132, 133, 134, 135, 136] (by decide +kernel) (by decide +kernel)
set_option maxRecDepth 20000 in
theorem gX12_breach_X12_may : GoodIn wsX12_breach (wsV RX12 271 RX12 yX12_may wsX12_may) := goodIn_app (goodIn_of _ (by decide +kernel)) ggX12_breach_X12_may
set_option maxRecDepth 20000 in
theorem ggX12_fall_X12_isShot : GoodIn wsX12_fall wsX12_isShot := goodIn_r _ [9, 10, 11, 12, 8, 13, 14, 15, 16, 17, 1, 50, 51, 52, 53, 54, 55, 56, 57, 58, 59, 60, 61, 62, 63, 64, 65, 66, 67, 68, 69, 70, 71, 72, 73, 74, 75, 76, 77, 78, 79, 80, 81, 82, 83, 84, 85, 86, 87, 88, 89, 90, 91, 92, 93, 94, 95, 96, 97, 98, 99, 100, 101, 102, 103, 104, 105, 106, 107, 108, 109, 110, 111, 112, 113, 114, 115, 116, 117, 118, 119, 120, 121, 122, 123, 124, 125, 126, 127, 128, 129, 130, 131, 132, 133, 134, 135, 136, 137, 138, 139, 140, 141, 142, 143, 144, 145, 146, 147, 148, 149, 150, 151, 152, 153, 154, 155, 156, 157, 158] (by decide +kernel) (by decide +kernel)
set_option maxRecDepth 20000 in
theorem gX12_fall_X12_isShot : GoodIn wsX12_fall (wsV RX12 436 RX12 yX12_isShot wsX12_isShot) := goodIn_app (goodIn_of _ (by decide +kernel)) ggX12_fall_X12_isShot
set_option maxRecDepth 20000 in
theorem ggX12_fall_X12_within : GoodIn wsX12_fall wsX12_within := goodIn_r _ [13] (by decide +kernel) (by decide +kernel)
set_option maxRecDepth 20000 in
theorem gX12_fall_X12_within : GoodIn wsX12_fall (va_wsS RX12 267 yX12_within wsX12_within) := goodIn_app (goodIn_of _ (by decide +kernel)) ggX12_fall_X12_within
set_option maxRecDepth 20000 in
theorem ggX12_fall_X12_may : GoodIn wsX12_fall wsX12_may := goodIn_r _ [17, 1, 50, 51, 52, 53, 54, 55, 56, 57, 58, 59, 60, 61, 62, 63, 64, 65, 66, 67, 68, 69, 70, 71, 72, 73, 74, 75, 76, 77, 78, 79, 80, 81, 82, 83, 84, 85, 86, 87, 88, 89, 90, 91, 92, 93, 94, 95, 96, 97, 98, 99, 100, 101, 102, 103, 104, 105, 106, 107, 108, 109, 110, 111, 112, 113, 114, 115, 116, 117, 118, 119, 120, 121, 122, 123, 124, 125, 126, 127, 128, 129, 130, 131, 132, 133, 134, 135, 136, 137, 138, 139, 140, 141, 142, 143, 144, 145, 146, 147, 148, 149, 150, 151, 152, 153, 154, 155, 156, 157, 158] (by decide +kernel) (by decide +kernel)
set_option maxRecDepth 20000 in
theorem gX12_fall_X12_may : GoodIn wsX12_fall (wsV RX12 271 RX12 yX12_may wsX12_may) := goodIn_app (goodIn_of _ (by decide +kernel)) ggX12_fall_X12_may
set_option maxRecDepth 20000 in
theorem ggX12_alike_X12_isShot : GoodIn wsX12_alike wsX12_isShot := goodIn_r _ [6, 7, 8, 9, 5, 10, 11, 12, 13, 14, 1, 37, 38, 39, 40, 41, 42, 43, 44, 45, 46, 47, 48, 49, 50, 51, 52, 53, 54, 55, 56, 57, 58, 59, 60, 61, 62, 63, 64, 65, 66, 67, 68, 69, 70, 71, 72, 73, 74, 75, 76, 77, 78, 79, 80, 81, 82, 83, 84, 85, 86, 87, 88, 89, 90, 91, 92, 93, 94, 95, 96, 97, 98, 99, 100, 101, 102, 103, 104, 105, 106, 107, 108, 109, 110, 111, 112, 113, 114, 115, 116, 117, 118, 119, 120, 121, 122, 123, 124, 125, 126, 127, 128, 129, 130, 131, 132, 133, 134, 135, 136, 137, 138, 139, 140, 141, 142, 143, 144, 145] (by decide +kernel) (by decide +kernel)
set_option maxRecDepth 20000 in
theorem gX12_alike_X12_isShot : GoodIn wsX12_alike (wsV RX12 436 RX12 yX12_isShot wsX12_isShot) := goodIn_app (goodIn_of _ (by decide +kernel)) ggX12_alike_X12_isShot
set_option maxRecDepth 20000 in
theorem ggX12_alike_X12_may : GoodIn wsX12_alike wsX12_may := goodIn_r _ [14, 1, 37, 38, 39, 40, 41, 42, 43, 44, 45, 46, 47, 48, 49, 50, 51, 52, 53, 54, 55, 56, 57, 58, 59, 60, 61, 62, 63, 64, 65, 66, 67, 68, 69, 70, 71, 72, 73, 74, 75, 76, 77, 78, 79, 80, 81, 82, 83, 84, 85, 86, 87, 88, 89, 90, 91, 92, 93, 94, 95, 96, 97, 98, 99, 100, 101, 102, 103, 104, 105, 106, 107, 108, 109, 110, 111, 112, 113, 114, 115, 116, 117, 118, 119, 120, 121, 122, 123, 124, 125, 126, 127, 128, 129, 130, 131, 132, 133, 134, 135, 136, 137, 138, 139, 140, 141, 142, 143, 144, 145] (by decide +kernel) (by decide +kernel)
set_option maxRecDepth 20000 in
theorem gX12_alike_X12_may : GoodIn wsX12_alike (wsV RX12 271 RX12 yX12_may wsX12_may) := goodIn_app (goodIn_of _ (by decide +kernel)) ggX12_alike_X12_may
set_option maxRecDepth 20000 in
theorem ggX12_swap_X12_isShot : GoodIn wsX12_swap wsX12_isShot := goodIn_r _ [16, 17, 18, 19, 15, 20, 21, 22, 23, 24, 1, 66, 67, 68, 69, 70, 71, 72, 73, 74, 75, 76, 77, 78, 79, 80, 81, 82, 83, 84, 85, 86, 87, 88, 89, 90, 91, 92, 93, 94, 95, 96, 97, 98, 99, 100, 101, 102, 103, 104, 105, 106, 107, 108, 109, 110, 111, 112, 113, 114, 115, 116, 117, 118, 119, 120, 121, 122, 123, 124, 125, 126, 127, 128, 129, 130, 131, 132, 133, 134, 135, 136, 137, 138, 139, 140, 141, 142, 143, 144, 145, 146, 147, 148, 149, 150, 151, 152, 153, 154, 155, 156, 157, 158, 159, 160, 161, 162, 163, 164, 165, 166, 167, 168, 169, 170, 171, 172, 173, 174] (by decide +kernel) (by decide +kernel)
set_option maxRecDepth 20000 in
theorem gX12_swap_X12_isShot : GoodIn wsX12_swap (wsV RX12 436 RX12 yX12_isShot wsX12_isShot) := goodIn_app (goodIn_of _ (by decide +kernel)) ggX12_swap_X12_isShot
set_option maxRecDepth 20000 in
theorem ggX12_swap_X12_isPuppet : GoodIn wsX12_swap wsX12_isPuppet := goodIn_r _ [28, 29, 18, 19, 15, 20, 21, 22, 23, 24, 1, 66, 67, 68, 69, 70, 71, 72, 73, 74, 75, 76, 77, 78, 79, 80, 81, 82, 83, 84, 85, 86, 87, 88, 89, 90, 91, 92, 93, 94, 95, 96, 97, 98, 99, 100, 101, 102, 103, 104, 105, 106, 107, 108, 109, 110, 111, 112, 113, 114, 115, 116, 117, 118, 119, 120, 121, 122, 123, 124, 125, 126, 127, 128, 129, 130, 131, 132, 133, 134, 135, 136, 137, 138, 139, 140, 141, 142, 143, 144, 145, 146, 147, 148, 149, 150, 151, 152, 153, 154, 155, 156, 157, 158, 159, 160, 161, 162, 163, 164, 165, 166, 167, 168, 169, 170, 171, 172, 173, 174] (by decide +kernel) (by decide +kernel)
set_option maxRecDepth 20000 in
theorem gX12_swap_X12_isPuppet : GoodIn wsX12_swap (wsV RX12 275 RX12 yX12_isPuppet wsX12_isPuppet) := goodIn_app (goodIn_of _ (by decide +kernel)) ggX12_swap_X12_isPuppet
set_option maxRecDepth 20000 in
theorem ggX12_swap_X12_within : GoodIn wsX12_swap wsX12_within := goodIn_r _ [20] (by decide +kernel) (by decide +kernel)
set_option maxRecDepth 20000 in
theorem gX12_swap_X12_within : GoodIn wsX12_swap (va_wsS RX12 267 yX12_within wsX12_within) := goodIn_app (goodIn_of _ (by decide +kernel)) ggX12_swap_X12_within
set_option maxRecDepth 20000 in
theorem ggX12_set_X12_within : GoodIn wsX12_set wsX12_within := goodIn_r _ [9] (by decide +kernel) (by decide +kernel)
set_option maxRecDepth 20000 in
theorem gX12_set_X12_within : GoodIn wsX12_set (va_wsS RX12 267 yX12_within wsX12_within) := goodIn_app (goodIn_of _ (by decide +kernel)) ggX12_set_X12_within
set_option maxRecDepth 20000 in
theorem ggX12_set_X12_may : GoodIn wsX12_set wsX12_may := goodIn_r _ [13, 1, 14, 15, 16, 17, 18, 19, 20, 21, 22, 23, 24, 25, 26, 27, 28, 29, 30, 31, 32, 33, 34, 35, 36, 37, 38, 39, 40, 41, 42, 43, 44, 45, 46, 47, 48, 49, 50, 51, 52, 53, 54, 55, 56, 57, 58, 59, 60, 61, 62, 63, 64, 65, 66, 67, 68, 69, 70, 71, 72, 73, 74, 75, 76, 77, 78, 79, 80, 81, 82, 83, 84, 85, 86, 87, 88, 89, 90, 91, 92, 93, 94, 95, 96, 97, 98, 99, 100, 101, 102, 103, 104, 105, 106, 107, 108, 109, 110, 111, 112, 113, 114, 115, 116, 117, 118, 119, 120, 121, 122] (by decide +kernel) (by decide +kernel)
set_option maxRecDepth 20000 in
theorem gX12_set_X12_may : GoodIn wsX12_set (wsV RX12 271 RX12 yX12_may wsX12_may) := goodIn_app (goodIn_of _ (by decide +kernel)) ggX12_set_X12_may
set_option maxRecDepth 20000 in
theorem ggX12_lasts_X12_isShot : GoodIn wsX12_lasts wsX12_isShot := goodIn_r _ [6, 7, 8, 9, 5, 10, 11, 12, 13, 14, 1, 25, 26, 27, 28, 29, 30, 31, 32, 33, 34, 35, 36, 37, 38, 39, 40, 41, 42, 43, 44, 45, 46, 47, 48, 49, 50, 51, 52, 53, 54, 55, 56, 57, 58, 59, 60, 61, 62, 63, 64, 65, 66, 67, 68, 69, 70, 71, 72, 73, 74, 75, 76, 77, 78, 79, 80, 81, 82, 83, 84, 85, 86, 87, 88, 89, 90, 91, 92, 93, 94, 95, 96, 97, 98, 99, 100, 101, 102, 103, 104, 105, 106, 107, 108, 109, 110, 111, 112, 113, 114, 115, 116, 117, 118, 119, 120, 121, 122, 123, 124, 125, 126, 127, 128, 129, 130, 131, 132, 133] (by decide +kernel) (by decide +kernel)
set_option maxRecDepth 20000 in
theorem gX12_lasts_X12_isShot : GoodIn wsX12_lasts (wsV RX12 436 RX12 yX12_isShot wsX12_isShot) := goodIn_app (goodIn_of _ (by decide +kernel)) ggX12_lasts_X12_isShot
set_option maxRecDepth 20000 in
theorem ggX12_lasts_X12_within : GoodIn wsX12_lasts wsX12_within := goodIn_r _ [10] (by decide +kernel) (by decide +kernel)
set_option maxRecDepth 20000 in
theorem gX12_lasts_X12_within : GoodIn wsX12_lasts (va_wsS RX12 267 yX12_within wsX12_within) := goodIn_app (goodIn_of _ (by decide +kernel)) ggX12_lasts_X12_within
set_option maxRecDepth 20000 in
theorem ggX12_lasts_X12_may : GoodIn wsX12_lasts wsX12_may := goodIn_r _ [14, 1, 25, 26, 27, 28, 29, 30, 31, 32, 33, 34, 35, 36, 37, 38, 39, 40, 41, 42, 43, 44, 45, 46, 47, 48, 49, 50, 51, 52, 53, 54, 55, 56, 57, 58, 59, 60, 61, 62, 63, 64, 65, 66, 67, 68, 69, 70, 71, 72, 73, 74, 75, 76, 77, 78, 79, 80, 81, 82, 83, 84, 85, 86, 87, 88, 89, 90, 91, 92, 93, 94, 95, 96, 97, 98, 99, 100, 101, 102, 103, 104, 105, 106, 107, 108, 109, 110, 111, 112, 113, 114, 115, 116, 117, 118, 119, 120, 121, 122, 123, 124, 125, 126, 127, 128, 129, 130, 131, 132, 133] (by decide +kernel) (by decide +kernel)
set_option maxRecDepth 20000 in
theorem gX12_lasts_X12_may : GoodIn wsX12_lasts (wsV RX12 271 RX12 yX12_may wsX12_may) := goodIn_app (goodIn_of _ (by decide +kernel)) ggX12_lasts_X12_may
set_option maxRecDepth 20000 in
theorem ggX12_clash_X12_isShot : GoodIn wsX12_clash wsX12_isShot := goodIn_r _ [6, 7, 8, 9, 5, 10, 11, 12, 13, 14, 1, 27, 28, 29, 30, 31, 32, 33, 34, 35, 36, 37, 38, 39, 40, 41, 42, 43, 44, 45, 46, 47, 48, 49, 50, 51, 52, 53, 54, 55, 56, 57, 58, 59, 60, 61, 62, 63, 64, 65, 66, 67, 68, 69, 70, 71, 72, 73, 74, 75, 76, 77, 78, 79, 80, 81, 82, 83, 84, 85, 86, 87, 88, 89, 90, 91, 92, 93, 94, 95, 96, 97, 98, 99, 100, 101, 102, 103, 104, 105, 106, 107, 108, 109, 110, 111, 112, 113, 114, 115, 116, 117, 118, 119, 120, 121, 122, 123, 124, 125, 126, 127, 128, 129, 130, 131, 132, 133, 134, 135] (by decide +kernel) (by decide +kernel)
set_option maxRecDepth 20000 in
theorem gX12_clash_X12_isShot : GoodIn wsX12_clash (wsV RX12 436 RX12 yX12_isShot wsX12_isShot) := goodIn_app (goodIn_of _ (by decide +kernel)) ggX12_clash_X12_isShot
set_option maxRecDepth 20000 in
theorem ggX12_best_X12_within : GoodIn wsX12_best wsX12_within := goodIn_r _ [14] (by decide +kernel) (by decide +kernel)
set_option maxRecDepth 20000 in
theorem gX12_best_X12_within : GoodIn wsX12_best (va_wsS RX12 267 yX12_within wsX12_within) := goodIn_app (goodIn_of _ (by decide +kernel)) ggX12_best_X12_within
set_option maxRecDepth 20000 in
theorem ggX12_best_X12_may : GoodIn wsX12_best wsX12_may := goodIn_r _ [18, 1, 53, 54, 55, 56, 57, 58, 59, 60, 61, 62, 63, 64, 65, 66, 67, 68, 69, 70, 71, 72, 73, 74, 75, 76, 77, 78, 79, 80, 81, 82, 83, 84, 85, 86, 87, 88, 89, 90, 91, 92, 93, 94, 95, 96, 97, 98, 99, 100, 101, 102, 103, 104, 105, 106, 107, 108, 109, 110, 111, 112, 113, 114, 115, 116, 117, 118, 119, 120, 121, 122, 123, 124, 125, 126, 127, 128, 129, 130, 131, 132, 133, 134, 135, 136, 137, 138, 139, 140, 141, 142, 143, 144, 145, 146, 147, 148, 149, 150, 151, 152, 153, 154, 155, 156, 157, 158, 159, 160, 161] (by decide +kernel) (by decide +kernel)
set_option maxRecDepth 20000 in
theorem gX12_best_X12_may : GoodIn wsX12_best (wsV RX12 271 RX12 yX12_may wsX12_may) := goodIn_app (goodIn_of _ (by decide +kernel)) ggX12_best_X12_may
set_option maxRecDepth 20000 in
theorem ggX12_row_X12_isShot : GoodIn wsX12_row wsX12_isShot := goodIn_r _ [11, 12, 13, 14, 10, 15, 16, 17, 18, 19, 1, 20, 21, 22, 23, 24, 25, 26, 27, 28, 29, 30, 31, 32, 33, 34, 35, 36, 37, 38, 39, 40, 41, 42, 43, 44, 45, 46, 47, 48, 49, 50, 51, 52, 53, 54, 55, 56, 57, 58, 59, 60, 61, 62, 63, 64, 65, 66, 67, 68, 69, 70, 71, 72, 73, 74, 75, 76, 77, 78, 79, 80, 81, 82, 83, 84, 85, 86, 87, 88, 89, 90, 91, 92, 93, 94, 95, 96, 97, 98, 99, 100, 101, 102, 103, 104, 105, 106, 107, 108, 109, 110, 111, 112, 113, 114, 115, 116, 117, 118, 119, 120, 121, 122, 123, 124, 125, 126, 127, 128] (by decide +kernel) (by decide +kernel)
set_option maxRecDepth 20000 in
theorem gX12_row_X12_isShot : GoodIn wsX12_row (wsV RX12 436 RX12 yX12_isShot wsX12_isShot) := goodIn_app (goodIn_of _ (by decide +kernel)) ggX12_row_X12_isShot
set_option maxRecDepth 20000 in
theorem ggX12_row_X12_within : GoodIn wsX12_row wsX12_within := goodIn_r _ [15] (by decide +kernel) (by decide +kernel)
set_option maxRecDepth 20000 in
theorem gX12_row_X12_within : GoodIn wsX12_row (va_wsS RX12 267 yX12_within wsX12_within) := goodIn_app (goodIn_of _ (by decide +kernel)) ggX12_row_X12_within
set_option maxRecDepth 20000 in
theorem ggX12_row_X12_may : GoodIn wsX12_row wsX12_may := goodIn_r _ [19, 1, 20, 21, 22, 23, 24, 25, 26, 27, 28, 29, 30, 31, 32, 33, 34, 35, 36, 37, 38, 39, 40, 41, 42, 43, 44, 45, 46, 47, 48, 49, 50, 51, 52, 53, 54, 55, 56, 57, 58, 59, 60, 61, 62, 63, 64, 65, 66, 67, 68, 69, 70, 71, 72, 73, 74, 75, 76, 77, 78, 79, 80, 81, 82, 83, 84, 85, 86, 87, 88, 89, 90, 91, 92, 93, 94, 95, 96, 97, 98, 99, 100, 101, 102, 103, 104, 105, 106, 107, 108, 109, 110, 111, 112, 113, 114, 115, 116, 117, 118, 119, 120, 121, 122, 123, 124, 125, 126, 127, 128] (by decide +kernel) (by decide +kernel)
set_option maxRecDepth 20000 in
theorem gX12_row_X12_may : GoodIn wsX12_row (wsV RX12 271 RX12 yX12_may wsX12_may) := goodIn_app (goodIn_of _ (by decide +kernel)) ggX12_row_X12_may
set_option maxRecDepth 20000 in
theorem ggX12_bump_X12_isShot : GoodIn wsX12_bump wsX12_isShot := goodIn_r _ [10, 11, 12, 13, 9, 14, 15, 16, 17, 18, 1, 43, 44, 45, 46, 47, 48, 49, 50, 51, 52, 53, 54, 55, 56, 57, 58, 59, 60, 61, 62, 63, 64, 65, 66, 67, 68, 69, 70, 71, 72, 73, 74, 75, 76, 77, 78, 79, 80, 81, 82, 83, 84, 85, 86, 87, 88, 89, 90, 91, 92, 93, 94, 95, 96, 97, 98, 99, 100, 101, 102, 103, 104, 105, 106, 107, 108, 109, 110, 111, 112, 113, 114, 115, 116, 117, 118, 119, 120, 121, 122, 123, 124, 125, 126, 127, 128, 129, 130, 131, 132, 133, 134, 135, 136, 137, 138, 139, 140, 141, 142, 143, 144, 145, 146, 147, 148, 149, 150, 151] (by decide +kernel) (by decide +kernel)
set_option maxRecDepth 20000 in
theorem gX12_bump_X12_isShot : GoodIn wsX12_bump (wsV RX12 436 RX12 yX12_isShot wsX12_isShot) := goodIn_app (goodIn_of _ (by decide +kernel)) ggX12_bump_X12_isShot
set_option maxRecDepth 20000 in
theorem ggX12_bump_X12_may : GoodIn wsX12_bump wsX12_may := goodIn_r _ [18, 1, 43, 44, 45, 46, 47, 48, 49, 50, 51, 52, 53, 54, 55, 56, 57, 58, 59, 60, 61, 62, 63, 64, 65, 66, 67, 68, 69, 70, 71, 72, 73, 74, 75, 76, 77, 78, 79, 80, 81, 82, 83, 84, 85, 86, 87, 88, 89, 90, 91, 92, 93, 94, 95, 96, 97, 98, 99, 100, 101, 102, 103, 104, 105, 106, 107, 108, 109, 110, 111, 112, 113, 114, 115, 116, 117, 118, 119, 120, 121, 122, 123, 124, 125, 126, 127, 128, 129, 130, 131, 132, 133, 134, 135, 136, 137, 138, 139, 140, 141, 142, 143, 144, 145, 146, 147, 148, 149, 150, 151] (by decide +kernel) (by decide +kernel)
set_option maxRecDepth 20000 in
theorem gX12_bump_X12_may : GoodIn wsX12_bump (wsV RX12 271 RX12 yX12_may wsX12_may) := goodIn_app (goodIn_of _ (by decide +kernel)) ggX12_bump_X12_may
set_option maxRecDepth 20000 in
theorem ggX12_bump_X12_within : GoodIn wsX12_bump wsX12_within := goodIn_r _ [14] (by decide +kernel) (by decide +kernel)
set_option maxRecDepth 20000 in
theorem gX12_bump_X12_within : GoodIn wsX12_bump (va_wsS RX12 267 yX12_within wsX12_within) := goodIn_app (goodIn_of _ (by decide +kernel)) ggX12_bump_X12_within
set_option maxRecDepth 20000 in
theorem ggX12_wait_X12_within : GoodIn wsX12_wait wsX12_within := goodIn_r _ [6] (by decide +kernel) (by decide +kernel)
set_option maxRecDepth 20000 in
theorem gX12_wait_X12_within : GoodIn wsX12_wait (va_wsS RX12 267 yX12_within wsX12_within) := goodIn_app (goodIn_of _ (by decide +kernel)) ggX12_wait_X12_within
set_option maxRecDepth 20000 in
theorem ggX12_wait_X12_may : GoodIn wsX12_wait wsX12_may := goodIn_r _ [10, 1, 11, 12, 13, 14, 15, 16, 17, 18, 19, 20, 21, 22, 23, 24, 25, 26, 27, 28, 29, 30, 31, 32, 33, 34, 35, 36, 37, 38, 39, 40, 41, 42, 43, 44, 45, 46, 47, 48, 49, 50, 51, 52, 53, 54, 55, 56, 57, 58, 59, 60, 61, 62, 63, 64, 65, 66, 67, 68, 69, 70, 71, 72, 73, 74, 75, 76, 77, 78, 79, 80, 81, 82, 83, 84, 85, 86, 87, 88, 89, 90, 91, 92, 93, 94, 95, 96, 97, 98, 99, 100, 101, 102, 103, 104, 105, 106, 107, 108, 109, 110, 111, 112, 113, 114, 115, 116, 117, 118, 119] (by decide +kernel) (by decide +kernel)
set_option maxRecDepth 20000 in
theorem gX12_wait_X12_may : GoodIn wsX12_wait (wsV RX12 271 RX12 yX12_may wsX12_may) := goodIn_app (goodIn_of _ (by decide +kernel)) ggX12_wait_X12_may
set_option maxRecDepth 20000 in
theorem ggX12_shoot_X12_isShot : GoodIn wsX12_shoot wsX12_isShot := goodIn_r _ [10, 11, 12, 13, 9, 14, 15, 16, 17, 18, 1, 22, 23, 24, 25, 26, 27, 28, 29, 30, 31, 32, 33, 34, 35, 36, 37, 38, 39, 40, 41, 42, 43, 44, 45, 46, 47, 48, 49, 50, 51, 52, 53, 54, 55, 56, 57, 58, 59, 60, 61, 62, 63, 64, 65, 66, 67, 68, 69, 70, 71, 72, 73, 74, 75, 76, 77, 78, 79, 80, 81, 82, 83, 84, 85, 86, 87, 88, 89, 90, 91, 92, 93, 94, 95, 96, 97, 98, 99, 100, 101, 102, 103, 104, 105, 106, 107, 108, 109, 110, 111, 112, 113, 114, 115, 116, 117, 118, 119, 120, 121, 122, 123, 124, 125, 126, 127, 128, 129, 130] (by decide +kernel) (by decide +kernel)
set_option maxRecDepth 20000 in
theorem gX12_shoot_X12_isShot : GoodIn wsX12_shoot (wsV RX12 436 RX12 yX12_isShot wsX12_isShot) := goodIn_app (goodIn_of _ (by decide +kernel)) ggX12_shoot_X12_isShot
set_option maxRecDepth 20000 in
theorem ggX12_shoot_X12_within : GoodIn wsX12_shoot wsX12_within := goodIn_r _ [14] (by decide +kernel) (by decide +kernel)
set_option maxRecDepth 20000 in
theorem gX12_shoot_X12_within : GoodIn wsX12_shoot (va_wsS RX12 267 yX12_within wsX12_within) := goodIn_app (goodIn_of _ (by decide +kernel)) ggX12_shoot_X12_within
set_option maxRecDepth 20000 in
theorem ggX12_shoot_X12_may : GoodIn wsX12_shoot wsX12_may := goodIn_r _ [18, 1, 22, 23, 24, 25, 26, 27, 28, 29, 30, 31, 32, 33, 34, 35, 36, 37, 38, 39, 40, 41, 42, 43, 44, 45, 46, 47, 48, 49, 50, 51, 52, 53, 54, 55, 56, 57, 58, 59, 60, 61, 62, 63, 64, 65, 66, 67, 68, 69, 70, 71, 72, 73, 74, 75, 76, 77, 78, 79, 80, 81, 82, 83, 84, 85, 86, 87, 88, 89, 90, 91, 92, 93, 94, 95, 96, 97, 98, 99, 100, 101, 102, 103, 104, 105, 106, 107, 108, 109, 110, 111, 112, 113, 114, 115, 116, 117, 118, 119, 120, 121, 122, 123, 124, 125, 126, 127, 128, 129, 130] (by decide +kernel) (by decide +kernel)
set_option maxRecDepth 20000 in
theorem gX12_shoot_X12_may : GoodIn wsX12_shoot (wsV RX12 271 RX12 yX12_may wsX12_may) := goodIn_app (goodIn_of _ (by decide +kernel)) ggX12_shoot_X12_may
set_option maxRecDepth 20000 in
theorem ggX12_when_X12_isShot : GoodIn wsX12_when wsX12_isShot := goodIn_r _ [8, 9, 10, 11, 7, 12, 13, 14, 15, 16, 1, 25, 26, 27, 28, 29, 30, 31, 32, 33, 34, 35, 36, 37, 38, 39, 40, 41, 42, 43, 44, 45, 46, 47, 48, 49, 50, 51, 52, 53, 54, 55, 56, 57, 58, 59, 60, 61, 62, 63, 64, 65, 66, 67, 68, 69, 70, 71, 72, 73, 74, 75, 76, 77, 78, 79, 80, 81, 82, 83, 84, 85, 86, 87, 88, 89, 90, 91, 92, 93, 94, 95, 96, 97, 98, 99, 100, 101, 102, 103, 104, 105, 106, 107, 108, 109, 110, 111, 112, 113, 114, 115, 116, 117, 118, 119, 120, 121, 122, 123, 124, 125, 126, 127, 128, 129, 130, 131, 132, 133] (by decide +kernel) (by decide +kernel)
set_option maxRecDepth 20000 in
theorem gX12_when_X12_isShot : GoodIn wsX12_when (wsV RX12 436 RX12 yX12_isShot wsX12_isShot) := goodIn_app (goodIn_of _ (by decide +kernel)) ggX12_when_X12_isShot
set_option maxRecDepth 20000 in
theorem ggX12_when_X12_may : GoodIn wsX12_when wsX12_may := goodIn_r _ [16, 1, 25, 26, 27, 28, 29, 30, 31, 32, 33, 34, 35, 36, 37, 38, 39, 40, 41, 42, 43, 44, 45, 46, 47, 48, 49, 50, 51, 52, 53, 54, 55, 56, 57, 58, 59, 60, 61, 62, 63, 64, 65, 66, 67, 68, 69, 70, 71, 72, 73, 74, 75, 76, 77, 78, 79, 80, 81, 82, 83, 84, 85, 86, 87, 88, 89, 90, 91, 92, 93, 94, 95, 96, 97, 98, 99, 100, 101, 102, 103, 104, 105, 106, 107, 108, 109, 110, 111, 112, 113, 114, 115, 116, 117, 118, 119, 120, 121, 122, 123, 124, 125, 126, 127, 128, 129, 130, 131, 132, 133] (by decide +kernel) (by decide +kernel)
set_option maxRecDepth 20000 in
theorem gX12_when_X12_may : GoodIn wsX12_when (wsV RX12 271 RX12 yX12_may wsX12_may) := goodIn_app (goodIn_of _ (by decide +kernel)) ggX12_when_X12_may
set_option maxRecDepth 20000 in
theorem ggX12_measure_X12_isShot : GoodIn wsX12_measure wsX12_isShot := goodIn_r _ [13, 14, 15, 16, 12, 17, 18, 19, 20, 21, 1, 27, 28, 29, 30, 31, 32, 33, 34, 35, 36, 37, 38, 39, 40, 41, 42, 43, 44, 45, 46, 47, 48, 49, 50, 51, 52, 53, 54, 55, 56, 57, 58, 59, 60, 61, 62, 63, 64, 65, 66, 67, 68, 69, 70, 71, 72, 73, 74, 75, 76, 77, 78, 79, 80, 81, 82, 83, 84, 85, 86, 87, 88, 89, 90, 91, 92, 93, 94, 95, 96, 97, 98, 99, 100, 101, 102, 103, 104, 105, 106, 107, 108, 109, 110, 111, 112, 113, 114, 115, 116, 117, 118, 119, 120, 121, 122, 123, 124, 125, 126, 127, 128, 129, 130, 131, 132, 133, 134, 135] (by decide +kernel) (by decide +kernel)
set_option maxRecDepth 20000 in
theorem gX12_measure_X12_isShot : GoodIn wsX12_measure (wsV RX12 436 RX12 yX12_isShot wsX12_isShot) := goodIn_app (goodIn_of _ (by decide +kernel)) ggX12_measure_X12_isShot
set_option maxRecDepth 20000 in
theorem ggX12_measure_X12_may : GoodIn wsX12_measure wsX12_may := goodIn_r _ [21, 1, 27, 28, 29, 30, 31, 32, 33, 34, 35, 36, 37, 38, 39, 40, 41, 42, 43, 44, 45, 46, 47, 48, 49, 50, 51, 52, 53, 54, 55, 56, 57, 58, 59, 60, 61, 62, 63, 64, 65, 66, 67, 68, 69, 70, 71, 72, 73, 74, 75, 76, 77, 78, 79, 80, 81, 82, 83, 84, 85, 86, 87, 88, 89, 90, 91, 92, 93, 94, 95, 96, 97, 98, 99, 100, 101, 102, 103, 104, 105, 106, 107, 108, 109, 110, 111, 112, 113, 114, 115, 116, 117, 118, 119, 120, 121, 122, 123, 124, 125, 126, 127, 128, 129, 130, 131, 132, 133, 134, 135] (by decide +kernel) (by decide +kernel)
set_option maxRecDepth 20000 in
theorem gX12_measure_X12_may : GoodIn wsX12_measure (wsV RX12 271 RX12 yX12_may wsX12_may) := goodIn_app (goodIn_of _ (by decide +kernel)) ggX12_measure_X12_may
set_option maxRecDepth 20000 in
theorem ggX12_measure_X12_within : GoodIn wsX12_measure wsX12_within := goodIn_r _ [17] (by decide +kernel) (by decide +kernel)
set_option maxRecDepth 20000 in
theorem gX12_measure_X12_within : GoodIn wsX12_measure (va_wsS RX12 267 yX12_within wsX12_within) := goodIn_app (goodIn_of _ (by decide +kernel)) ggX12_measure_X12_within
set_option maxRecDepth 20000 in
theorem ggX12_mended_X12_isShot : GoodIn wsX12_mended wsX12_isShot := goodIn_r _ [6, 7, 8, 9, 5, 10, 11, 12, 13, 14, 1, 33, 34, 35, 36, 37, 38, 39, 40, 41, 42, 43, 44, 45, 46, 47, 48, 49, 50, 51, 52, 53, 54, 55, 56, 57, 58, 59, 60, 61, 62, 63, 64, 65, 66, 67, 68, 69, 70, 71, 72, 73, 74, 75, 76, 77, 78, 79, 80, 81, 82, 83, 84, 85, 86, 87, 88, 89, 90, 91, 92, 93, 94, 95, 96, 97, 98, 99, 100, 101, 102, 103, 104, 105, 106, 107, 108, 109, 110, 111, 112, 113, 114, 115, 116, 117, 118, 119, 120, 121, 122, 123, 124, 125, 126, 127, 128, 129, 130, 131, 132, 133, 134, 135, 136, 137, 138, 139, 140, 141] (by decide +kernel) (by decide +kernel)
set_option maxRecDepth 20000 in
theorem gX12_mended_X12_isShot : GoodIn wsX12_mended (wsV RX12 436 RX12 yX12_isShot wsX12_isShot) := goodIn_app (goodIn_of _ (by decide +kernel)) ggX12_mended_X12_isShot
set_option maxRecDepth 20000 in
theorem ggX12_mended_X12_may : GoodIn wsX12_mended wsX12_may := goodIn_r _ [14, 1, 33, 34, 35, 36, 37, 38, 39, 40, 41, 42, 43, 44, 45, 46, 47, 48, 49, 50, 51, 52, 53, 54, 55, 56, 57, 58, 59, 60, 61, 62, 63, 64, 65, 66, 67, 68, 69, 70, 71, 72, 73, 74, 75, 76, 77, 78, 79, 80, 81, 82, 83, 84, 85, 86, 87, 88, 89, 90, 91, 92, 93, 94, 95, 96, 97, 98, 99, 100, 101, 102, 103, 104, 105, 106, 107, 108, 109, 110, 111, 112, 113, 114, 115, 116, 117, 118, 119, 120, 121, 122, 123, 124, 125, 126, 127, 128, 129, 130, 131, 132, 133, 134, 135, 136, 137, 138, 139, 140, 141] (by decide +kernel) (by decide +kernel)
set_option maxRecDepth 20000 in
theorem gX12_mended_X12_may : GoodIn wsX12_mended (wsV RX12 271 RX12 yX12_may wsX12_may) := goodIn_app (goodIn_of _ (by decide +kernel)) ggX12_mended_X12_may
set_option maxRecDepth 20000 in
theorem ggX12_leap_X12_isShot : GoodIn wsX12_leap wsX12_isShot := goodIn_r _ [7, 8, 9, 10, 6, 11, 12, 13, 14, 15, 1, 30, 31, 32, 33, 34, 35, 36, 37, 38, 39, 40, 41, 42, 43, 44, 45, 46, 47, 48, 49, 50, 51, 52, 53, 54, 55, 56, 57, 58, 59, 60, 61, 62, 63, 64, 65, 66, 67, 68, 69, 70, 71, 72, 73, 74, 75, 76, 77, 78, 79, 80, 81, 82, 83, 84, 85, 86, 87, 88, 89, 90, 91, 92, 93, 94, 95, 96, 97, 98, 99, 100, 101, 102, 103, 104, 105, 106, 107, 108, 109, 110, 111, 112, 113, 114, 115, 116, 117, 118, 119, 120, 121, 122, 123, 124, 125, 126, 127, 128, 129, 130, 131, 132, 133, 134, 135, 136, 137, 138] (by decide +kernel) (by decide +kernel)
set_option maxRecDepth 20000 in
theorem gX12_leap_X12_isShot : GoodIn wsX12_leap (wsV RX12 436 RX12 yX12_isShot wsX12_isShot) := goodIn_app (goodIn_of _ (by decide +kernel)) ggX12_leap_X12_isShot
set_option maxRecDepth 20000 in
theorem ggX12_paint_X12_isShot : GoodIn wsX12_paint wsX12_isShot := goodIn_r _ [7, 8, 9, 10, 6, 11, 12, 13, 14, 15, 1, 24, 25, 26, 27, 28, 29, 30, 31, 32, 33, 34, 35, 36, 37, 38, 39, 40, 41, 42, 43, 44, 45, 46, 47, 48, 49, 50, 51, 52, 53, 54, 55, 56, 57, 58, 59, 60, 61, 62, 63, 64, 65, 66, 67, 68, 69, 70, 71, 72, 73, 74, 75, 76, 77, 78, 79, 80, 81, 82, 83, 84, 85, 86, 87, 88, 89, 90, 91, 92, 93, 94, 95, 96, 97, 98, 99, 100, 101, 102, 103, 104, 105, 106, 107, 108, 109, 110, 111, 112, 113, 114, 115, 116, 117, 118, 119, 120, 121, 122, 123, 124, 125, 126, 127, 128, 129, 130, 131, 132] (by decide +kernel) (by decide +kernel)
set_option maxRecDepth 20000 in
theorem gX12_paint_X12_isShot : GoodIn wsX12_paint (wsV RX12 436 RX12 yX12_isShot wsX12_isShot) := goodIn_app (goodIn_of _ (by decide +kernel)) ggX12_paint_X12_isShot
set_option maxRecDepth 20000 in
theorem ggX12_paint_X12_may : GoodIn wsX12_paint wsX12_may := goodIn_r _ [15, 1, 24, 25, 26, 27, 28, 29, 30, 31, 32, 33, 34, 35, 36, 37, 38, 39, 40, 41, 42, 43, 44, 45, 46, 47, 48, 49, 50, 51, 52, 53, 54, 55, 56, 57, 58, 59, 60, 61, 62, 63, 64, 65, 66, 67, 68, 69, 70, 71, 72, 73, 74, 75, 76, 77, 78, 79, 80, 81, 82, 83, 84, 85, 86, 87, 88, 89, 90, 91, 92, 93, 94, 95, 96, 97, 98, 99, 100, 101, 102, 103, 104, 105, 106, 107, 108, 109, 110, 111, 112, 113, 114, 115, 116, 117, 118, 119, 120, 121, 122, 123, 124, 125, 126, 127, 128, 129, 130, 131, 132] (by decide +kernel) (by decide +kernel)
set_option maxRecDepth 20000 in
theorem gX12_paint_X12_may : GoodIn wsX12_paint (wsV RX12 271 RX12 yX12_may wsX12_may) := goodIn_app (goodIn_of _ (by decide +kernel)) ggX12_paint_X12_may
set_option maxRecDepth 20000 in
theorem ggX12_dirty_X12_isShot : GoodIn wsX12_dirty wsX12_isShot := goodIn_r _ [7, 8, 9, 10, 6, 11, 12, 13, 14, 15, 1, 25, 26, 27, 28, 29, 30, 31, 32, 33, 34, 35, 36, 37, 38, 39, 40, 41, 42, 43, 44, 45, 46, 47, 48, 49, 50, 51, 52, 53, 54, 55, 56, 57, 58, 59, 60, 61, 62, 63, 64, 65, 66, 67, 68, 69, 70, 71, 72, 73, 74, 75, 76, 77, 78, 79, 80, 81, 82, 83, 84, 85, 86, 87, 88, 89, 90, 91, 92, 93, 94, 95, 96, 97, 98, 99, 100, 101, 102, 103, 104, 105, 106, 107, 108, 109, 110, 111, 112, 113, 114, 115, 116, 117, 118, 119, 120, 121, 122, 123, 124, 125, 126, 127, 128, 129, 130, 131, 132, 133] (by decide +kernel) (by decide +kernel)
set_option maxRecDepth 20000 in
theorem gX12_dirty_X12_isShot : GoodIn wsX12_dirty (wsV RX12 436 RX12 yX12_isShot wsX12_isShot) := goodIn_app (goodIn_of _ (by decide +kernel)) ggX12_dirty_X12_isShot
set_option maxRecDepth 20000 in
theorem ggX12_animator_X12_within : GoodIn wsX12_animator wsX12_within := goodIn_r _ [7] (by decide +kernel) (by decide +kernel)
set_option maxRecDepth 20000 in
theorem gX12_animator_X12_within : GoodIn wsX12_animator (va_wsS RX12 267 yX12_within wsX12_within) := goodIn_app (goodIn_of _ (by decide +kernel)) ggX12_animator_X12_within
set_option maxRecDepth 20000 in
theorem ggX12_animator_X12_may : GoodIn wsX12_animator wsX12_may := goodIn_r _ [11, 1, 12, 13, 14, 15, 16, 17, 18, 19, 20, 21, 22, 23, 24, 25, 26, 27, 28, 29, 30, 31, 32, 33, 34, 35, 36, 37, 38, 39, 40, 41, 42, 43, 44, 45, 46, 47, 48, 49, 50, 51, 52, 53, 54, 55, 56, 57, 58, 59, 60, 61, 62, 63, 64, 65, 66, 67, 68, 69, 70, 71, 72, 73, 74, 75, 76, 77, 78, 79, 80, 81, 82, 83, 84, 85, 86, 87, 88, 89, 90, 91, 92, 93, 94, 95, 96, 97, 98, 99, 100, 101, 102, 103, 104, 105, 106, 107, 108, 109, 110, 111, 112, 113, 114, 115, 116, 117, 118, 119, 120] (by decide +kernel) (by decide +kernel)
set_option maxRecDepth 20000 in
theorem gX12_animator_X12_may : GoodIn wsX12_animator (wsV RX12 271 RX12 yX12_may wsX12_may) := goodIn_app (goodIn_of _ (by decide +kernel)) ggX12_animator_X12_may
set_option maxRecDepth 20000 in
theorem ggX12_station_X12_within : GoodIn wsX12_station wsX12_within := goodIn_r _ [7] (by decide +kernel) (by decide +kernel)
set_option maxRecDepth 20000 in
theorem gX12_station_X12_within : GoodIn wsX12_station (va_wsS RX12 267 yX12_within wsX12_within) := goodIn_app (goodIn_of _ (by decide +kernel)) ggX12_station_X12_within
set_option maxRecDepth 20000 in
theorem ggX12_station_X12_may : GoodIn wsX12_station wsX12_may := goodIn_r _ [11, 1, 12, 13, 14, 15, 16, 17, 18, 19, 20, 21, 22, 23, 24, 25, 26, 27, 28, 29, 30, 31, 32, 33, 34, 35, 36, 37, 38, 39, 40, 41, 42, 43, 44, 45, 46, 47, 48, 49, 50, 51, 52, 53, 54, 55, 56, 57, 58, 59, 60, 61, 62, 63, 64, 65, 66, 67, 68, 69, 70, 71, 72, 73, 74, 75, 76, 77, 78, 79, 80, 81, 82, 83, 84, 85, 86, 87, 88, 89, 90, 91, 92, 93, 94, 95, 96, 97, 98, 99, 100, 101, 102, 103, 104, 105, 106, 107, 108, 109, 110, 111, 112, 113, 114, 115, 116, 117, 118, 119, 120] (by decide +kernel) (by decide +kernel)
set_option maxRecDepth 20000 in
theorem gX12_station_X12_may : GoodIn wsX12_station (wsV RX12 271 RX12 yX12_may wsX12_may) := goodIn_app (goodIn_of _ (by decide +kernel)) ggX12_station_X12_may
set_option maxRecDepth 20000 in
theorem ggX12_queue_X12_isShot : GoodIn wsX12_queue wsX12_isShot := goodIn_r _ [8, 9, 10, 11, 7, 12, 13, 14, 15, 16, 1, 28, 29, 30, 31, 32, 33, 34, 35, 36, 37, 38, 39, 40, 41, 42, 43, 44, 45, 46, 47, 48, 49, 50, 51, 52, 53, 54, 55, 56, 57, 58, 59, 60, 61, 62, 63, 64, 65, 66, 67, 68, 69, 70, 71, 72, 73, 74, 75, 76, 77, 78, 79, 80, 81, 82, 83, 84, 85, 86, 87, 88, 89, 90, 91, 92, 93, 94, 95, 96, 97, 98, 99, 100, 101, 102, 103, 104, 105, 106, 107, 108, 109, 110, 111, 112, 113, 114, 115, 116, 117, 118, 119, 120, 121, 122, 123, 124, 125, 126, 127, 128, 129, 130, 131, 132, 133, 134, 135, 136] (by decide +kernel) (by decide +kernel)
set_option maxRecDepth 20000 in
theorem gX12_queue_X12_isShot : GoodIn wsX12_queue (wsV RX12 436 RX12 yX12_isShot wsX12_isShot) := goodIn_app (goodIn_of _ (by decide +kernel)) ggX12_queue_X12_isShot
set_option maxRecDepth 20000 in
theorem ggX12_queue_X12_within : GoodIn wsX12_queue wsX12_within := goodIn_r _ [12] (by decide +kernel) (by decide +kernel)
set_option maxRecDepth 20000 in
theorem gX12_queue_X12_within : GoodIn wsX12_queue (va_wsS RX12 267 yX12_within wsX12_within) := goodIn_app (goodIn_of _ (by decide +kernel)) ggX12_queue_X12_within
set_option maxRecDepth 20000 in
theorem ggX12_queue_X12_may : GoodIn wsX12_queue wsX12_may := goodIn_r _ [16, 1, 28, 29, 30, 31, 32, 33, 34, 35, 36, 37, 38, 39, 40, 41, 42, 43, 44, 45, 46, 47, 48, 49, 50, 51, 52, 53, 54, 55, 56, 57, 58, 59, 60, 61, 62, 63, 64, 65, 66, 67, 68, 69, 70, 71, 72, 73, 74, 75, 76, 77, 78, 79, 80, 81, 82, 83, 84, 85, 86, 87, 88, 89, 90, 91, 92, 93, 94, 95, 96, 97, 98, 99, 100, 101, 102, 103, 104, 105, 106, 107, 108, 109, 110, 111, 112, 113, 114, 115, 116, 117, 118, 119, 120, 121, 122, 123, 124, 125, 126, 127, 128, 129, 130, 131, 132, 133, 134, 135, 136] (by decide +kernel) (by decide +kernel)
set_option maxRecDepth 20000 in
theorem gX12_queue_X12_may : GoodIn wsX12_queue (wsV RX12 271 RX12 yX12_may wsX12_may) := goodIn_app (goodIn_of _ (by decide +kernel)) ggX12_queue_X12_may
set_option maxRecDepth 20000 in
theorem ggX12_halfOf_X12_begins : GoodIn wsX12_halfOf wsX12_begins := goodIn_r _ [11, 12, 13, 1, 14, 15, 16, 10, 17, 18, 19, 20, 21, 22, 23, 24, 25, 26, 27, 4, 2, 28, 29, 30, 31, 32, 33, 34, 35, 36, 37, 38, 73, 74, 75, 76, 77, 78, 79, 80, 81, 82, 83, 84, 85, 86, 87, 88, 89, 90, 91, 92, 93, 94, 95, 96, 97, 98, 99, 100, 101, 102, 103, 104, 105, 106, 107, 108, 109, 110, 111, 112, 113, 114, 115, 116, 117, 118, 119, 120, 121, 122, 123, 124, 125, 126, 127, 128, 129, 130, 131, 132, 133, 134, 135, 136, 137, 138, 139, 140, 141, 142, 143, 144, 145, 146, 147, 148, 149, 150, 151, 152, 153, 154, 155, 156, 157, 158, 159, 160, 161, 162, 163, 164, 165, 166, 167, 168, 169, 170, 171, 172, 173, 174, 175, 176, 177, 178, 179, 180, 181] (by decide +kernel) (by decide +kernel)
set_option maxRecDepth 20000 in
theorem gX12_halfOf_X12_begins : GoodIn wsX12_halfOf (wsV RX12 546 RX12 yX12_begins wsX12_begins) := goodIn_app (goodIn_of _ (by decide +kernel)) ggX12_halfOf_X12_begins
set_option maxRecDepth 20000 in
theorem ggX12_floorHalf_X12_halfOf : GoodIn wsX12_floorHalf wsX12_halfOf := goodIn_r _ [6, 7, 8, 9, 10, 11, 12, 13, 14, 15, 5, 16, 17, 18, 19, 20, 21, 22, 23, 24, 25, 26, 27, 28, 29, 30, 31, 32, 33, 34, 35, 36, 37, 38, 39, 40, 41, 42, 43, 44, 45, 46, 47, 48, 49, 50, 51, 52, 53, 54, 55, 1, 56, 57, 58, 59, 60, 61, 62, 63, 64, 65, 66, 67, 68, 69, 70, 71, 72, 73, 74, 75, 76, 77, 78, 79, 80, 81, 82, 83, 84, 85, 86, 87, 88, 89, 90, 91, 92, 93, 94, 95, 96, 97, 98, 99, 100, 101, 102, 103, 104, 105, 106, 107, 108, 109, 110, 111, 112, 113, 114, 115, 116, 117, 118, 119, 120, 121, 122, 123, 124, 125, 126, 127, 128, 129, 130, 131, 132, 133, 134, 135, 136, 137, 138, 139, 140, 141, 142, 143, 144, 145, 146, 147, 148, 149, 150, 151, 152, 153, 154, 155, 156, 157, 158, 159, 160, 161, 162, 163, 164, 165, 166, 167, 168, 169, 170, 171, 172, 173, 174, 175, 176, 177, 178, 179, 180, 181, 182, 183, 184, 185] (by decide +kernel) (by decide +kernel)
set_option maxRecDepth 20000 in
theorem gX12_floorHalf_X12_halfOf : GoodIn wsX12_floorHalf (wsV RX12 555 RX12 yX12_halfOf wsX12_halfOf) := goodIn_app (goodIn_of _ (by decide +kernel)) ggX12_floorHalf_X12_halfOf
set_option maxRecDepth 20000 in
theorem ggX12_floor_X12_within : GoodIn wsX12_floor wsX12_within := goodIn_r _ [6] (by decide +kernel) (by decide +kernel)
set_option maxRecDepth 20000 in
theorem gX12_floor_X12_within : GoodIn wsX12_floor (va_wsS RX12 267 yX12_within wsX12_within) := goodIn_app (goodIn_of _ (by decide +kernel)) ggX12_floor_X12_within
set_option maxRecDepth 20000 in
theorem ggX12_floor_X12_may : GoodIn wsX12_floor wsX12_may := goodIn_r _ [10, 1, 89, 90, 91, 92, 93, 94, 95, 96, 97, 98, 99, 100, 101, 102, 103, 104, 105, 106, 107, 108, 109, 110, 111, 112, 113, 114, 115, 116, 117, 118, 119, 120, 121, 122, 123, 124, 125, 126, 127, 128, 129, 130, 131, 132, 133, 134, 135, 136, 137, 138, 139, 140, 141, 142, 143, 144, 145, 146, 147, 148, 149, 150, 151, 152, 153, 154, 155, 156, 157, 158, 159, 160, 161, 162, 163, 164, 165, 166, 167, 168, 169, 170, 171, 172, 173, 174, 175, 176, 177, 178, 179, 180, 181, 182, 183, 184, 185, 186, 187, 188, 189, 190, 191, 192, 193, 194, 195, 196, 197] (by decide +kernel) (by decide +kernel)
set_option maxRecDepth 20000 in
theorem gX12_floor_X12_may : GoodIn wsX12_floor (wsV RX12 271 RX12 yX12_may wsX12_may) := goodIn_app (goodIn_of _ (by decide +kernel)) ggX12_floor_X12_may
set_option maxRecDepth 20000 in
theorem ggX12_floor_X12_floorHalf : GoodIn wsX12_floor wsX12_floorHalf := goodIn_r _ [14, 2, 15, 16, 17, 5, 18, 19, 20, 21, 22, 23, 24, 25, 26, 27, 28, 29, 30, 31, 32, 33, 34, 35, 36, 37, 38, 39, 40, 41, 42, 43, 44, 45, 46, 47, 48, 49, 50, 51, 52, 53, 54, 55, 56, 57, 58, 59, 60, 61, 62, 63, 64, 65, 66, 67, 68, 69, 70, 71, 72, 73, 74, 75, 76, 77, 78, 79, 80, 81, 82, 83, 84, 85, 86, 87, 88, 89, 90, 91, 92, 93, 94, 95, 96, 97, 98, 99, 100, 101, 102, 103, 104, 105, 106, 107, 108, 109, 110, 111, 112, 113, 114, 115, 116, 117, 118, 119, 120, 121, 122, 123, 124, 125, 126, 127, 128, 129, 130, 131, 132, 133, 134, 135, 136, 137, 138, 139, 140, 141, 142, 143, 144, 145, 146, 147, 148, 149, 150, 151, 152, 153, 154, 155, 156, 157, 158, 159, 160, 161, 162, 163, 164, 165, 166, 167, 168, 169, 170, 171, 172, 173, 174, 175, 176, 177, 178, 179, 180, 181, 182, 183, 184, 185, 186, 187, 188, 189, 190, 191, 192, 193, 194, 195, 196, 197] (by decide +kernel) (by decide +kernel)
set_option maxRecDepth 20000 in
theorem gX12_floor_X12_floorHalf : GoodIn wsX12_floor (wsV RX12 558 RX12 yX12_floorHalf wsX12_floorHalf) := goodIn_app (goodIn_of _ (by decide +kernel)) ggX12_floor_X12_floorHalf
set_option maxRecDepth 20000 in
theorem ggX12_on_X12_within : GoodIn wsX12_on wsX12_within := goodIn_r _ [10] (by decide +kernel) (by decide +kernel)
set_option maxRecDepth 20000 in
theorem gX12_on_X12_within : GoodIn wsX12_on (va_wsS RX12 267 yX12_within wsX12_within) := goodIn_app (goodIn_of _ (by decide +kernel)) ggX12_on_X12_within
set_option maxRecDepth 20000 in
theorem ggX12_on_X12_may : GoodIn wsX12_on wsX12_may := goodIn_r _ [14, 1, 15, 16, 17, 18, 19, 20, 21, 22, 23, 24, 25, 26, 27, 28, 29, 30, 31, 32, 33, 34, 35, 36, 37, 38, 39, 40, 41, 42, 43, 44, 45, 46, 47, 48, 49, 50, 51, 52, 53, 54, 55, 56, 57, 58, 59, 60, 61, 62, 63, 64, 65, 66, 67, 68, 69, 70, 71, 72, 73, 74, 75, 76, 77, 78, 79, 80, 81, 82, 83, 84, 85, 86, 87, 88, 89, 90, 91, 92, 93, 94, 95, 96, 97, 98, 99, 100, 101, 102, 103, 104, 105, 106, 107, 108, 109, 110, 111, 112, 113, 114, 115, 116, 117, 118, 119, 120, 121, 122, 123] (by decide +kernel) (by decide +kernel)
set_option maxRecDepth 20000 in
theorem gX12_on_X12_may : GoodIn wsX12_on (wsV RX12 271 RX12 yX12_may wsX12_may) := goodIn_app (goodIn_of _ (by decide +kernel)) ggX12_on_X12_may
set_option maxRecDepth 20000 in
theorem ggX12_stands_X12_within : GoodIn wsX12_stands wsX12_within := goodIn_r _ [6] (by decide +kernel) (by decide +kernel)
set_option maxRecDepth 20000 in
theorem gX12_stands_X12_within : GoodIn wsX12_stands (va_wsS RX12 267 yX12_within wsX12_within) := goodIn_app (goodIn_of _ (by decide +kernel)) ggX12_stands_X12_within
set_option maxRecDepth 20000 in
theorem ggX12_stands_X12_may : GoodIn wsX12_stands wsX12_may := goodIn_r _ [10, 1, 11, 12, 13, 14, 15, 16, 17, 18, 19, 20, 21, 22, 23, 24, 25, 26, 27, 28, 29, 30, 31, 32, 33, 34, 35, 36, 37, 38, 39, 40, 41, 42, 43, 44, 45, 46, 47, 48, 49, 50, 51, 52, 53, 54, 55, 56, 57, 58, 59, 60, 61, 62, 63, 64, 65, 66, 67, 68, 69, 70, 71, 72, 73, 74, 75, 76, 77, 78, 79, 80, 81, 82, 83, 84, 85, 86, 87, 88, 89, 90, 91, 92, 93, 94, 95, 96, 97, 98, 99, 100, 101, 102, 103, 104, 105, 106, 107, 108, 109, 110, 111, 112, 113, 114, 115, 116, 117, 118, 119] (by decide +kernel) (by decide +kernel)
set_option maxRecDepth 20000 in
theorem gX12_stands_X12_may : GoodIn wsX12_stands (wsV RX12 271 RX12 yX12_may wsX12_may) := goodIn_app (goodIn_of _ (by decide +kernel)) ggX12_stands_X12_may
set_option maxRecDepth 20000 in
theorem ggX12_worked_X12_within : GoodIn wsX12_worked wsX12_within := goodIn_r _ [6] (by decide +kernel) (by decide +kernel)
set_option maxRecDepth 20000 in
theorem gX12_worked_X12_within : GoodIn wsX12_worked (va_wsS RX12 267 yX12_within wsX12_within) := goodIn_app (goodIn_of _ (by decide +kernel)) ggX12_worked_X12_within
set_option maxRecDepth 20000 in
theorem ggX12_worked_X12_may : GoodIn wsX12_worked wsX12_may := goodIn_r _ [10, 1, 18, 19, 20, 21, 22, 23, 24, 25, 26, 27, 28, 29, 30, 31, 32, 33, 34, 35, 36, 37, 38, 39, 40, 41, 42, 43, 44, 45, 46, 47, 48, 49, 50, 51, 52, 53, 54, 55, 56, 57, 58, 59, 60, 61, 62, 63, 64, 65, 66, 67, 68, 69, 70, 71, 72, 73, 74, 75, 76, 77, 78, 79, 80, 81, 82, 83, 84, 85, 86, 87, 88, 89, 90, 91, 92, 93, 94, 95, 96, 97, 98, 99, 100, 101, 102, 103, 104, 105, 106, 107, 108, 109, 110, 111, 112, 113, 114, 115, 116, 117, 118, 119, 120, 121, 122, 123, 124, 125, 126] (by decide +kernel) (by decide +kernel)
set_option maxRecDepth 20000 in
theorem gX12_worked_X12_may : GoodIn wsX12_worked (wsV RX12 271 RX12 yX12_may wsX12_may) := goodIn_app (goodIn_of _ (by decide +kernel)) ggX12_worked_X12_may
set_option maxRecDepth 20000 in
theorem ggX12_foretold_X12_copy : GoodIn wsX12_foretold wsX12_copy := goodIn_r _ [25] (by decide +kernel) (by decide +kernel)
set_option maxRecDepth 20000 in
theorem gX12_foretold_X12_copy : GoodIn wsX12_foretold (va_wsS RX12 564 yX12_copy wsX12_copy) := goodIn_app (goodIn_of _ (by decide +kernel)) ggX12_foretold_X12_copy
set_option maxRecDepth 20000 in
theorem ggX12_foretold_X12_isIdle : GoodIn wsX12_foretold wsX12_isIdle := goodIn_r _ [29, 8, 12, 99, 100, 101, 102, 103, 104, 105, 106, 107, 108, 109, 110, 111, 112, 113, 114, 115, 116, 117, 118, 119, 120, 121, 122, 123, 124, 125, 126, 127, 128, 129, 130, 131, 132, 133, 134, 135, 136, 137, 138, 139, 140, 141, 142, 143, 144, 145, 146, 147, 148, 149, 150, 151, 152, 153, 154, 155, 156, 157, 158, 159, 160, 161, 162, 163, 164, 165, 166, 167, 168, 169, 170, 171, 172, 173, 174, 175, 176, 177, 178, 179, 180, 181, 182, 183, 184, 185, 186, 187, 188, 189, 190, 191, 192, 193, 194, 195, 196, 197, 198, 199, 200, 201, 202, 203, 204, 205, 206, 207] (by decide +kernel) (by decide +kernel)
set_option maxRecDepth 20000 in
theorem gX12_foretold_X12_isIdle : GoodIn wsX12_foretold (wsV RX12 568 RX12 yX12_isIdle wsX12_isIdle) := goodIn_app (goodIn_of _ (by decide +kernel)) ggX12_foretold_X12_isIdle
set_option maxRecDepth 20000 in
theorem ggX12_foretold_X12_floorHalf : GoodIn wsX12_foretold wsX12_floorHalf := goodIn_r _ [33, 2, 34, 35, 36, 24, 37, 12, 38, 14, 18, 16, 39, 40, 41, 42, 43, 8, 10, 44, 45, 46, 47, 20, 48, 49, 50, 51, 52, 53, 54, 55, 56, 57, 58, 59, 60, 61, 62, 63, 64, 65, 66, 67, 68, 69, 70, 71, 72, 73, 74, 75, 76, 77, 6, 4, 78, 79, 80, 81, 82, 83, 84, 85, 86, 87, 88, 89, 90, 91, 92, 93, 94, 95, 96, 97, 98, 99, 100, 101, 102, 103, 104, 105, 106, 107, 108, 109, 110, 111, 112, 113, 114, 115, 116, 117, 118, 119, 120, 121, 122, 123, 124, 125, 126, 127, 128, 129, 130, 131, 132, 133, 134, 135, 136, 137, 138, 139, 140, 141, 142, 143, 144, 145, 146, 147, 148, 149, 150, 151, 152, 153, 154, 155, 156, 157, 158, 159, 160, 161, 162, 163, 164, 165, 166, 167, 168, 169, 170, 171, 172, 173, 174, 175, 176, 177, 178, 179, 180, 181, 182, 183, 184, 185, 186, 187, 188, 189, 190, 191, 192, 193, 194, 195, 196, 197, 198, 199, 200, 201, 202, 203, 204, 205, 206, 207] (by decide +kernel) (by decide +kernel)
set_option maxRecDepth 20000 in
theorem gX12_foretold_X12_floorHalf : GoodIn wsX12_foretold (wsV RX12 558 RX12 yX12_floorHalf wsX12_floorHalf) := goodIn_app (goodIn_of _ (by decide +kernel)) ggX12_foretold_X12_floorHalf
set_option maxRecDepth 20000 in
theorem ggL_joint_X11_joint : GoodIn wsL_joint wsX11_joint := goodIn_ca (goodIn_ca (goodIn_r _ [7, 8, 9, 10, 11, 6, 12, 13, 14, 15, 16, 17, 18, 19, 20, 21, 22, 23, 24, 25, 26, 27, 28, 29, 30, 31, 32, 33, 34, 35, 36, 37, 38, 39, 40, 41, 42, 43, 44, 45, 46, 47, 48, 49, 50, 51, 52, 53, 54, 55, 56, 57, 58, 59, 60, 61, 62, 63, 64, 65, 66, 67, 68, 69, 70, 71, 72, 73] (by decide +kernel) (by decide +kernel)) (goodIn_sub (fun _ h => List.mem_cons_of_mem _ (List.mem_append_left _ (List.mem_append_right _ h))) (by decide +kernel))) (goodIn_sub (fun _ h => List.mem_cons_of_mem _ (List.mem_append_right _ h)) (by decide +kernel))
set_option maxRecDepth 20000 in
theorem gL_joint_X11_joint : GoodIn wsL_joint (wsV RL 7 RX11 yX11_joint wsX11_joint) := goodIn_app (goodIn_of _ (by decide +kernel)) ggL_joint_X11_joint
set_option maxRecDepth 20000 in
theorem ggL_feet_X11_feet : GoodIn wsL_feet wsX11_feet := goodIn_ca (goodIn_ca (goodIn_r _ [7, 8, 9, 10, 11, 12, 6, 13, 14, 15, 16, 17, 18, 19, 20, 21, 22, 23, 24, 25, 26, 27, 28, 29, 30, 31, 32, 33, 34, 35, 36, 37, 38, 39, 40, 41, 42, 43, 44, 45, 46, 47, 48, 49, 50, 51, 52, 53, 54, 55, 56, 57, 58, 59] (by decide +kernel) (by decide +kernel)) (goodIn_sub (fun _ h => List.mem_cons_of_mem _ (List.mem_append_left _ (List.mem_append_right _ h))) (by decide +kernel))) (goodIn_sub (fun _ h => List.mem_cons_of_mem _ (List.mem_append_right _ h)) (by decide +kernel))
set_option maxRecDepth 20000 in
theorem gL_feet_X11_feet : GoodIn wsL_feet (wsV RL 17 RX11 yX11_feet wsX11_feet) := goodIn_app (goodIn_of _ (by decide +kernel)) ggL_feet_X11_feet
set_option maxRecDepth 20000 in
theorem ggL_kit_X11_kit : GoodIn wsL_kit wsX11_kit := goodIn_ca (goodIn_ca (goodIn_r _ [7, 8, 9, 10, 11, 6, 12, 13, 14, 15, 16, 17, 18, 19, 20, 21, 22, 23, 24, 25, 26, 27, 28, 29, 30, 31, 32, 33, 34, 35, 36, 37, 38, 39, 40, 41, 42, 43, 44, 45, 46, 47, 48, 49, 50, 51, 52, 53, 54, 55, 56, 57, 58] (by decide +kernel) (by decide +kernel)) (goodIn_sub (fun _ h => List.mem_cons_of_mem _ (List.mem_append_left _ (List.mem_append_right _ h))) (by decide +kernel))) (goodIn_sub (fun _ h => List.mem_cons_of_mem _ (List.mem_append_right _ h)) (by decide +kernel))
set_option maxRecDepth 20000 in
theorem gL_kit_X11_kit : GoodIn wsL_kit (wsV RL 21 RX11 yX11_kit wsX11_kit) := goodIn_app (goodIn_of _ (by decide +kernel)) ggL_kit_X11_kit
set_option maxRecDepth 20000 in
theorem ggL_sound_X11_sound : GoodIn wsL_sound wsX11_sound := goodIn_ca (goodIn_r _ [6, 7, 8, 9, 10, 5, 11, 12, 13, 14, 15, 16, 17, 18, 19, 20, 21, 22, 23, 24, 25, 26, 27, 28, 29, 30, 31, 32, 33, 34, 35, 36, 37] (by decide +kernel) (by decide +kernel)) (goodIn_sub (fun _ h => List.mem_cons_of_mem _ (List.mem_append_right _ h)) (by decide +kernel))
set_option maxRecDepth 20000 in
theorem gL_sound_X11_sound : GoodIn wsL_sound (wsV RL 25 RX11 yX11_sound wsX11_sound) := goodIn_app (goodIn_of _ (by decide +kernel)) ggL_sound_X11_sound
set_option maxRecDepth 20000 in
theorem ggL_shot_X11_shot : GoodIn wsL_shot wsX11_shot := goodIn_ca (goodIn_ca (goodIn_r _ [7, 8, 9, 10, 11, 12, 13, 14, 15, 16, 17, 18, 19, 20, 21, 6, 22, 23, 24, 25, 26, 27, 28, 29, 30, 31, 32, 33, 34, 35, 36, 37, 38, 39, 40, 41, 42, 43, 44, 45, 46, 47, 48, 49, 50, 51, 52, 53, 54, 55, 56, 57, 58, 59, 60, 61, 62, 63, 64, 65, 66, 67, 68, 69, 70, 71, 72, 73, 74, 75, 76, 77, 78, 79, 80, 81, 82, 83, 84, 85, 86, 87, 88, 89, 90, 91, 92, 93, 94, 95, 96, 97, 98, 99, 100, 101, 102, 103, 104, 105, 106, 107, 108, 109, 110, 111, 112, 113, 114, 115, 116, 117, 118, 119, 120, 121, 122, 123, 124, 125, 126, 127, 128, 129, 130, 131, 132, 133, 134, 135, 136, 137, 138, 139, 140, 141, 142, 143, 144, 145, 146, 147, 148, 149, 150, 151, 152, 153, 154, 155, 156, 157, 158, 159, 160, 161, 162, 163, 164, 165, 166, 167, 168, 169, 170, 171, 172, 173, 174, 175, 176, 177, 178, 179, 180, 181, 182, 183, 184, 185, 186, 187, 188, 189, 190, 191, 192, 193, 194, 195, 196, 197, 198, 199, 200, 201, 202, 203, 204, 205, 206, 207, 208, 209, 210, 211, 212, 213, 214, 215, 216, 217, 218, 219, 220, 221, 222, 223, 224, 225, 226, 227, 228, 229, 230, 231, 232, 233, 234, 235, 236, 237, 238, 239, 240, 241, 242, 243, 244, 245, 246, 247, 248, 249, 250, 251, 252, 253, 254, 255, 256, 257, 258, 259, 260, 261, 262, 263, 264, 265, 266, 267, 268, 269, 270, 271, 272, 273, 274, 275, 276, 277, 278, 279, 280, 281, 282, 283, 284, 285, 286, 287, 288, 289, 290, 291, 292, 293, 294, 295, 296, 297, 298, 299, 300, 301, 302, 303, 304, 305, 306, 307, 308, 309, 310, 311, 312, 313, 314, 315, 316, 317, 318, 319, 320, 321, 322, 323, 324, 325, 326, 327, 328, 329, 330, 331, 332, 333, 334, 335, 336, 337, 338, 339, 340, 341, 342, 343, 344, 345, 346, 347, 348, 349, 350, 351, 352, 353, 354, 355, 356, 357, 358, 359, 360, 361, 362, 363, 364, 365, 366, 367, 368, 369, 370, 371, 372, 373, 374, 375, 376, 377, 378, 379, 380, 381, 382, 383, 384, 385, 386, 387, 388, 389, 390, 391, 392, 393, 394, 395, 396, 397, 398, 399, 400, 401, 402, 403, 404, 405, 406, 407, 408, 409, 410, 411, 412, 413, 414, 415, 416, 417, 418, 419, 420, 421, 422, 423, 424, 425, 426, 427, 428, 429, 430, 431, 432, 433, 434, 435, 436, 437, 438, 439, 440, 441, 442, 443, 444, 445, 446, 447, 448, 449, 450, 451, 452, 453, 454, 455, 456, 457, 458, 459, 460, 461, 462, 463, 464, 465, 466, 467, 468, 469, 470, 471, 472, 473, 474, 475, 476, 477, 478, 479, 480, 481, 482, 483, 484, 485, 486, 487, 488] (by decide +kernel) (by decide +kernel)) (goodIn_sub (fun _ h => List.mem_cons_of_mem _ (List.mem_append_left _ (List.mem_append_right _ h))) (by decide +kernel))) (goodIn_sub (fun _ h => List.mem_cons_of_mem _ (List.mem_append_right _ h)) (by decide +kernel))
set_option maxRecDepth 20000 in
theorem gL_shot_X11_shot : GoodIn wsL_shot (wsV RL 28 RX11 yX11_shot wsX11_shot) := goodIn_app (goodIn_of _ (by decide +kernel)) ggL_shot_X11_shot
set_option maxRecDepth 20000 in
theorem ggL_told_X11_told : GoodIn wsL_told wsX11_told := goodIn_ca (goodIn_ca (goodIn_r _ [7, 8, 9, 10, 11, 12, 13, 14, 15, 16, 17, 6, 18, 19, 20, 21, 22, 23, 24, 25, 26, 27, 28, 29, 30, 31, 32, 33, 34, 35, 36, 37, 38, 39, 40, 41, 42, 43, 44, 45, 46, 47, 48, 49, 50, 51, 52, 53, 54, 55, 56, 57, 58, 59, 60, 61, 62, 63, 64, 65, 66, 67, 68, 69, 70, 71, 72, 73, 74, 75, 76, 77, 78, 79, 80, 81, 82, 83, 84, 85, 86, 87, 88, 89, 90, 91, 92, 93, 94, 95, 96, 97, 98, 99, 100, 101, 102] (by decide +kernel) (by decide +kernel)) (goodIn_sub (fun _ h => List.mem_cons_of_mem _ (List.mem_append_left _ (List.mem_append_right _ h))) (by decide +kernel))) (goodIn_sub (fun _ h => List.mem_cons_of_mem _ (List.mem_append_right _ h)) (by decide +kernel))
set_option maxRecDepth 20000 in
theorem gL_told_X11_told : GoodIn wsL_told (wsV RL 34 RX11 yX11_told wsX11_told) := goodIn_app (goodIn_of _ (by decide +kernel)) ggL_told_X11_told
set_option maxRecDepth 20000 in
theorem ggL_step_X11_step : GoodIn wsL_step wsX11_step := goodIn_ca (goodIn_r _ [6, 7, 8, 9, 10, 11, 5, 12, 13, 14, 15, 16, 17, 18, 19, 20, 21, 22, 23, 24, 25, 26, 27, 28, 29, 30, 31, 32, 33, 34, 35, 36, 37, 38, 39, 40, 41, 42, 43, 44, 45, 46, 47, 48, 49, 50, 51, 52, 53, 54, 55, 56, 57, 58, 59, 60, 61, 62, 63, 64, 65, 66, 67, 68, 69, 70, 71, 72, 73, 74, 75, 76, 77, 78, 79, 80, 81, 82, 83, 84, 85, 86, 87, 88, 89, 90, 91, 92, 93, 94] (by decide +kernel) (by decide +kernel)) (goodIn_sub (fun _ h => List.mem_cons_of_mem _ (List.mem_append_right _ h)) (by decide +kernel))
set_option maxRecDepth 20000 in
theorem gL_step_X11_step : GoodIn wsL_step (wsV RL 39 RX11 yX11_step wsX11_step) := goodIn_app (goodIn_of _ (by decide +kernel)) ggL_step_X11_step
set_option maxRecDepth 20000 in
theorem ggL_mouth_X11_mouth : GoodIn wsL_mouth wsX11_mouth := goodIn_ca (goodIn_r _ [6, 7, 8, 9, 10, 5, 11, 12, 13, 14, 15, 16, 17, 18, 19, 20, 21, 22, 23, 24, 25, 26, 27, 28, 29, 30, 31, 32, 33, 34, 35, 36, 37, 38, 39, 40, 41, 42, 43, 44, 45, 46, 47, 48, 49, 50, 51, 52, 53, 54, 55, 56, 57, 58, 59, 60, 61, 62, 63, 64, 65, 66, 67, 68, 69, 70, 71, 72, 73, 74, 75, 76, 77, 78, 79, 80, 81] (by decide +kernel) (by decide +kernel)) (goodIn_sub (fun _ h => List.mem_cons_of_mem _ (List.mem_append_right _ h)) (by decide +kernel))
set_option maxRecDepth 20000 in
theorem gL_mouth_X11_mouth : GoodIn wsL_mouth (wsV RL 43 RX11 yX11_mouth wsX11_mouth) := goodIn_app (goodIn_of _ (by decide +kernel)) ggL_mouth_X11_mouth
set_option maxRecDepth 20000 in
theorem ggL_camera_X11_camera : GoodIn wsL_camera wsX11_camera := goodIn_ca (goodIn_r _ [6, 7, 8, 9, 5, 10, 11, 12, 13, 14, 15, 16, 17, 18, 19, 20, 21, 22, 23, 24, 25, 26, 27, 28, 29, 30, 31, 32, 33, 34, 35, 36, 37, 38, 39, 40, 41, 42, 43, 44, 45, 46, 47, 48, 49, 50, 51, 52, 53, 54, 55, 56, 57, 58, 59, 60, 61, 62, 63, 64, 65, 66, 67, 68] (by decide +kernel) (by decide +kernel)) (goodIn_sub (fun _ h => List.mem_cons_of_mem _ (List.mem_append_right _ h)) (by decide +kernel))
set_option maxRecDepth 20000 in
theorem gL_camera_X11_camera : GoodIn wsL_camera (wsV RL 47 RX11 yX11_camera wsX11_camera) := goodIn_app (goodIn_of _ (by decide +kernel)) ggL_camera_X11_camera
set_option maxRecDepth 20000 in
theorem ggL_state_X11_state : GoodIn wsL_state wsX11_state := goodIn_ca (goodIn_r _ [6, 7, 8, 9, 10, 5, 11, 12, 13, 14, 15, 16, 17, 18, 19, 20, 21, 22, 23, 24, 25, 26, 27, 28, 29, 30, 31, 32, 33, 34, 35, 36, 37, 38, 39, 40, 41, 42, 43, 44, 45, 46, 47, 48, 49, 50, 51, 52, 53, 54, 55, 56, 57, 58, 59, 60, 61, 62, 63, 64, 65, 66, 67, 68, 69, 70, 71, 72, 73, 74, 75, 76, 77, 78, 79, 80, 81, 82, 83, 84, 85, 86, 87, 88, 89, 90, 91, 92, 93, 94, 95, 96, 97, 98, 99, 100, 101, 102, 103, 104, 105, 106, 107, 108, 109, 110, 111, 112, 113, 114, 115, 116, 117, 118, 119] (by decide +kernel) (by decide +kernel)) (goodIn_sub (fun _ h => List.mem_cons_of_mem _ (List.mem_append_right _ h)) (by decide +kernel))
set_option maxRecDepth 20000 in
theorem gL_state_X11_state : GoodIn wsL_state (wsV RL 50 RX11 yX11_state wsX11_state) := goodIn_app (goodIn_of _ (by decide +kernel)) ggL_state_X11_state
set_option maxRecDepth 20000 in
theorem ggL_lean_X11_lean : GoodIn wsL_lean wsX11_lean := goodIn_ca (goodIn_r _ [6, 7, 8, 9, 10, 11, 5, 12, 13, 14, 15, 16, 17, 18, 19, 20, 21, 22, 23, 24, 25, 26, 27, 28, 29, 30, 31, 32, 33, 34, 35, 36, 37, 38, 39, 40, 41, 42, 43, 44, 45, 46, 47, 48, 49, 50, 51, 52, 53, 54, 55, 56, 57, 58, 59, 60, 61, 62, 63, 64, 65, 66, 67, 68, 69, 70, 71, 72, 73, 74, 75, 76, 77, 78, 79, 80, 81, 82, 83, 84, 85, 86, 87, 88, 89, 90, 91, 92, 93, 94, 95, 96, 97, 98, 99, 100, 101, 102] (by decide +kernel) (by decide +kernel)) (goodIn_sub (fun _ h => List.mem_cons_of_mem _ (List.mem_append_right _ h)) (by decide +kernel))
set_option maxRecDepth 20000 in
theorem gL_lean_X11_lean : GoodIn wsL_lean (wsV RL 53 RX11 yX11_lean wsX11_lean) := goodIn_app (goodIn_of _ (by decide +kernel)) ggL_lean_X11_lean
set_option maxRecDepth 20000 in
theorem ggL_breach_X11_breach : GoodIn wsL_breach wsX11_breach := goodIn_ca (goodIn_ca (goodIn_r _ [7, 8, 9, 10, 11, 12, 6, 13, 14, 15, 16, 17, 18, 19, 20, 21, 22, 23, 24, 25, 26, 27, 28, 29, 30, 31, 32, 33, 34, 35, 36, 37, 38, 39, 40, 41, 42, 43, 44, 45, 46, 47, 48, 49, 50, 51, 52, 53, 54, 55, 56, 57, 58, 59, 60, 61, 62, 63, 64, 65, 66, 67, 68, 69, 70, 71, 72, 73, 74, 75, 76, 77, 78, 79, 80, 81, 82, 83, 84, 85, 86, 87, 88, 89, 90, 91, 92, 93, 94, 95, 96, 97, 98, 99, 100, 101, 102, 103, 104, 105] (by decide +kernel) (by decide +kernel)) (goodIn_sub (fun _ h => List.mem_cons_of_mem _ (List.mem_append_left _ (List.mem_append_right _ h))) (by decide +kernel))) (goodIn_sub (fun _ h => List.mem_cons_of_mem _ (List.mem_append_right _ h)) (by decide +kernel))
set_option maxRecDepth 20000 in
theorem gL_breach_X11_breach : GoodIn wsL_breach (wsV RL 56 RX11 yX11_breach wsX11_breach) := goodIn_app (goodIn_of _ (by decide +kernel)) ggL_breach_X11_breach
set_option maxRecDepth 20000 in
theorem ggL_fall_X11_fall : GoodIn wsL_fall wsX11_fall := goodIn_ca (goodIn_ca (goodIn_r _ [7, 8, 9, 10, 11, 12, 6, 13, 14, 15, 16, 17, 18, 19, 20, 21, 22, 23, 24, 25, 26, 27, 28, 29, 30, 31, 32, 33, 34, 35, 36, 37, 38, 39, 40, 41, 42, 43, 44, 45, 46, 47, 48, 49, 50, 51, 52, 53, 54, 55, 56, 57, 58, 59, 60, 61, 62, 63, 64, 65, 66, 67, 68, 69, 70, 71, 72, 73, 74, 75, 76, 77, 78, 79, 80, 81, 82, 83, 84, 85, 86, 87, 88, 89, 90, 91, 92, 93, 94, 95, 96, 97, 98, 99, 100, 101, 102, 103, 104, 105, 106, 107, 108, 109, 110, 111, 112, 113, 114, 115, 116, 117, 118, 119, 120, 121, 122] (by decide +kernel) (by decide +kernel)) (goodIn_sub (fun _ h => List.mem_cons_of_mem _ (List.mem_append_left _ (List.mem_append_right _ h))) (by decide +kernel))) (goodIn_sub (fun _ h => List.mem_cons_of_mem _ (List.mem_append_right _ h)) (by decide +kernel))
set_option maxRecDepth 20000 in
theorem gL_fall_X11_fall : GoodIn wsL_fall (wsV RL 59 RX11 yX11_fall wsX11_fall) := goodIn_app (goodIn_of _ (by decide +kernel)) ggL_fall_X11_fall
set_option maxRecDepth 20000 in
theorem ggL_alike_X11_alike : GoodIn wsL_alike wsX11_alike := goodIn_ca (goodIn_ca (goodIn_r _ [7, 8, 9, 10, 11, 6, 12, 13, 14, 15, 16, 17, 18, 19, 20, 21, 22, 23, 24, 25, 26, 27, 28, 29, 30, 31, 32, 33, 34, 35, 36, 37, 38, 39, 40, 41, 42, 43, 44, 45, 46, 47, 48, 49, 50, 51, 52, 53, 54, 55, 56, 57, 58, 59, 60, 61, 62, 63, 64, 65, 66, 67, 68, 69, 70, 71, 72, 73, 74, 75, 76, 77, 78, 79, 80, 81, 82, 83, 84, 85, 86, 87, 88, 89, 90, 91, 92, 93, 94, 95, 96, 97, 98, 99, 100, 101, 102] (by decide +kernel) (by decide +kernel)) (goodIn_sub (fun _ h => List.mem_cons_of_mem _ (List.mem_append_left _ (List.mem_append_right _ h))) (by decide +kernel))) (goodIn_sub (fun _ h => List.mem_cons_of_mem _ (List.mem_append_right _ h)) (by decide +kernel))
set_option maxRecDepth 20000 in
theorem gL_alike_X11_alike : GoodIn wsL_alike (wsV RL 62 RX11 yX11_alike wsX11_alike) := goodIn_app (goodIn_of _ (by decide +kernel)) ggL_alike_X11_alike
set_option maxRecDepth 20000 in
theorem ggL_swap_X11_swap : GoodIn wsL_swap wsX11_swap := goodIn_ca (goodIn_ca (goodIn_r _ [7, 8, 9, 10, 6, 11, 12, 13, 14, 15, 16, 17, 18, 19, 20, 21, 22, 23, 24, 25, 26, 27, 28, 29, 30, 31, 32, 33, 34, 35, 36, 37, 38, 39, 40, 41, 42, 43, 44, 45, 46, 47, 48, 49, 50, 51, 52, 53, 54, 55, 56, 57, 58, 59, 60, 61, 62, 63, 64, 65, 66, 67, 68, 69, 70, 71, 72, 73, 74, 75, 76, 77, 78, 79, 80, 81, 82, 83, 84, 85, 86, 87, 88, 89, 90, 91, 92, 93, 94, 95, 96, 97, 98, 99, 100, 101, 102, 103, 104, 105, 106, 107, 108, 109, 110, 111, 112, 113, 114, 115, 116, 117, 118, 119, 120, 121, 122, 123, 124, 125, 126, 127, 128, 129, 130, 131, 132, 133, 134, 135, 136, 137, 138, 139, 140, 141, 142, 143, 144, 145, 146, 147, 148, 149, 150, 151] (by decide +kernel) (by decide +kernel)) (goodIn_sub (fun _ h => List.mem_cons_of_mem _ (List.mem_append_left _ (List.mem_append_right _ h))) (by decide +kernel))) (goodIn_sub (fun _ h => List.mem_cons_of_mem _ (List.mem_append_right _ h)) (by decide +kernel))
set_option maxRecDepth 20000 in
theorem gL_swap_X11_swap : GoodIn wsL_swap (wsV RL 66 RX11 yX11_swap wsX11_swap) := goodIn_app (goodIn_of _ (by decide +kernel)) ggL_swap_X11_swap
set_option maxRecDepth 20000 in
theorem ggL_set_X11_set : GoodIn wsL_set wsX11_set := goodIn_ca (goodIn_r _ [6, 7, 8, 9, 10, 11, 12, 13, 14, 5, 15, 16, 17, 18, 19, 20, 21, 22, 23, 24, 25, 26, 27, 28, 29, 30, 31, 32, 33, 34, 35, 36, 37, 38, 39, 40, 41, 42, 43, 44, 45, 46, 47, 48, 49, 50, 51, 52, 53, 54, 55, 56, 57, 58, 59, 60] (by decide +kernel) (by decide +kernel)) (goodIn_sub (fun _ h => List.mem_cons_of_mem _ (List.mem_append_right _ h)) (by decide +kernel))
set_option maxRecDepth 20000 in
theorem gL_set_X11_set : GoodIn wsL_set (wsV RL 69 RX11 yX11_set wsX11_set) := goodIn_app (goodIn_of _ (by decide +kernel)) ggL_set_X11_set
set_option maxRecDepth 20000 in
theorem ggL_lasts_X11_lasts : GoodIn wsL_lasts wsX11_lasts := goodIn_ca (goodIn_ca (goodIn_r _ [7, 8, 9, 10, 11, 6, 12, 13, 14, 15, 16, 17, 18, 19, 20, 21, 22, 23, 24, 25, 26, 27, 28, 29, 30, 31, 32, 33, 34, 35, 36, 37, 38, 39, 40, 41, 42, 43, 44, 45, 46, 47, 48, 49, 50, 51, 52, 53, 54, 55, 56, 57, 58, 59, 60, 61, 62, 63, 64, 65, 66, 67, 68, 69, 70, 71, 72, 73, 74, 75, 76, 77, 78, 79, 80, 81, 82, 83, 84, 85, 86, 87, 88, 89] (by decide +kernel) (by decide +kernel)) (goodIn_sub (fun _ h => List.mem_cons_of_mem _ (List.mem_append_left _ (List.mem_append_right _ h))) (by decide +kernel))) (goodIn_sub (fun _ h => List.mem_cons_of_mem _ (List.mem_append_right _ h)) (by decide +kernel))
set_option maxRecDepth 20000 in
theorem gL_lasts_X11_lasts : GoodIn wsL_lasts (wsV RL 72 RX11 yX11_lasts wsX11_lasts) := goodIn_app (goodIn_of _ (by decide +kernel)) ggL_lasts_X11_lasts
set_option maxRecDepth 20000 in
theorem ggL_clash_X11_clash : GoodIn wsL_clash wsX11_clash := goodIn_ca (goodIn_r _ [6, 7, 8, 9, 10, 5, 11, 12, 13, 14, 15, 16, 17, 18, 19, 20, 21, 22, 23, 24, 25, 26, 27, 28, 29, 30, 31, 32, 33, 34, 35, 36, 37, 38, 39, 40, 41, 42, 43, 44, 45, 46, 47, 48, 49, 50, 51, 52, 53, 54, 55, 56, 57, 58, 59, 60, 61, 62, 63, 64, 65, 66, 67, 68, 69, 70, 71, 72, 73, 74, 75, 76] (by decide +kernel) (by decide +kernel)) (goodIn_sub (fun _ h => List.mem_cons_of_mem _ (List.mem_append_right _ h)) (by decide +kernel))
set_option maxRecDepth 20000 in
theorem gL_clash_X11_clash : GoodIn wsL_clash (wsV RL 75 RX11 yX11_clash wsX11_clash) := goodIn_app (goodIn_of _ (by decide +kernel)) ggL_clash_X11_clash
set_option maxRecDepth 20000 in
theorem ggL_best_X11_best : GoodIn wsL_best wsX11_best := goodIn_ca (goodIn_r _ [6, 7, 8, 9, 10, 11, 12, 13, 5, 14, 15, 16, 17, 18, 19, 20, 21, 22, 23, 24, 25, 26, 27, 28, 29, 30, 31, 32, 33, 34, 35, 36, 37, 38, 39, 40, 41, 42, 43, 44, 45, 46, 47, 48, 49, 50, 51, 52, 53, 54, 55, 56, 57, 58, 59, 60, 61, 62, 63, 64, 65, 66, 67, 68, 69, 70, 71, 72, 73, 74, 75, 76, 77, 78, 79, 80, 81, 82, 83, 84, 85, 86, 87, 88, 89, 90, 91, 92, 93, 94, 95, 96, 97, 98, 99, 100, 101, 102, 103, 104, 105, 106, 107, 108, 109, 110, 111, 112, 113, 114, 115, 116, 117, 118, 119, 120, 121, 122, 123, 124, 125, 126, 127, 128, 129, 130, 131, 132, 133, 134, 135, 136, 137, 138, 139, 140, 141, 142, 143, 144, 145, 146, 147, 148, 149, 150, 151, 152, 153, 154, 155, 156, 157, 158, 159, 160, 161, 162, 163, 164, 165, 166, 167, 168, 169, 170, 171, 172, 173, 174, 175, 176, 177, 178, 179, 180, 181, 182, 183, 184, 185, 186, 187, 188, 189, 190, 191, 192, 193, 194, 195, 196, 197, 198, 199, 200, 201, 202, 203, 204, 205, 206, 207, 208, 209, 210, 211, 212, 213, 214, 215, 216, 217, 218, 219, 220, 221, 222, 223, 224, 225, 226, 227, 228, 229, 230, 231, 232, 233, 234, 235, 236, 237] (by decide +kernel) (by decide +kernel)) (goodIn_sub (fun _ h => List.mem_cons_of_mem _ (List.mem_append_right _ h)) (by decide +kernel))
set_option maxRecDepth 20000 in
theorem gL_best_X11_best : GoodIn wsL_best (wsV RL 79 RX11 yX11_best wsX11_best) := goodIn_app (goodIn_of _ (by decide +kernel)) ggL_best_X11_best
set_option maxRecDepth 20000 in
theorem ggL_row_X11_row : GoodIn wsL_row wsX11_row := goodIn_ca (goodIn_ca (goodIn_r _ [7, 8, 9, 10, 11, 12, 6, 13, 14, 15, 16, 17, 18, 19, 20, 21, 22, 23, 24, 25, 26, 27, 28, 29, 30, 31, 32, 33, 34, 35, 36, 37, 38, 39, 40, 41, 42, 43, 44, 45, 46, 47, 48, 49, 50, 51, 52, 53, 54, 55, 56, 57, 58, 59, 60, 61, 62] (by decide +kernel) (by decide +kernel)) (goodIn_sub (fun _ h => List.mem_cons_of_mem _ (List.mem_append_left _ (List.mem_append_right _ h))) (by decide +kernel))) (goodIn_sub (fun _ h => List.mem_cons_of_mem _ (List.mem_append_right _ h)) (by decide +kernel))
set_option maxRecDepth 20000 in
theorem gL_row_X11_row : GoodIn wsL_row (wsV RL 82 RX11 yX11_row wsX11_row) := goodIn_app (goodIn_of _ (by decide +kernel)) ggL_row_X11_row
set_option maxRecDepth 20000 in
theorem ggL_bump_X11_bump : GoodIn wsL_bump wsX11_bump := goodIn_ca (goodIn_ca (goodIn_ca (goodIn_r _ [8, 9, 10, 11, 12, 13, 14, 15, 16, 17, 18, 19, 7, 20, 21, 22, 23, 24, 25, 26, 27, 28, 29, 30, 31, 32, 33, 34, 35, 36, 37, 38, 39, 40, 41, 42, 43, 44, 45, 46, 47, 48, 49, 50, 51, 52, 53, 54, 55, 56, 57, 58, 59, 60, 61, 62, 63, 64, 65, 66, 67, 68, 69, 70, 71, 72, 73, 74, 75, 76, 77, 78, 79, 80, 81, 82, 83, 84, 85, 86, 87, 88, 89, 90, 91, 92, 93, 94, 95, 96, 97, 98, 99, 100, 101, 102, 103, 104, 105, 106, 107, 108, 109, 110, 111, 112, 113, 114, 115, 116, 117, 118, 119, 120, 121, 122, 123, 124, 125, 126, 127, 128, 129, 130, 131, 132] (by decide +kernel) (by decide +kernel)) (goodIn_sub (fun _ h => List.mem_cons_of_mem _ (List.mem_append_left _ (List.mem_append_left _ (List.mem_append_right _ h)))) (by decide +kernel))) (goodIn_sub (fun _ h => List.mem_cons_of_mem _ (List.mem_append_left _ (List.mem_append_right _ h))) (by decide +kernel))) (goodIn_sub (fun _ h => List.mem_cons_of_mem _ (List.mem_append_right _ h)) (by decide +kernel))
set_option maxRecDepth 20000 in
theorem gL_bump_X11_bump : GoodIn wsL_bump (wsV RL 85 RX11 yX11_bump wsX11_bump) := goodIn_app (goodIn_of _ (by decide +kernel)) ggL_bump_X11_bump
set_option maxRecDepth 20000 in
theorem ggL_wait_X11_wait : GoodIn wsL_wait wsX11_wait := goodIn_ca (goodIn_r _ [6, 7, 8, 9, 10, 5, 11, 12, 13, 14, 15, 16, 17, 18, 19, 20, 21, 22, 23, 24, 25, 26, 27, 28, 29, 30, 31, 32, 33, 34, 35, 36, 37, 38, 39, 40, 41, 42, 43, 44, 45] (by decide +kernel) (by decide +kernel)) (goodIn_sub (fun _ h => List.mem_cons_of_mem _ (List.mem_append_right _ h)) (by decide +kernel))
set_option maxRecDepth 20000 in
theorem gL_wait_X11_wait : GoodIn wsL_wait (wsV RL 88 RX11 yX11_wait wsX11_wait) := goodIn_app (goodIn_of _ (by decide +kernel)) ggL_wait_X11_wait
set_option maxRecDepth 20000 in
theorem ggL_shoot_X11_shoot : GoodIn wsL_shoot wsX11_shoot := goodIn_ca (goodIn_ca (goodIn_r _ [7, 8, 9, 10, 11, 12, 6, 13, 14, 15, 16, 17, 18, 19, 20, 21, 22, 23, 24, 25, 26, 27, 28, 29, 30, 31, 32, 33, 34, 35, 36, 37, 38, 39, 40, 41, 42, 43, 44, 45, 46, 47, 48, 49, 50, 51, 52, 53, 54, 55, 56, 57, 58, 59, 60, 61, 62, 63, 64, 65, 66, 67, 68, 69, 70, 71, 72, 73, 74, 75, 76, 77, 78, 79, 80, 81, 82, 83, 84, 85, 86, 87, 88, 89, 90, 91, 92, 93, 94, 95, 96, 97, 98, 99, 100, 101] (by decide +kernel) (by decide +kernel)) (goodIn_sub (fun _ h => List.mem_cons_of_mem _ (List.mem_append_left _ (List.mem_append_right _ h))) (by decide +kernel))) (goodIn_sub (fun _ h => List.mem_cons_of_mem _ (List.mem_append_right _ h)) (by decide +kernel))
set_option maxRecDepth 20000 in
theorem gL_shoot_X11_shoot : GoodIn wsL_shoot (wsV RL 91 RX11 yX11_shoot wsX11_shoot) := goodIn_app (goodIn_of _ (by decide +kernel)) ggL_shoot_X11_shoot
set_option maxRecDepth 20000 in
theorem ggL_when_X11_when : GoodIn wsL_when wsX11_when := goodIn_ca (goodIn_ca (goodIn_r _ [7, 8, 9, 10, 11, 6, 12, 13, 14, 15, 16, 17, 18, 19, 20, 21, 22, 23, 24, 25, 26, 27, 28, 29, 30, 31, 32, 33, 34, 35, 36, 37, 38, 39, 40, 41, 42, 43, 44, 45, 46, 47, 48, 49, 50, 51, 52, 53, 54, 55, 56, 57, 58, 59, 60, 61, 62, 63, 64, 65, 66, 67, 68, 69, 70, 71, 72, 73, 74, 75, 76, 77, 78, 79, 80, 81, 82, 83, 84, 85, 86, 87, 88, 89, 90, 91, 92, 93, 94, 95, 96] (by decide +kernel) (by decide +kernel)) (goodIn_sub (fun _ h => List.mem_cons_of_mem _ (List.mem_append_left _ (List.mem_append_right _ h))) (by decide +kernel))) (goodIn_sub (fun _ h => List.mem_cons_of_mem _ (List.mem_append_right _ h)) (by decide +kernel))
set_option maxRecDepth 20000 in
theorem gL_when_X11_when : GoodIn wsL_when (wsV RL 94 RX11 yX11_when wsX11_when) := goodIn_app (goodIn_of _ (by decide +kernel)) ggL_when_X11_when
set_option maxRecDepth 20000 in
theorem ggL_measure_X11_measure : GoodIn wsL_measure wsX11_measure := goodIn_ca (goodIn_ca (goodIn_ca (goodIn_r _ [8, 9, 10, 11, 12, 13, 14, 15, 7, 16, 17, 18, 19, 20, 21, 22, 23, 24, 25, 26, 27, 28, 29, 30, 31, 32, 33, 34, 35, 36, 37, 38, 39, 40, 41, 42, 43, 44, 45, 46, 47, 48, 49, 50, 51, 52, 53, 54, 55, 56, 57, 58, 59, 60, 61, 62, 63, 64, 65, 66, 67, 68, 69, 70, 71, 72, 73, 74, 75, 76, 77, 78, 79, 80, 81, 82, 83, 84, 85, 86, 87, 88, 89, 90, 91, 92, 93, 94, 95, 96, 97, 98, 99, 100, 101, 102, 103, 104, 105, 106, 107, 108, 109, 110, 111, 112, 113, 114, 115, 116, 117, 118] (by decide +kernel) (by decide +kernel)) (goodIn_sub (fun _ h => List.mem_cons_of_mem _ (List.mem_append_left _ (List.mem_append_left _ (List.mem_append_right _ h)))) (by decide +kernel))) (goodIn_sub (fun _ h => List.mem_cons_of_mem _ (List.mem_append_left _ (List.mem_append_right _ h))) (by decide +kernel))) (goodIn_sub (fun _ h => List.mem_cons_of_mem _ (List.mem_append_right _ h)) (by decide +kernel))
set_option maxRecDepth 20000 in
theorem gL_measure_X11_measure : GoodIn wsL_measure (wsV RL 97 RX11 yX11_measure wsX11_measure) := goodIn_app (goodIn_of _ (by decide +kernel)) ggL_measure_X11_measure
set_option maxRecDepth 20000 in
theorem ggL_mended_X11_mended : GoodIn wsL_mended wsX11_mended := goodIn_ca (goodIn_ca (goodIn_r _ [7, 8, 9, 10, 11, 6, 12, 13, 14, 15, 16, 17, 18, 19, 20, 21, 22, 23, 24, 25, 26, 27, 28, 29, 30, 31, 32, 33, 34, 35, 36, 37, 38, 39, 40, 41, 42, 43, 44, 45, 46, 47, 48, 49, 50, 51, 52, 53, 54, 55, 56, 57, 58, 59, 60, 61, 62, 63, 64, 65, 66, 67, 68, 69, 70, 71, 72, 73, 74, 75, 76, 77, 78, 79, 80, 81, 82, 83, 84, 85, 86, 87, 88, 89, 90] (by decide +kernel) (by decide +kernel)) (goodIn_sub (fun _ h => List.mem_cons_of_mem _ (List.mem_append_left _ (List.mem_append_right _ h))) (by decide +kernel))) (goodIn_sub (fun _ h => List.mem_cons_of_mem _ (List.mem_append_right _ h)) (by decide +kernel))
set_option maxRecDepth 20000 in
theorem gL_mended_X11_mended : GoodIn wsL_mended (wsV RL 100 RX11 yX11_mended wsX11_mended) := goodIn_app (goodIn_of _ (by decide +kernel)) ggL_mended_X11_mended
set_option maxRecDepth 20000 in
theorem ggL_leap_X11_leap : GoodIn wsL_leap wsX11_leap := goodIn_ca (goodIn_r _ [6, 7, 8, 9, 10, 11, 12, 13, 14, 15, 16, 17, 18, 5, 19, 20, 21, 22, 23, 24, 25, 26, 27, 28, 29, 30, 31, 32, 33, 34, 35, 36, 37, 38, 39, 40, 41, 42, 43, 44, 45, 46, 47, 48, 49, 50, 51, 52, 53, 54, 55, 56, 57, 58, 59, 60, 61, 62, 63, 64, 65, 66, 67, 68, 69, 70, 71, 72, 73, 74, 75, 76, 77, 78, 79, 80, 81, 82, 83, 84, 85, 86, 87, 88, 89, 90, 91, 92, 93, 94, 95] (by decide +kernel) (by decide +kernel)) (goodIn_sub (fun _ h => List.mem_cons_of_mem _ (List.mem_append_right _ h)) (by decide +kernel))
set_option maxRecDepth 20000 in
theorem gL_leap_X11_leap : GoodIn wsL_leap (wsV RL 103 RX11 yX11_leap wsX11_leap) := goodIn_app (goodIn_of _ (by decide +kernel)) ggL_leap_X11_leap
set_option maxRecDepth 20000 in
theorem ggL_paint_X11_paint : GoodIn wsL_paint wsX11_paint := goodIn_ca (goodIn_ca (goodIn_r _ [7, 8, 9, 10, 11, 12, 6, 13, 14, 15, 16, 17, 18, 19, 20, 21, 22, 23, 24, 25, 26, 27, 28, 29, 30, 31, 32, 33, 34, 35, 36, 37, 38, 39, 40, 41, 42, 43, 44, 45, 46, 47, 48, 49, 50, 51, 52, 53, 54, 55, 56, 57, 58, 59, 60, 61, 62, 63, 64, 65, 66, 67, 68, 69, 70] (by decide +kernel) (by decide +kernel)) (goodIn_sub (fun _ h => List.mem_cons_of_mem _ (List.mem_append_left _ (List.mem_append_right _ h))) (by decide +kernel))) (goodIn_sub (fun _ h => List.mem_cons_of_mem _ (List.mem_append_right _ h)) (by decide +kernel))
set_option maxRecDepth 20000 in
theorem gL_paint_X11_paint : GoodIn wsL_paint (wsV RL 106 RX11 yX11_paint wsX11_paint) := goodIn_app (goodIn_of _ (by decide +kernel)) ggL_paint_X11_paint
set_option maxRecDepth 20000 in
theorem ggL_dirty_X11_dirty : GoodIn wsL_dirty wsX11_dirty := goodIn_ca (goodIn_r _ [6, 7, 8, 9, 10, 11, 12, 13, 14, 5, 15, 16, 17, 18, 19, 20, 21, 22, 23, 24, 25, 26, 27, 28, 29, 30, 31, 32, 33, 34, 35, 36, 37, 38, 39, 40, 41, 42, 43, 44, 45, 46, 47, 48, 49, 50, 51, 52, 53, 54, 55, 56, 57, 58, 59, 60, 61, 62, 63, 64, 65, 66, 67, 68, 69] (by decide +kernel) (by decide +kernel)) (goodIn_sub (fun _ h => List.mem_cons_of_mem _ (List.mem_append_right _ h)) (by decide +kernel))
set_option maxRecDepth 20000 in
theorem gL_dirty_X11_dirty : GoodIn wsL_dirty (wsV RL 110 RX11 yX11_dirty wsX11_dirty) := goodIn_app (goodIn_of _ (by decide +kernel)) ggL_dirty_X11_dirty
set_option maxRecDepth 20000 in
theorem ggL_animator_X11_animator : GoodIn wsL_animator wsX11_animator := goodIn_ca (goodIn_r _ [6, 7, 8, 9, 5, 10, 11, 12, 13, 14, 15, 16, 17, 18, 19, 20, 21, 22, 23, 24, 25, 26, 27, 28, 29, 30, 31, 32, 33, 34, 35, 36, 37, 38, 39, 40, 41, 42, 43, 44, 45, 46, 47, 48, 49, 50, 51] (by decide +kernel) (by decide +kernel)) (goodIn_sub (fun _ h => List.mem_cons_of_mem _ (List.mem_append_right _ h)) (by decide +kernel))
set_option maxRecDepth 20000 in
theorem gL_animator_X11_animator : GoodIn wsL_animator (wsV RL 113 RX11 yX11_animator wsX11_animator) := goodIn_app (goodIn_of _ (by decide +kernel)) ggL_animator_X11_animator
set_option maxRecDepth 20000 in
theorem ggL_station_X11_station : GoodIn wsL_station wsX11_station := goodIn_ca (goodIn_ca (goodIn_r _ [7, 8, 9, 10, 11, 12, 6, 13, 14, 15, 16, 17, 18, 19, 20, 21, 22, 23, 24, 25, 26, 27, 28, 29, 30, 31, 32, 33, 34, 35, 36, 37, 38, 39, 40, 41, 42, 43, 44, 45, 46, 47, 48, 49, 50, 51, 52, 53, 54, 55] (by decide +kernel) (by decide +kernel)) (goodIn_sub (fun _ h => List.mem_cons_of_mem _ (List.mem_append_left _ (List.mem_append_right _ h))) (by decide +kernel))) (goodIn_sub (fun _ h => List.mem_cons_of_mem _ (List.mem_append_right _ h)) (by decide +kernel))
set_option maxRecDepth 20000 in
theorem gL_station_X11_station : GoodIn wsL_station (wsV RL 116 RX11 yX11_station wsX11_station) := goodIn_app (goodIn_of _ (by decide +kernel)) ggL_station_X11_station
set_option maxRecDepth 20000 in
theorem ggL_queue_X11_queue : GoodIn wsL_queue wsX11_queue := goodIn_ca (goodIn_ca (goodIn_r _ [7, 8, 9, 10, 11, 12, 6, 13, 14, 15, 16, 17, 18, 19, 20, 21, 22, 23, 24, 25, 26, 27, 28, 29, 30, 31, 32, 33, 34, 35, 36, 37, 38, 39, 40, 41, 42, 43, 44, 45, 46, 47, 48, 49, 50, 51, 52, 53, 54, 55, 56, 57, 58, 59, 60, 61, 62, 63, 64, 65, 66, 67, 68, 69, 70, 71, 72, 73, 74, 75, 76, 77, 78, 79, 80, 81, 82, 83, 84, 85, 86, 87, 88, 89, 90, 91, 92, 93, 94, 95, 96, 97, 98, 99, 100, 101, 102, 103, 104, 105, 106, 107, 108, 109, 110, 111] (by decide +kernel) (by decide +kernel)) (goodIn_sub (fun _ h => List.mem_cons_of_mem _ (List.mem_append_left _ (List.mem_append_right _ h))) (by decide +kernel))) (goodIn_sub (fun _ h => List.mem_cons_of_mem _ (List.mem_append_right _ h)) (by decide +kernel))
set_option maxRecDepth 20000 in
theorem gL_queue_X11_queue : GoodIn wsL_queue (wsV RL 119 RX11 yX11_queue wsX11_queue) := goodIn_app (goodIn_of _ (by decide +kernel)) ggL_queue_X11_queue
set_option maxRecDepth 20000 in
theorem ggL_floor_X11_floor : GoodIn wsL_floor wsX11_floor := goodIn_ca (goodIn_r _ [6, 7, 8, 9, 10, 5, 11, 12, 13, 14, 15, 16, 17, 18, 19, 20, 21, 22, 23, 24, 25, 26, 27, 28, 29, 30, 31, 32, 33, 34, 35, 36, 37, 38, 39, 40, 41, 42, 43, 44, 45, 46, 47, 48, 49, 50, 51, 52, 53, 54, 55, 56, 57, 58, 59, 60, 61, 62, 63, 64, 65, 66, 67, 68, 69, 70, 71, 72, 73, 74, 75, 76, 77, 78, 79, 80, 81, 82, 83, 84, 85, 86, 87, 88, 89, 90, 91, 92, 93, 94, 95, 96, 97, 98, 99, 100, 101, 102, 103, 104, 105, 106, 107, 108, 109, 110, 111, 112, 113, 114, 115, 116, 117, 118, 119, 120, 121, 122, 123, 124, 125, 126, 127, 128, 129, 130, 131, 132, 133, 134, 135, 136, 137, 138, 139, 140, 141, 142, 143, 144, 145, 146, 147, 148, 149, 150, 151, 152, 153, 154, 155, 156, 157, 158, 159, 160, 161, 162, 163, 164, 165, 166, 167, 168, 169, 170, 171, 172, 173, 174, 175, 176, 177, 178, 179, 180, 181, 182, 183, 184, 185, 186, 187, 188, 189, 190, 191, 192, 193, 194, 195, 196, 197, 198, 199, 200, 201, 202, 203, 204, 205, 206, 207, 208, 209, 210, 211, 212, 213, 214, 215, 216, 217, 218, 219, 220, 221, 222, 223, 224, 225, 226, 227, 228, 229, 230, 231, 232, 233, 234, 235, 236, 237, 238, 239] (by decide +kernel) (by decide +kernel)) (goodIn_sub (fun _ h => List.mem_cons_of_mem _ (List.mem_append_right _ h)) (by decide +kernel))
set_option maxRecDepth 20000 in
theorem gL_floor_X11_floor : GoodIn wsL_floor (wsV RL 122 RX11 yX11_floor wsX11_floor) := goodIn_app (goodIn_of _ (by decide +kernel)) ggL_floor_X11_floor
set_option maxRecDepth 20000 in
theorem ggL_on_X11_on : GoodIn wsL_on wsX11_on := goodIn_ca (goodIn_ca (goodIn_r _ [7, 8, 9, 10, 11, 12, 6, 13, 14, 15, 16, 17, 18, 19, 20, 21, 22, 23, 24, 25, 26, 27, 28, 29, 30, 31, 32, 33, 34, 35, 36, 37, 38, 39, 40, 41, 42, 43, 44, 45, 46, 47, 48, 49, 50, 51, 52, 53, 54, 55, 56, 57, 58, 59, 60, 61, 62, 63, 64, 65, 66, 67, 68, 69, 70, 71, 72, 73, 74, 75, 76, 77, 78, 79, 80, 81, 82, 83, 84, 85, 86, 87, 88, 89, 90, 91, 92, 93, 94, 95, 96, 97, 98, 99, 100, 101, 102, 103, 104, 105, 106, 107] (by decide +kernel) (by decide +kernel)) (goodIn_sub (fun _ h => List.mem_cons_of_mem _ (List.mem_append_left _ (List.mem_append_right _ h))) (by decide +kernel))) (goodIn_sub (fun _ h => List.mem_cons_of_mem _ (List.mem_append_right _ h)) (by decide +kernel))
set_option maxRecDepth 20000 in
theorem gL_on_X11_on : GoodIn wsL_on (wsV RL 125 RX11 yX11_on wsX11_on) := goodIn_app (goodIn_of _ (by decide +kernel)) ggL_on_X11_on
set_option maxRecDepth 20000 in
theorem ggL_stands_X11_stands : GoodIn wsL_stands wsX11_stands := goodIn_ca (goodIn_r _ [6, 7, 8, 9, 5, 10, 11, 12, 13, 14, 15, 16, 17, 18, 19, 20, 21, 22, 23, 24, 25, 26, 27, 28, 29, 30, 31, 32, 33, 34, 35, 36, 37, 38, 39, 40, 41, 42, 43, 44, 45, 46, 47, 48, 49, 50, 51, 52] (by decide +kernel) (by decide +kernel)) (goodIn_sub (fun _ h => List.mem_cons_of_mem _ (List.mem_append_right _ h)) (by decide +kernel))
set_option maxRecDepth 20000 in
theorem gL_stands_X11_stands : GoodIn wsL_stands (wsV RL 128 RX11 yX11_stands wsX11_stands) := goodIn_app (goodIn_of _ (by decide +kernel)) ggL_stands_X11_stands
set_option maxRecDepth 20000 in
theorem ggL_worked_X11_worked : GoodIn wsL_worked wsX11_worked := goodIn_ca (goodIn_r _ [6, 7, 8, 9, 10, 5, 11, 12, 13, 14, 15, 16, 17, 18, 19, 20, 21, 22, 23, 24, 25, 26, 27, 28, 29, 30, 31, 32, 33, 34, 35, 36, 37, 38, 39, 40, 41, 42, 43, 44, 45, 46, 47, 48, 49, 50, 51, 52, 53, 54, 55, 56, 57, 58, 59, 60, 61, 62, 63] (by decide +kernel) (by decide +kernel)) (goodIn_sub (fun _ h => List.mem_cons_of_mem _ (List.mem_append_right _ h)) (by decide +kernel))
set_option maxRecDepth 20000 in
theorem gL_worked_X11_worked : GoodIn wsL_worked (wsV RL 131 RX11 yX11_worked wsX11_worked) := goodIn_app (goodIn_of _ (by decide +kernel)) ggL_worked_X11_worked
set_option maxRecDepth 20000 in
theorem ggL_law_X11_init : GoodIn wsL_law wsX11_init := goodIn_r _ [9, 10, 11, 12, 13, 14, 15, 16, 17, 18, 19, 20, 21, 22, 23, 24, 25, 26, 27, 28, 29, 30, 31, 32, 33, 34, 35, 36, 37, 38, 39, 40, 41, 42, 43, 44, 45, 46, 47, 48, 49, 50, 51, 52, 53, 54, 55, 56, 57, 58, 59, 60, 61, 62, 63, 64, 65, 66, 67, 68, 69, 70, 71, 72, 73, 74, 6, 75, 76, 77, 78, 79, 80, 81, 82, 83, 84, 85, 86, 87, 88, 89, 90, 91, 92, 93, 94, 95, 96, 97, 98, 99, 100, 101, 102, 103, 104, 105, 106, 107, 108, 109, 110, 111, 112, 113, 114, 115, 116, 117, 118, 119, 120, 121, 122, 123, 124, 125, 126, 127, 128, 129, 130, 131, 132, 133, 134, 135, 136, 137, 138, 139, 140, 141, 142, 143, 144, 145, 146, 147, 148, 1986, 1987, 1988, 1989, 1990, 1991, 1992, 1866, 1867, 1868, 1869, 1870, 1871, 1872, 1873, 1874, 1875, 1876, 1993, 1994, 1995, 1996, 1997, 1998, 1999, 2000, 2001, 2002, 2003, 2004, 2005, 2006, 2007, 2008, 2009, 2010, 2011, 2012, 2013, 2014, 2015, 2016, 2017, 2018, 2019, 2020, 2021, 2022, 2023, 2024, 2025, 2026, 2027, 2028, 2029, 2030, 2031, 2032, 2033, 2034, 2035, 2036, 2037, 2038, 2039, 2040, 2041, 2042, 2043, 2044, 2045, 2046, 2047, 2048, 2049, 2050, 2051, 2052, 2053, 2054, 2055, 2056, 2057, 2058, 2059, 2060, 2061, 2062, 2063, 2064, 2065, 2066, 2067, 2068, 2069, 2070, 2071, 2072, 2073, 2074, 2075, 2076, 2077, 2078, 2079, 2080, 2081] (by decide +kernel) (by decide +kernel)
set_option maxRecDepth 20000 in
theorem gL_law_X11_init : GoodIn wsL_law (wsX11_init) := ggL_law_X11_init
set_option maxRecDepth 20000 in
theorem ggL_law_X12_init : GoodIn wsL_law wsX12_init := goodIn_r _ [151, 152, 11, 12, 53, 153, 154, 155, 156, 157, 158, 159, 160, 161, 162, 163, 164, 165, 166, 167, 168, 169, 170, 171, 172, 173, 174, 175, 176, 177, 42, 178, 179, 180, 181, 182, 183, 184, 185, 186, 187, 188, 189, 190, 191, 192, 193, 194, 195, 196, 197, 198, 199, 200, 201, 202, 203, 204, 205, 206, 207, 208, 209, 210, 211, 212, 213, 214, 215, 216, 217, 218, 219, 220, 221, 222, 223, 224, 225, 226, 227, 228, 229, 230, 231, 232, 233, 234, 235, 236, 237, 1877, 1878, 1879, 1880, 1881, 1882, 1883, 1884, 1885, 1886, 1887, 1888, 1889, 1890, 1891, 1892, 1893, 1894, 1895, 1896, 1897, 1898, 1899, 1900, 1901, 1902, 1903, 1904, 1905, 1906, 1907, 1908, 1909, 1910, 1911, 1912, 1913, 1914, 1915, 1916, 1917, 1918, 1919, 1920, 1921, 1922, 1923, 1924, 1925, 1926, 1927, 1928, 1929, 1930, 1931, 1932, 1933, 1934, 1935, 1936, 1937, 1938, 1939, 1940, 1941, 1942, 1943, 1944, 1945, 1946, 1947, 1948, 1949, 1950, 1951, 1952, 1953, 1954, 1955, 1956, 1957, 1958, 1959, 1960, 1961, 1962, 1963, 1964, 1965, 1966, 1967, 1968, 1969, 1970, 1971, 1972, 1973, 1974, 1975, 1976, 1977, 1978, 1979, 1980, 1981, 1982, 1983, 1984, 1985] (by decide +kernel) (by decide +kernel)
set_option maxRecDepth 20000 in
theorem gL_law_X12_init : GoodIn wsL_law (wsX12_init) := ggL_law_X12_init
set_option maxRecDepth 20000 in
theorem ggL_law_X11_puppet : GoodIn wsL_law wsX11_puppet := goodIn_r _ [241, 16, 242, 243, 244, 245, 246, 247, 248, 11, 12, 53, 249, 250, 251, 252, 253, 254, 255, 256, 257, 258, 15, 259, 260, 50, 1866, 1867, 1868, 1869, 1870, 1871, 1872, 1873, 1874, 1875, 1876, 1986, 1987, 1988, 1989, 1990, 1991, 1992, 2082, 2083, 2084, 2085, 2086, 2087, 2088, 2089, 2090, 2091, 2092] (by decide +kernel) (by decide +kernel)
set_option maxRecDepth 20000 in
theorem gL_law_X11_puppet : GoodIn wsL_law (wsV RL 138 RX11 yX11_puppet wsX11_puppet) := goodIn_app (goodIn_of _ (by decide +kernel)) ggL_law_X11_puppet
set_option maxRecDepth 20000 in
theorem ggL_law_X12_puppet : GoodIn wsL_law wsX12_puppet := goodIn_r _ [264, 265, 266, 1877, 1878, 1879, 1880, 1881, 1882, 1883, 1884, 1885, 1886, 1887, 1888, 1889, 1890, 1891, 1892, 1893, 1894, 1895, 1896, 1897, 1898, 1899, 1900, 1901, 1902, 1903, 1904, 1905, 1906, 1907, 1908, 1909, 1910, 1911, 1912, 1913, 1914, 1915, 1916, 1917, 1918, 1919, 1920, 1921, 1922, 1923, 1924, 1925, 1926, 1927, 1928, 1929, 1930, 1931, 1932, 1933, 1934, 1935, 1936, 1937, 1938, 1939, 1940, 1941, 1942, 1943, 1944, 1945, 1946, 1947, 1948, 1949, 1950, 1951, 1952, 1953, 1954, 1955, 1956, 1957, 1958, 1959, 1960, 1961, 1962, 1963, 1964, 1965, 1966, 1967, 1968, 1969, 1970, 1971, 1972, 1973, 1974, 1975, 1976, 1977, 1978, 1979, 1980, 1981, 1982, 1983, 1984, 1985] (by decide +kernel) (by decide +kernel)
set_option maxRecDepth 20000 in
theorem gL_law_X12_puppet : GoodIn wsL_law (wsV RL 142 RX12 yX12_puppet wsX12_puppet) := goodIn_app (goodIn_of _ (by decide +kernel)) ggL_law_X12_puppet
set_option maxRecDepth 20000 in
theorem ggL_law_L_joint : GoodIn wsL_law wsL_joint := goodIn_ca (goodIn_ca (goodIn_r _ [270, 271, 272, 273, 274, 275, 2, 276, 277, 278, 279, 280, 281, 282, 283, 16, 284, 285, 286, 15, 287, 50, 288, 289, 290, 245, 291, 292, 293, 294, 295, 296, 297, 298, 299, 300, 301, 302, 303, 304, 249, 250, 251, 252, 253, 2082, 2083, 2084, 2085, 2086, 2087, 2088, 2089, 2090, 2091, 2092, 1866, 1867, 1868, 1869, 1870, 1871, 1872, 1873, 1874, 1875, 1876, 1986, 1987, 1988, 1989, 1990, 1991, 1992] (by decide +kernel) (by decide +kernel)) (goodIn_sub (fun _ h => List.mem_append_left _ (List.mem_append_left _ (List.mem_append_left _ (List.mem_append_right _ h)))) (by decide +kernel))) (goodIn_sub (fun _ h => List.mem_append_left _ (List.mem_append_left _ (List.mem_append_right _ h))) (by decide +kernel))
set_option maxRecDepth 20000 in
theorem gL_law_L_joint : GoodIn wsL_law (va_wsS RL 143 yL_joint wsL_joint) := goodIn_app (goodIn_of _ (by decide +kernel)) ggL_law_L_joint
set_option maxRecDepth 20000 in
theorem ggL_law_X12_joint : GoodIn wsL_law wsX12_joint := goodIn_r _ [308, 265, 153, 154, 155, 156, 157, 158, 309, 310, 311, 5, 312, 266, 313, 314, 315, 316, 317, 318, 319, 1877, 1878, 1879, 1880, 1881, 1882, 1883, 1884, 1885, 1886, 1887, 1888, 1889, 1890, 1891, 1892, 1893, 1894, 1895, 1896, 1897, 1898, 1899, 1900, 1901, 1902, 1903, 1904, 1905, 1906, 1907, 1908, 1909, 1910, 1911, 1912, 1913, 1914, 1915, 1916, 1917, 1918, 1919, 1920, 1921, 1922, 1923, 1924, 1925, 1926, 1927, 1928, 1929, 1930, 1931, 1932, 1933, 1934, 1935, 1936, 1937, 1938, 1939, 1940, 1941, 1942, 1943, 1944, 1945, 1946, 1947, 1948, 1949, 1950, 1951, 1952, 1953, 1954, 1955, 1956, 1957, 1958, 1959, 1960, 1961, 1962, 1963, 1964, 1965, 1966, 1967, 1968, 1969, 1970, 1971, 1972, 1973, 1974, 1975, 1976, 1977, 1978, 1979, 1980, 1981, 1982, 1983, 1984, 1985] (by decide +kernel) (by decide +kernel)
set_option maxRecDepth 20000 in
theorem gL_law_X12_joint : GoodIn wsL_law (wsV RL 148 RX12 yX12_joint wsX12_joint) := goodIn_app (goodIn_of _ (by decide +kernel)) ggL_law_X12_joint
set_option maxRecDepth 20000 in
theorem ggL_law_X12_thrown : GoodIn wsL_law wsX12_thrown := goodIn_r _ [323, 265, 1877, 1878, 1879, 1880, 1881, 1882, 1883, 1884, 1885, 1886, 1887, 1888, 1889, 1890, 1891, 1892, 1893, 1894, 1895, 1896, 1897, 1898, 1899, 1900, 1901, 1902, 1903, 1904, 1905, 1906, 1907, 1908, 1909, 1910, 1911, 1912, 1913, 1914, 1915, 1916, 1917, 1918, 1919, 1920, 1921, 1922, 1923, 1924, 1925, 1926, 1927, 1928, 1929, 1930, 1931, 1932, 1933, 1934, 1935, 1936, 1937, 1938, 1939, 1940, 1941, 1942, 1943, 1944, 1945, 1946, 1947, 1948, 1949, 1950, 1951, 1952, 1953, 1954, 1955, 1956, 1957, 1958, 1959, 1960, 1961, 1962, 1963, 1964, 1965, 1966, 1967, 1968, 1969, 1970, 1971, 1972, 1973, 1974, 1975, 1976, 1977, 1978, 1979, 1980, 1981, 1982, 1983, 1984, 1985] (by decide +kernel) (by decide +kernel)
set_option maxRecDepth 20000 in
theorem gL_law_X12_thrown : GoodIn wsL_law (wsV RL 149 RX12 yX12_thrown wsX12_thrown) := goodIn_app (goodIn_of _ (by decide +kernel)) ggL_law_X12_thrown
set_option maxRecDepth 20000 in
theorem ggL_law_L_feet : GoodIn wsL_law wsL_feet := goodIn_ca (goodIn_ca (goodIn_r _ [326, 271, 272, 327, 328, 329, 2, 330, 331, 332, 278, 279, 280, 281, 282, 283, 16, 284, 285, 286, 15, 287, 50, 298, 299, 300, 293, 294, 295, 296, 297, 2082, 2083, 2084, 2085, 2086, 2087, 2088, 2089, 2090, 2091, 2092, 1866, 1867, 1868, 1869, 1870, 1871, 1872, 1873, 1874, 1875, 1876, 1986, 1987, 1988, 1989, 1990, 1991, 1992] (by decide +kernel) (by decide +kernel)) (goodIn_sub (fun _ h => List.mem_append_left _ (List.mem_append_left _ (List.mem_append_left _ (List.mem_append_right _ h)))) (by decide +kernel))) (goodIn_sub (fun _ h => List.mem_append_left _ (List.mem_append_left _ (List.mem_append_right _ h))) (by decide +kernel))
set_option maxRecDepth 20000 in
theorem gL_law_L_feet : GoodIn wsL_law (va_wsS RL 152 yL_feet wsL_feet) := goodIn_app (goodIn_of _ (by decide +kernel)) ggL_law_L_feet
set_option maxRecDepth 20000 in
theorem ggL_law_X12_feet : GoodIn wsL_law wsX12_feet := goodIn_r _ [336, 265, 159, 160, 309, 310, 311, 5, 312, 266, 313, 314, 315, 316, 317, 318, 319, 1877, 1878, 1879, 1880, 1881, 1882, 1883, 1884, 1885, 1886, 1887, 1888, 1889, 1890, 1891, 1892, 1893, 1894, 1895, 1896, 1897, 1898, 1899, 1900, 1901, 1902, 1903, 1904, 1905, 1906, 1907, 1908, 1909, 1910, 1911, 1912, 1913, 1914, 1915, 1916, 1917, 1918, 1919, 1920, 1921, 1922, 1923, 1924, 1925, 1926, 1927, 1928, 1929, 1930, 1931, 1932, 1933, 1934, 1935, 1936, 1937, 1938, 1939, 1940, 1941, 1942, 1943, 1944, 1945, 1946, 1947, 1948, 1949, 1950, 1951, 1952, 1953, 1954, 1955, 1956, 1957, 1958, 1959, 1960, 1961, 1962, 1963, 1964, 1965, 1966, 1967, 1968, 1969, 1970, 1971, 1972, 1973, 1974, 1975, 1976, 1977, 1978, 1979, 1980, 1981, 1982, 1983, 1984, 1985] (by decide +kernel) (by decide +kernel)
set_option maxRecDepth 20000 in
theorem gL_law_X12_feet : GoodIn wsL_law (wsV RL 155 RX12 yX12_feet wsX12_feet) := goodIn_app (goodIn_of _ (by decide +kernel)) ggL_law_X12_feet
set_option maxRecDepth 20000 in
theorem ggL_law_L_kit : GoodIn wsL_law wsL_kit := goodIn_ca (goodIn_ca (goodIn_r _ [339, 271, 272, 340, 341, 342, 2, 343, 344, 278, 279, 280, 281, 282, 283, 16, 284, 285, 286, 15, 287, 50, 298, 299, 300, 293, 294, 295, 296, 297, 2082, 2083, 2084, 2085, 2086, 2087, 2088, 2089, 2090, 2091, 2092, 1866, 1867, 1868, 1869, 1870, 1871, 1872, 1873, 1874, 1875, 1876, 1986, 1987, 1988, 1989, 1990, 1991, 1992] (by decide +kernel) (by decide +kernel)) (goodIn_sub (fun _ h => List.mem_append_left _ (List.mem_append_left _ (List.mem_append_left _ (List.mem_append_right _ h)))) (by decide +kernel))) (goodIn_sub (fun _ h => List.mem_append_left _ (List.mem_append_left _ (List.mem_append_right _ h))) (by decide +kernel))
set_option maxRecDepth 20000 in
theorem gL_law_L_kit : GoodIn wsL_law (va_wsS RL 156 yL_kit wsL_kit) := goodIn_app (goodIn_of _ (by decide +kernel)) ggL_law_L_kit
set_option maxRecDepth 20000 in
theorem ggL_law_X12_kit : GoodIn wsL_law wsX12_kit := goodIn_r _ [348, 265, 161, 309, 310, 311, 5, 312, 266, 313, 314, 315, 316, 317, 318, 319, 1877, 1878, 1879, 1880, 1881, 1882, 1883, 1884, 1885, 1886, 1887, 1888, 1889, 1890, 1891, 1892, 1893, 1894, 1895, 1896, 1897, 1898, 1899, 1900, 1901, 1902, 1903, 1904, 1905, 1906, 1907, 1908, 1909, 1910, 1911, 1912, 1913, 1914, 1915, 1916, 1917, 1918, 1919, 1920, 1921, 1922, 1923, 1924, 1925, 1926, 1927, 1928, 1929, 1930, 1931, 1932, 1933, 1934, 1935, 1936, 1937, 1938, 1939, 1940, 1941, 1942, 1943, 1944, 1945, 1946, 1947, 1948, 1949, 1950, 1951, 1952, 1953, 1954, 1955, 1956, 1957, 1958, 1959, 1960, 1961, 1962, 1963, 1964, 1965, 1966, 1967, 1968, 1969, 1970, 1971, 1972, 1973, 1974, 1975, 1976, 1977, 1978, 1979, 1980, 1981, 1982, 1983, 1984, 1985] (by decide +kernel) (by decide +kernel)
set_option maxRecDepth 20000 in
theorem gL_law_X12_kit : GoodIn wsL_law (wsV RL 159 RX12 yX12_kit wsX12_kit) := goodIn_app (goodIn_of _ (by decide +kernel)) ggL_law_X12_kit
set_option maxRecDepth 20000 in
theorem ggL_law_L_sound : GoodIn wsL_law wsL_sound := goodIn_ca (goodIn_r _ [351, 272, 352, 353, 354, 2, 355, 16, 356, 298, 299, 300, 293, 294, 295, 296, 297, 357, 358, 359, 1866, 1867, 1868, 1869, 1870, 1871, 1872, 1873, 1874, 1875, 1876, 1986, 1987, 1988, 1989, 1990, 1991, 1992] (by decide +kernel) (by decide +kernel)) (goodIn_sub (fun _ h => List.mem_append_left _ (List.mem_append_left _ (List.mem_append_right _ h))) (by decide +kernel))
set_option maxRecDepth 20000 in
theorem gL_law_L_sound : GoodIn wsL_law (va_wsS RL 160 yL_sound wsL_sound) := goodIn_app (goodIn_of _ (by decide +kernel)) ggL_law_L_sound
set_option maxRecDepth 20000 in
theorem ggL_law_X12_sound : GoodIn wsL_law wsX12_sound := goodIn_r _ [363, 265, 162, 313, 314, 5, 315, 316, 317, 318, 319, 1877, 1878, 1879, 1880, 1881, 1882, 1883, 1884, 1885, 1886, 1887, 1888, 1889, 1890, 1891, 1892, 1893, 1894, 1895, 1896, 1897, 1898, 1899, 1900, 1901, 1902, 1903, 1904, 1905, 1906, 1907, 1908, 1909, 1910, 1911, 1912, 1913, 1914, 1915, 1916, 1917, 1918, 1919, 1920, 1921, 1922, 1923, 1924, 1925, 1926, 1927, 1928, 1929, 1930, 1931, 1932, 1933, 1934, 1935, 1936, 1937, 1938, 1939, 1940, 1941, 1942, 1943, 1944, 1945, 1946, 1947, 1948, 1949, 1950, 1951, 1952, 1953, 1954, 1955, 1956, 1957, 1958, 1959, 1960, 1961, 1962, 1963, 1964, 1965, 1966, 1967, 1968, 1969, 1970, 1971, 1972, 1973, 1974, 1975, 1976, 1977, 1978, 1979, 1980, 1981, 1982, 1983, 1984, 1985] (by decide +kernel) (by decide +kernel)
set_option maxRecDepth 20000 in
theorem gL_law_X12_sound : GoodIn wsL_law (wsV RL 162 RX12 yX12_sound wsX12_sound) := goodIn_app (goodIn_of _ (by decide +kernel)) ggL_law_X12_sound
set_option maxRecDepth 20000 in
theorem ggL_law_X11_feed : GoodIn wsL_law wsX11_feed := goodIn_r _ [367, 368, 369, 370, 371, 2, 372, 43, 1866, 1867, 1868, 1869, 1870, 1871, 1872, 1873, 1874, 1875, 1876] (by decide +kernel) (by decide +kernel)
set_option maxRecDepth 20000 in
theorem gL_law_X11_feed : GoodIn wsL_law (wsV RL 163 RX11 yX11_feed wsX11_feed) := goodIn_app (goodIn_of _ (by decide +kernel)) ggL_law_X11_feed
set_option maxRecDepth 20000 in
theorem ggL_law_X12_feed : GoodIn wsL_law wsX12_feed := goodIn_r _ [376, 265, 377, 164, 1877, 1878, 1879, 1880, 1881, 1882, 1883, 1884, 1885, 1886, 1887, 1888, 1889, 1890, 1891, 1892, 1893, 1894, 1895, 1896, 1897, 1898, 1899, 1900, 1901, 1902, 1903, 1904, 1905, 1906, 1907, 1908, 1909, 1910, 1911, 1912, 1913, 1914, 1915, 1916, 1917, 1918, 1919, 1920, 1921, 1922, 1923, 1924, 1925, 1926, 1927, 1928, 1929, 1930, 1931, 1932, 1933, 1934, 1935, 1936, 1937, 1938, 1939, 1940, 1941, 1942, 1943, 1944, 1945, 1946, 1947, 1948, 1949, 1950, 1951, 1952, 1953, 1954, 1955, 1956, 1957, 1958, 1959, 1960, 1961, 1962, 1963, 1964, 1965, 1966, 1967, 1968, 1969, 1970, 1971, 1972, 1973, 1974, 1975, 1976, 1977, 1978, 1979, 1980, 1981, 1982, 1983, 1984, 1985] (by decide +kernel) (by decide +kernel)
set_option maxRecDepth 20000 in
theorem gL_law_X12_feed : GoodIn wsL_law (wsV RL 167 RX12 yX12_feed wsX12_feed) := goodIn_app (goodIn_of _ (by decide +kernel)) ggL_law_X12_feed
set_option maxRecDepth 20000 in
theorem ggL_law_L_shot : GoodIn wsL_law wsL_shot := goodIn_ca (goodIn_ca (goodIn_r _ [380, 272, 381, 382, 383, 384, 2, 385, 386, 387, 368, 16, 388, 20, 43, 389, 390, 391, 44, 24, 298, 299, 300, 293, 294, 295, 296, 297, 392, 393, 394, 19, 395, 68, 396, 397, 398, 399, 400, 75, 76, 401, 402, 403, 404, 405, 406, 407, 67, 408, 83, 409, 410, 411, 412, 413, 414, 415, 416, 417, 418, 419, 420, 421, 422, 423, 424, 425, 59, 426, 427, 428, 429, 430, 431, 432, 433, 434, 435, 436, 437, 438, 439, 74, 70, 440, 441, 442, 443, 444, 445, 446, 447, 448, 449, 450, 451, 452, 453, 454, 455, 456, 457, 458, 459, 460, 461, 462, 463, 464, 465, 466, 467, 468, 469, 470, 471, 472, 473, 474, 475, 476, 477, 478, 479, 480, 481, 482, 483, 484, 485, 486, 487, 488, 489, 490, 491, 492, 493, 494, 495, 496, 497, 498, 499, 500, 501, 502, 503, 504, 505, 506, 507, 508, 509, 510, 511, 512, 513, 514, 515, 516, 517, 518, 519, 520, 521, 522, 523, 524, 525, 526, 527, 528, 529, 530, 531, 532, 533, 534, 535, 536, 537, 538, 539, 540, 541, 542, 543, 544, 545, 546, 547, 548, 549, 550, 77, 71, 72, 73, 551, 552, 553, 554, 555, 556, 557, 558, 15, 559, 560, 561, 285, 286, 287, 50, 562, 563, 564, 565, 566, 567, 568, 569, 570, 571, 572, 573, 574, 575, 576, 577, 578, 579, 580, 581, 582, 583, 584, 585, 586, 587, 588, 23, 589, 590, 591, 592, 593, 91, 93, 97, 99, 594, 595, 596, 597, 598, 599, 600, 601, 602, 603, 604, 605, 606, 607, 608, 609, 610, 611, 612, 613, 614, 615, 616, 617, 618, 619, 620, 621, 622, 623, 624, 625, 626, 627, 628, 629, 630, 631, 632, 11, 12, 53, 633, 634, 635, 636, 637, 638, 42, 639, 640, 641, 642, 643, 644, 190, 645, 646, 58, 60, 358, 359, 647, 648, 649, 650, 651, 652, 653, 654, 655, 656, 657, 658, 659, 660, 661, 662, 663, 664, 665, 666, 667, 668, 669, 670, 671, 96, 94, 95, 98, 672, 673, 674, 675, 676, 677, 678, 679, 680, 681, 682, 683, 684, 685, 686, 687, 688, 689, 690, 691, 692, 693, 694, 695, 696, 697, 698, 699, 92, 700, 701, 702, 703, 704, 705, 706, 707, 708, 709, 710, 711, 712, 713, 714, 715, 716, 717, 718, 719, 720, 721, 722, 723, 724, 725, 726, 727, 728, 52, 1866, 1867, 1868, 1869, 1870, 1871, 1872, 1873, 1874, 1875, 1876, 1986, 1987, 1988, 1989, 1990, 1991, 1992, 1993, 1994, 1995, 1996, 1997, 1998, 1999, 2000, 2001, 2002, 2003, 2004, 2005, 2006, 2067, 2068, 2069, 2070, 2071, 2072, 2073, 2074, 2075, 2076, 2077, 2078, 2079, 2080, 2081, 2082, 2083, 2084, 2085, 2086, 2087, 2088, 2089, 2090, 2091, 2092, 2007, 2008, 2009, 2010, 2011, 2012, 2013, 2014, 2015, 2016, 2017, 2018, 2019, 2093, 2094, 2095, 2096, 2097, 2098, 2099, 2100, 2101, 2102, 2103, 2104, 2105, 2106, 2107] (by decide +kernel) (by decide +kernel)) (goodIn_sub (fun _ h => List.mem_append_left _ (List.mem_append_right _ h)) (by decide +kernel))) (goodIn_sub (fun _ h => List.mem_append_left _ (List.mem_append_left _ (List.mem_append_right _ h))) (by decide +kernel))
set_option maxRecDepth 20000 in
theorem gL_law_L_shot : GoodIn wsL_law (va_wsS RL 168 yL_shot wsL_shot) := goodIn_app (goodIn_of _ (by decide +kernel)) ggL_law_L_shot
set_option maxRecDepth 20000 in
theorem ggL_law_X12_shot : GoodIn wsL_law wsX12_shot := goodIn_r _ [732, 265, 377, 733, 734, 735, 736, 737, 738, 739, 740, 741, 742, 743, 744, 745, 163, 746, 747, 748, 749, 192, 194, 197, 198, 180, 191, 184, 185, 186, 316, 317, 318, 5, 319, 750, 751, 752, 753, 754, 755, 756, 757, 758, 759, 760, 761, 164, 762, 763, 764, 765, 165, 166, 168, 172, 766, 767, 768, 769, 770, 771, 772, 773, 774, 775, 776, 777, 778, 779, 780, 781, 782, 783, 784, 785, 786, 787, 788, 789, 790, 791, 792, 793, 794, 795, 796, 797, 313, 314, 315, 798, 799, 800, 801, 170, 153, 173, 174, 175, 171, 167, 802, 803, 804, 805, 266, 806, 807, 808, 809, 810, 811, 812, 813, 814, 815, 816, 817, 818, 819, 820, 821, 822, 823, 824, 825, 176, 169, 826, 827, 828, 829, 830, 831, 832, 833, 834, 835, 836, 837, 838, 839, 840, 841, 842, 843, 844, 845, 846, 847, 848, 849, 850, 195, 196, 199, 851, 852, 853, 854, 178, 182, 183, 181, 855, 856, 857, 858, 859, 860, 861, 862, 193, 863, 864, 865, 866, 1877, 1878, 1879, 1880, 1881, 1882, 1883, 1884, 1885, 1886, 1887, 1888, 1889, 1890, 1891, 1892, 1893, 1894, 1895, 1896, 1897, 1898, 1899, 1900, 1901, 1902, 1903, 1904, 1905, 1906, 1907, 1908, 1909, 1910, 1911, 1912, 1913, 1914, 1915, 1916, 1917, 1918, 1919, 1920, 1921, 1922, 1923, 1924, 1925, 1926, 1927, 1928, 1929, 1930, 1931, 1932, 1933, 1934, 1935, 1936, 1937, 1938, 1939, 1940, 1941, 1942, 1943, 1944, 1945, 1946, 1947, 1948, 1949, 1950, 1951, 1952, 1953, 1954, 1955, 1956, 1957, 1958, 1959, 1960, 1961, 1962, 1963, 1964, 1965, 1966, 1967, 1968, 1969, 1970, 1971, 1972, 1973, 1974, 1975, 1976, 1977, 1978, 1979, 1980, 1981, 1982, 1983, 1984, 1985] (by decide +kernel) (by decide +kernel)
set_option maxRecDepth 20000 in
theorem gL_law_X12_shot : GoodIn wsL_law (wsV RL 171 RX12 yX12_shot wsX12_shot) := goodIn_app (goodIn_of _ (by decide +kernel)) ggL_law_X12_shot
set_option maxRecDepth 20000 in
theorem ggL_law_X11_fault : GoodIn wsL_law wsX11_fault := goodIn_r _ [870, 44, 1866, 1867, 1868, 1869, 1870, 1871, 1872, 1873, 1874, 1875, 1876] (by decide +kernel) (by decide +kernel)
set_option maxRecDepth 20000 in
theorem gL_law_X11_fault : GoodIn wsL_law (wsV RL 172 RX11 yX11_fault wsX11_fault) := goodIn_app (goodIn_of _ (by decide +kernel)) ggL_law_X11_fault
set_option maxRecDepth 20000 in
theorem ggL_law_X12_fault : GoodIn wsL_law wsX12_fault := goodIn_r _ [874, 265, 163, 1877, 1878, 1879, 1880, 1881, 1882, 1883, 1884, 1885, 1886, 1887, 1888, 1889, 1890, 1891, 1892, 1893, 1894, 1895, 1896, 1897, 1898, 1899, 1900, 1901, 1902, 1903, 1904, 1905, 1906, 1907, 1908, 1909, 1910, 1911, 1912, 1913, 1914, 1915, 1916, 1917, 1918, 1919, 1920, 1921, 1922, 1923, 1924, 1925, 1926, 1927, 1928, 1929, 1930, 1931, 1932, 1933, 1934, 1935, 1936, 1937, 1938, 1939, 1940, 1941, 1942, 1943, 1944, 1945, 1946, 1947, 1948, 1949, 1950, 1951, 1952, 1953, 1954, 1955, 1956, 1957, 1958, 1959, 1960, 1961, 1962, 1963, 1964, 1965, 1966, 1967, 1968, 1969, 1970, 1971, 1972, 1973, 1974, 1975, 1976, 1977, 1978, 1979, 1980, 1981, 1982, 1983, 1984, 1985] (by decide +kernel) (by decide +kernel)
set_option maxRecDepth 20000 in
theorem gL_law_X12_fault : GoodIn wsL_law (wsV RL 175 RX12 yX12_fault wsX12_fault) := goodIn_app (goodIn_of _ (by decide +kernel)) ggL_law_X12_fault
set_option maxRecDepth 20000 in
theorem ggL_law_L_told : GoodIn wsL_law wsL_told := goodIn_ca (goodIn_ca (goodIn_r _ [877, 878, 272, 879, 880, 881, 2, 882, 296, 297, 883, 884, 885, 886, 40, 887, 888, 889, 890, 891, 892, 16, 893, 894, 895, 15, 896, 52, 897, 898, 899, 39, 900, 135, 678, 679, 901, 902, 903, 602, 904, 636, 905, 906, 907, 908, 643, 645, 909, 675, 676, 677, 2093, 2094, 2095, 2096, 2097, 2098, 2099, 2100, 2101, 2102, 2103, 2104, 2105, 2106, 2107, 1866, 1867, 1868, 1869, 1870, 1871, 1872, 1873, 1874, 1875, 1876, 1986, 1987, 1988, 1989, 1990, 1991, 1992, 2049, 2050, 2051, 2052, 2053, 2054, 2055, 2056, 2057, 2058, 2059, 2060, 2061, 2062, 2063, 2064, 2065, 2066] (by decide +kernel) (by decide +kernel)) (goodIn_sub (fun _ h => List.mem_append_left _ (List.mem_append_left _ (List.mem_append_right _ h))) (by decide +kernel))) (goodIn_sub (fun _ h => List.mem_append_right _ h) (by decide +kernel))
set_option maxRecDepth 20000 in
theorem gL_law_L_told : GoodIn wsL_law (va_wsS RL 176 yL_told wsL_told) := goodIn_app (goodIn_of _ (by decide +kernel)) ggL_law_L_told
set_option maxRecDepth 20000 in
theorem ggL_law_X12_told : GoodIn wsL_law wsX12_told := goodIn_r _ [913, 265, 184, 185, 186, 187, 188, 914, 915, 916, 5, 917, 733, 313, 314, 315, 316, 317, 318, 319, 918, 919, 920, 921, 183, 191, 844, 845, 846, 1877, 1878, 1879, 1880, 1881, 1882, 1883, 1884, 1885, 1886, 1887, 1888, 1889, 1890, 1891, 1892, 1893, 1894, 1895, 1896, 1897, 1898, 1899, 1900, 1901, 1902, 1903, 1904, 1905, 1906, 1907, 1908, 1909, 1910, 1911, 1912, 1913, 1914, 1915, 1916, 1917, 1918, 1919, 1920, 1921, 1922, 1923, 1924, 1925, 1926, 1927, 1928, 1929, 1930, 1931, 1932, 1933, 1934, 1935, 1936, 1937, 1938, 1939, 1940, 1941, 1942, 1943, 1944, 1945, 1946, 1947, 1948, 1949, 1950, 1951, 1952, 1953, 1954, 1955, 1956, 1957, 1958, 1959, 1960, 1961, 1962, 1963, 1964, 1965, 1966, 1967, 1968, 1969, 1970, 1971, 1972, 1973, 1974, 1975, 1976, 1977, 1978, 1979, 1980, 1981, 1982, 1983, 1984, 1985] (by decide +kernel) (by decide +kernel)
set_option maxRecDepth 20000 in
theorem gL_law_X12_told : GoodIn wsL_law (wsV RL 178 RX12 yX12_told wsX12_told) := goodIn_app (goodIn_of _ (by decide +kernel)) ggL_law_X12_told
set_option maxRecDepth 20000 in
theorem ggL_law_L_step : GoodIn wsL_law wsL_step := goodIn_ca (goodIn_r _ [924, 878, 925, 926, 927, 2, 928, 16, 929, 887, 888, 889, 890, 891, 892, 893, 894, 895, 15, 896, 52, 284, 285, 286, 287, 50, 930, 675, 676, 602, 677, 636, 288, 289, 290, 245, 291, 292, 931, 932, 933, 934, 633, 299, 300, 935, 936, 937, 938, 637, 639, 1866, 1867, 1868, 1869, 1870, 1871, 1872, 1873, 1874, 1875, 1876, 1986, 1987, 1988, 1989, 1990, 1991, 1992, 2093, 2094, 2095, 2096, 2097, 2098, 2099, 2100, 2101, 2102, 2103, 2104, 2105, 2106, 2107, 2082, 2083, 2084, 2085, 2086, 2087, 2088, 2089, 2090, 2091, 2092] (by decide +kernel) (by decide +kernel)) (goodIn_sub (fun _ h => List.mem_append_right _ h) (by decide +kernel))
set_option maxRecDepth 20000 in
theorem gL_law_L_step : GoodIn wsL_law (va_wsS RL 179 yL_step wsL_step) := goodIn_app (goodIn_of _ (by decide +kernel)) ggL_law_L_step
set_option maxRecDepth 20000 in
theorem ggL_law_X12_step : GoodIn wsL_law wsX12_step := goodIn_r _ [942, 265, 266, 153, 943, 914, 915, 916, 5, 917, 733, 313, 314, 315, 316, 317, 318, 319, 944, 945, 946, 947, 184, 948, 949, 950, 951, 178, 844, 845, 846, 1877, 1878, 1879, 1880, 1881, 1882, 1883, 1884, 1885, 1886, 1887, 1888, 1889, 1890, 1891, 1892, 1893, 1894, 1895, 1896, 1897, 1898, 1899, 1900, 1901, 1902, 1903, 1904, 1905, 1906, 1907, 1908, 1909, 1910, 1911, 1912, 1913, 1914, 1915, 1916, 1917, 1918, 1919, 1920, 1921, 1922, 1923, 1924, 1925, 1926, 1927, 1928, 1929, 1930, 1931, 1932, 1933, 1934, 1935, 1936, 1937, 1938, 1939, 1940, 1941, 1942, 1943, 1944, 1945, 1946, 1947, 1948, 1949, 1950, 1951, 1952, 1953, 1954, 1955, 1956, 1957, 1958, 1959, 1960, 1961, 1962, 1963, 1964, 1965, 1966, 1967, 1968, 1969, 1970, 1971, 1972, 1973, 1974, 1975, 1976, 1977, 1978, 1979, 1980, 1981, 1982, 1983, 1984, 1985] (by decide +kernel) (by decide +kernel)
set_option maxRecDepth 20000 in
theorem gL_law_X12_step : GoodIn wsL_law (wsV RL 182 RX12 yX12_step wsX12_step) := goodIn_app (goodIn_of _ (by decide +kernel)) ggL_law_X12_step
set_option maxRecDepth 20000 in
theorem ggL_law_L_mouth : GoodIn wsL_law wsL_mouth := goodIn_ca (goodIn_r _ [954, 878, 955, 956, 957, 2, 958, 16, 887, 888, 889, 890, 891, 892, 893, 894, 895, 15, 896, 52, 930, 675, 676, 602, 677, 636, 284, 285, 286, 287, 50, 959, 960, 961, 962, 634, 678, 679, 963, 964, 965, 966, 638, 640, 967, 968, 969, 970, 54, 1866, 1867, 1868, 1869, 1870, 1871, 1872, 1873, 1874, 1875, 1876, 1986, 1987, 1988, 1989, 1990, 1991, 1992, 2093, 2094, 2095, 2096, 2097, 2098, 2099, 2100, 2101, 2102, 2103, 2104, 2105, 2106, 2107] (by decide +kernel) (by decide +kernel)) (goodIn_sub (fun _ h => List.mem_append_right _ h) (by decide +kernel))
set_option maxRecDepth 20000 in
theorem gL_law_L_mouth : GoodIn wsL_law (va_wsS RL 183 yL_mouth wsL_mouth) := goodIn_app (goodIn_of _ (by decide +kernel)) ggL_law_L_mouth
set_option maxRecDepth 20000 in
theorem ggL_law_X12_mouth : GoodIn wsL_law wsX12_mouth := goodIn_r _ [974, 265, 266, 914, 915, 916, 5, 917, 733, 313, 314, 315, 316, 317, 318, 319, 944, 945, 946, 947, 184, 975, 976, 977, 978, 180, 162, 844, 845, 846, 1877, 1878, 1879, 1880, 1881, 1882, 1883, 1884, 1885, 1886, 1887, 1888, 1889, 1890, 1891, 1892, 1893, 1894, 1895, 1896, 1897, 1898, 1899, 1900, 1901, 1902, 1903, 1904, 1905, 1906, 1907, 1908, 1909, 1910, 1911, 1912, 1913, 1914, 1915, 1916, 1917, 1918, 1919, 1920, 1921, 1922, 1923, 1924, 1925, 1926, 1927, 1928, 1929, 1930, 1931, 1932, 1933, 1934, 1935, 1936, 1937, 1938, 1939, 1940, 1941, 1942, 1943, 1944, 1945, 1946, 1947, 1948, 1949, 1950, 1951, 1952, 1953, 1954, 1955, 1956, 1957, 1958, 1959, 1960, 1961, 1962, 1963, 1964, 1965, 1966, 1967, 1968, 1969, 1970, 1971, 1972, 1973, 1974, 1975, 1976, 1977, 1978, 1979, 1980, 1981, 1982, 1983, 1984, 1985] (by decide +kernel) (by decide +kernel)
set_option maxRecDepth 20000 in
theorem gL_law_X12_mouth : GoodIn wsL_law (wsV RL 186 RX12 yX12_mouth wsX12_mouth) := goodIn_app (goodIn_of _ (by decide +kernel)) ggL_law_X12_mouth
set_option maxRecDepth 20000 in
theorem ggL_law_L_camera : GoodIn wsL_law wsL_camera := goodIn_ca (goodIn_r _ [981, 878, 982, 983, 984, 2, 985, 887, 888, 889, 890, 891, 892, 16, 893, 894, 895, 15, 896, 52, 930, 675, 676, 602, 677, 636, 298, 299, 300, 986, 987, 988, 989, 641, 678, 679, 1866, 1867, 1868, 1869, 1870, 1871, 1872, 1873, 1874, 1875, 1876, 1986, 1987, 1988, 1989, 1990, 1991, 1992, 2093, 2094, 2095, 2096, 2097, 2098, 2099, 2100, 2101, 2102, 2103, 2104, 2105, 2106, 2107] (by decide +kernel) (by decide +kernel)) (goodIn_sub (fun _ h => List.mem_append_right _ h) (by decide +kernel))
set_option maxRecDepth 20000 in
theorem gL_law_L_camera : GoodIn wsL_law (va_wsS RL 187 yL_camera wsL_camera) := goodIn_app (goodIn_of _ (by decide +kernel)) ggL_law_L_camera
set_option maxRecDepth 20000 in
theorem ggL_law_X12_camera : GoodIn wsL_law wsX12_camera := goodIn_r _ [993, 265, 181, 914, 915, 916, 5, 917, 733, 313, 314, 315, 316, 317, 318, 319, 944, 945, 946, 947, 184, 844, 845, 846, 1877, 1878, 1879, 1880, 1881, 1882, 1883, 1884, 1885, 1886, 1887, 1888, 1889, 1890, 1891, 1892, 1893, 1894, 1895, 1896, 1897, 1898, 1899, 1900, 1901, 1902, 1903, 1904, 1905, 1906, 1907, 1908, 1909, 1910, 1911, 1912, 1913, 1914, 1915, 1916, 1917, 1918, 1919, 1920, 1921, 1922, 1923, 1924, 1925, 1926, 1927, 1928, 1929, 1930, 1931, 1932, 1933, 1934, 1935, 1936, 1937, 1938, 1939, 1940, 1941, 1942, 1943, 1944, 1945, 1946, 1947, 1948, 1949, 1950, 1951, 1952, 1953, 1954, 1955, 1956, 1957, 1958, 1959, 1960, 1961, 1962, 1963, 1964, 1965, 1966, 1967, 1968, 1969, 1970, 1971, 1972, 1973, 1974, 1975, 1976, 1977, 1978, 1979, 1980, 1981, 1982, 1983, 1984, 1985] (by decide +kernel) (by decide +kernel)
set_option maxRecDepth 20000 in
theorem gL_law_X12_camera : GoodIn wsL_law (wsV RL 189 RX12 yX12_camera wsX12_camera) := goodIn_app (goodIn_of _ (by decide +kernel)) ggL_law_X12_camera
set_option maxRecDepth 20000 in
theorem ggL_law_L_state : GoodIn wsL_law wsL_state := goodIn_ca (goodIn_r _ [996, 878, 997, 998, 999, 2, 1000, 16, 887, 888, 889, 890, 891, 892, 893, 894, 895, 15, 896, 52, 284, 285, 286, 287, 50, 930, 675, 676, 602, 677, 636, 1001, 1002, 1003, 1004, 642, 678, 679, 647, 648, 1005, 1006, 1007, 1008, 643, 1009, 1010, 1011, 245, 1012, 292, 253, 1013, 1014, 1015, 1016, 1017, 1018, 249, 254, 1019, 255, 252, 1020, 932, 933, 934, 633, 299, 300, 935, 936, 937, 938, 637, 639, 1866, 1867, 1868, 1869, 1870, 1871, 1872, 1873, 1874, 1875, 1876, 1986, 1987, 1988, 1989, 1990, 1991, 1992, 2093, 2094, 2095, 2096, 2097, 2098, 2099, 2100, 2101, 2102, 2103, 2104, 2105, 2106, 2107, 2082, 2083, 2084, 2085, 2086, 2087, 2088, 2089, 2090, 2091, 2092] (by decide +kernel) (by decide +kernel)) (goodIn_sub (fun _ h => List.mem_append_right _ h) (by decide +kernel))
set_option maxRecDepth 20000 in
theorem gL_law_L_state : GoodIn wsL_law (va_wsS RL 190 yL_state wsL_state) := goodIn_app (goodIn_of _ (by decide +kernel)) ggL_law_L_state
set_option maxRecDepth 20000 in
theorem ggL_law_X12_state : GoodIn wsL_law wsX12_state := goodIn_r _ [1024, 265, 266, 183, 914, 915, 916, 5, 917, 733, 313, 314, 315, 316, 317, 318, 319, 944, 945, 946, 947, 184, 844, 845, 846, 1025, 1026, 1027, 1028, 182, 1029, 1030, 1031, 1032, 153, 154, 200, 201, 157, 158, 948, 949, 950, 951, 178, 1033, 1034, 1035, 1036, 1037, 1038, 1039, 159, 160, 1877, 1878, 1879, 1880, 1881, 1882, 1883, 1884, 1885, 1886, 1887, 1888, 1889, 1890, 1891, 1892, 1893, 1894, 1895, 1896, 1897, 1898, 1899, 1900, 1901, 1902, 1903, 1904, 1905, 1906, 1907, 1908, 1909, 1910, 1911, 1912, 1913, 1914, 1915, 1916, 1917, 1918, 1919, 1920, 1921, 1922, 1923, 1924, 1925, 1926, 1927, 1928, 1929, 1930, 1931, 1932, 1933, 1934, 1935, 1936, 1937, 1938, 1939, 1940, 1941, 1942, 1943, 1944, 1945, 1946, 1947, 1948, 1949, 1950, 1951, 1952, 1953, 1954, 1955, 1956, 1957, 1958, 1959, 1960, 1961, 1962, 1963, 1964, 1965, 1966, 1967, 1968, 1969, 1970, 1971, 1972, 1973, 1974, 1975, 1976, 1977, 1978, 1979, 1980, 1981, 1982, 1983, 1984, 1985] (by decide +kernel) (by decide +kernel)
set_option maxRecDepth 20000 in
theorem gL_law_X12_state : GoodIn wsL_law (wsV RL 192 RX12 yX12_state wsX12_state) := goodIn_app (goodIn_of _ (by decide +kernel)) ggL_law_X12_state
set_option maxRecDepth 20000 in
theorem ggL_law_L_lean : GoodIn wsL_law wsL_lean := goodIn_ca (goodIn_r _ [1042, 878, 1043, 1044, 1045, 2, 1046, 16, 929, 887, 888, 889, 890, 891, 892, 893, 894, 895, 15, 896, 52, 284, 285, 286, 287, 50, 930, 675, 676, 602, 677, 636, 1047, 1016, 1017, 245, 1018, 292, 249, 254, 1019, 255, 252, 253, 1020, 932, 933, 934, 633, 299, 300, 935, 936, 937, 938, 637, 639, 678, 679, 1866, 1867, 1868, 1869, 1870, 1871, 1872, 1873, 1874, 1875, 1876, 1986, 1987, 1988, 1989, 1990, 1991, 1992, 2093, 2094, 2095, 2096, 2097, 2098, 2099, 2100, 2101, 2102, 2103, 2104, 2105, 2106, 2107, 2082, 2083, 2084, 2085, 2086, 2087, 2088, 2089, 2090, 2091, 2092] (by decide +kernel) (by decide +kernel)) (goodIn_sub (fun _ h => List.mem_append_right _ h) (by decide +kernel))
set_option maxRecDepth 20000 in
theorem gL_law_L_lean : GoodIn wsL_law (va_wsS RL 193 yL_lean wsL_lean) := goodIn_app (goodIn_of _ (by decide +kernel)) ggL_law_L_lean
set_option maxRecDepth 20000 in
theorem ggL_law_X12_lean : GoodIn wsL_law wsX12_lean := goodIn_r _ [1051, 265, 266, 943, 914, 915, 916, 5, 917, 733, 313, 314, 315, 316, 317, 318, 319, 944, 945, 946, 947, 184, 1029, 1030, 1031, 1032, 153, 154, 200, 201, 157, 158, 948, 949, 950, 951, 178, 844, 845, 846, 1033, 1034, 1035, 1877, 1878, 1879, 1880, 1881, 1882, 1883, 1884, 1885, 1886, 1887, 1888, 1889, 1890, 1891, 1892, 1893, 1894, 1895, 1896, 1897, 1898, 1899, 1900, 1901, 1902, 1903, 1904, 1905, 1906, 1907, 1908, 1909, 1910, 1911, 1912, 1913, 1914, 1915, 1916, 1917, 1918, 1919, 1920, 1921, 1922, 1923, 1924, 1925, 1926, 1927, 1928, 1929, 1930, 1931, 1932, 1933, 1934, 1935, 1936, 1937, 1938, 1939, 1940, 1941, 1942, 1943, 1944, 1945, 1946, 1947, 1948, 1949, 1950, 1951, 1952, 1953, 1954, 1955, 1956, 1957, 1958, 1959, 1960, 1961, 1962, 1963, 1964, 1965, 1966, 1967, 1968, 1969, 1970, 1971, 1972, 1973, 1974, 1975, 1976, 1977, 1978, 1979, 1980, 1981, 1982, 1983, 1984, 1985] (by decide +kernel) (by decide +kernel)
set_option maxRecDepth 20000 in
theorem gL_law_X12_lean : GoodIn wsL_law (wsV RL 195 RX12 yX12_lean wsX12_lean) := goodIn_app (goodIn_of _ (by decide +kernel)) ggL_law_X12_lean
set_option maxRecDepth 20000 in
theorem ggL_law_L_breach : GoodIn wsL_law wsL_breach := goodIn_ca (goodIn_ca (goodIn_r _ [1054, 878, 272, 1055, 1056, 1057, 2, 1058, 883, 16, 887, 888, 889, 890, 891, 892, 893, 894, 895, 15, 896, 52, 298, 299, 300, 293, 294, 295, 296, 297, 1059, 1060, 1061, 1062, 50, 1063, 1064, 1065, 602, 1066, 1067, 647, 648, 1068, 1069, 1070, 245, 1071, 292, 250, 251, 1020, 932, 933, 934, 633, 935, 936, 937, 938, 637, 639, 2093, 2094, 2095, 2096, 2097, 2098, 2099, 2100, 2101, 2102, 2103, 2104, 2105, 2106, 2107, 1866, 1867, 1868, 1869, 1870, 1871, 1872, 1873, 1874, 1875, 1876, 1986, 1987, 1988, 1989, 1990, 1991, 1992, 2082, 2083, 2084, 2085, 2086, 2087, 2088, 2089, 2090, 2091, 2092] (by decide +kernel) (by decide +kernel)) (goodIn_sub (fun _ h => List.mem_append_right _ h) (by decide +kernel))) (goodIn_sub (fun _ h => List.mem_append_left _ (List.mem_append_left _ (List.mem_append_right _ h))) (by decide +kernel))
set_option maxRecDepth 20000 in
theorem gL_law_L_breach : GoodIn wsL_law (va_wsS RL 196 yL_breach wsL_breach) := goodIn_app (goodIn_of _ (by decide +kernel)) ggL_law_L_breach
set_option maxRecDepth 20000 in
theorem ggL_law_X12_breach : GoodIn wsL_law wsX12_breach := goodIn_r _ [1075, 265, 184, 266, 153, 155, 156, 914, 915, 916, 5, 917, 733, 313, 314, 315, 316, 317, 318, 319, 948, 949, 950, 951, 178, 844, 845, 846, 1877, 1878, 1879, 1880, 1881, 1882, 1883, 1884, 1885, 1886, 1887, 1888, 1889, 1890, 1891, 1892, 1893, 1894, 1895, 1896, 1897, 1898, 1899, 1900, 1901, 1902, 1903, 1904, 1905, 1906, 1907, 1908, 1909, 1910, 1911, 1912, 1913, 1914, 1915, 1916, 1917, 1918, 1919, 1920, 1921, 1922, 1923, 1924, 1925, 1926, 1927, 1928, 1929, 1930, 1931, 1932, 1933, 1934, 1935, 1936, 1937, 1938, 1939, 1940, 1941, 1942, 1943, 1944, 1945, 1946, 1947, 1948, 1949, 1950, 1951, 1952, 1953, 1954, 1955, 1956, 1957, 1958, 1959, 1960, 1961, 1962, 1963, 1964, 1965, 1966, 1967, 1968, 1969, 1970, 1971, 1972, 1973, 1974, 1975, 1976, 1977, 1978, 1979, 1980, 1981, 1982, 1983, 1984, 1985] (by decide +kernel) (by decide +kernel)
set_option maxRecDepth 20000 in
theorem gL_law_X12_breach : GoodIn wsL_law (wsV RL 198 RX12 yX12_breach wsX12_breach) := goodIn_app (goodIn_of _ (by decide +kernel)) ggL_law_X12_breach
set_option maxRecDepth 20000 in
theorem ggL_law_L_fall : GoodIn wsL_law wsL_fall := goodIn_ca (goodIn_ca (goodIn_r _ [1078, 878, 272, 1079, 1080, 1081, 2, 1082, 883, 16, 887, 888, 889, 890, 891, 892, 893, 894, 895, 15, 896, 52, 298, 299, 300, 293, 294, 295, 296, 297, 1083, 1084, 1085, 1086, 50, 1063, 1064, 1065, 602, 1066, 1067, 647, 648, 1087, 1002, 1003, 1004, 642, 678, 679, 1088, 1010, 1011, 245, 1012, 292, 253, 1013, 1014, 1015, 1016, 1017, 1018, 249, 254, 1019, 255, 252, 1020, 932, 933, 934, 633, 935, 936, 937, 938, 637, 639, 2093, 2094, 2095, 2096, 2097, 2098, 2099, 2100, 2101, 2102, 2103, 2104, 2105, 2106, 2107, 1866, 1867, 1868, 1869, 1870, 1871, 1872, 1873, 1874, 1875, 1876, 1986, 1987, 1988, 1989, 1990, 1991, 1992, 2082, 2083, 2084, 2085, 2086, 2087, 2088, 2089, 2090, 2091, 2092] (by decide +kernel) (by decide +kernel)) (goodIn_sub (fun _ h => List.mem_append_right _ h) (by decide +kernel))) (goodIn_sub (fun _ h => List.mem_append_left _ (List.mem_append_left _ (List.mem_append_right _ h))) (by decide +kernel))
set_option maxRecDepth 20000 in
theorem gL_law_L_fall : GoodIn wsL_law (va_wsS RL 199 yL_fall wsL_fall) := goodIn_app (goodIn_of _ (by decide +kernel)) ggL_law_L_fall
set_option maxRecDepth 20000 in
theorem ggL_law_X12_fall : GoodIn wsL_law wsX12_fall := goodIn_r _ [1092, 265, 184, 266, 185, 914, 915, 916, 5, 917, 733, 313, 314, 315, 316, 317, 318, 319, 1025, 1026, 1027, 1028, 182, 844, 845, 846, 1029, 1030, 1031, 1032, 153, 154, 200, 201, 157, 158, 948, 949, 950, 951, 178, 1033, 1034, 1035, 1036, 1037, 1038, 1039, 159, 160, 1877, 1878, 1879, 1880, 1881, 1882, 1883, 1884, 1885, 1886, 1887, 1888, 1889, 1890, 1891, 1892, 1893, 1894, 1895, 1896, 1897, 1898, 1899, 1900, 1901, 1902, 1903, 1904, 1905, 1906, 1907, 1908, 1909, 1910, 1911, 1912, 1913, 1914, 1915, 1916, 1917, 1918, 1919, 1920, 1921, 1922, 1923, 1924, 1925, 1926, 1927, 1928, 1929, 1930, 1931, 1932, 1933, 1934, 1935, 1936, 1937, 1938, 1939, 1940, 1941, 1942, 1943, 1944, 1945, 1946, 1947, 1948, 1949, 1950, 1951, 1952, 1953, 1954, 1955, 1956, 1957, 1958, 1959, 1960, 1961, 1962, 1963, 1964, 1965, 1966, 1967, 1968, 1969, 1970, 1971, 1972, 1973, 1974, 1975, 1976, 1977, 1978, 1979, 1980, 1981, 1982, 1983, 1984, 1985] (by decide +kernel) (by decide +kernel)
set_option maxRecDepth 20000 in
theorem gL_law_X12_fall : GoodIn wsL_law (wsV RL 201 RX12 yX12_fall wsX12_fall) := goodIn_app (goodIn_of _ (by decide +kernel)) ggL_law_X12_fall
set_option maxRecDepth 20000 in
theorem ggL_law_L_alike : GoodIn wsL_law wsL_alike := goodIn_ca (goodIn_ca (goodIn_r _ [1095, 878, 271, 1096, 1097, 1098, 2, 1099, 16, 887, 888, 889, 890, 891, 892, 893, 894, 895, 15, 896, 52, 1100, 1101, 1102, 282, 283, 930, 675, 676, 602, 677, 636, 1103, 1104, 1105, 1106, 1107, 1108, 1109, 678, 679, 1110, 987, 988, 989, 641, 299, 300, 1111, 936, 937, 938, 637, 639, 1112, 1113, 1114, 1115, 1116, 1117, 964, 965, 966, 638, 640, 1118, 968, 969, 970, 54, 1866, 1867, 1868, 1869, 1870, 1871, 1872, 1873, 1874, 1875, 1876, 1986, 1987, 1988, 1989, 1990, 1991, 1992, 2093, 2094, 2095, 2096, 2097, 2098, 2099, 2100, 2101, 2102, 2103, 2104, 2105, 2106, 2107] (by decide +kernel) (by decide +kernel)) (goodIn_sub (fun _ h => List.mem_append_right _ h) (by decide +kernel))) (goodIn_sub (fun _ h => List.mem_append_left _ (List.mem_append_left _ (List.mem_append_left _ (List.mem_append_right _ h)))) (by decide +kernel))
set_option maxRecDepth 20000 in
theorem gL_law_L_alike : GoodIn wsL_law (va_wsS RL 202 yL_alike wsL_alike) := goodIn_app (goodIn_of _ (by decide +kernel)) ggL_law_L_alike
set_option maxRecDepth 20000 in
theorem ggL_law_X12_alike : GoodIn wsL_law wsX12_alike := goodIn_r _ [1122, 265, 914, 915, 916, 5, 917, 733, 313, 314, 315, 316, 317, 318, 319, 944, 945, 946, 947, 184, 1123, 1124, 1125, 1126, 182, 183, 178, 181, 844, 845, 846, 975, 976, 977, 978, 180, 162, 1877, 1878, 1879, 1880, 1881, 1882, 1883, 1884, 1885, 1886, 1887, 1888, 1889, 1890, 1891, 1892, 1893, 1894, 1895, 1896, 1897, 1898, 1899, 1900, 1901, 1902, 1903, 1904, 1905, 1906, 1907, 1908, 1909, 1910, 1911, 1912, 1913, 1914, 1915, 1916, 1917, 1918, 1919, 1920, 1921, 1922, 1923, 1924, 1925, 1926, 1927, 1928, 1929, 1930, 1931, 1932, 1933, 1934, 1935, 1936, 1937, 1938, 1939, 1940, 1941, 1942, 1943, 1944, 1945, 1946, 1947, 1948, 1949, 1950, 1951, 1952, 1953, 1954, 1955, 1956, 1957, 1958, 1959, 1960, 1961, 1962, 1963, 1964, 1965, 1966, 1967, 1968, 1969, 1970, 1971, 1972, 1973, 1974, 1975, 1976, 1977, 1978, 1979, 1980, 1981, 1982, 1983, 1984, 1985] (by decide +kernel) (by decide +kernel)
set_option maxRecDepth 20000 in
theorem gL_law_X12_alike : GoodIn wsL_law (wsV RL 204 RX12 yX12_alike wsX12_alike) := goodIn_app (goodIn_of _ (by decide +kernel)) ggL_law_X12_alike
set_option maxRecDepth 20000 in
theorem ggL_law_L_swap : GoodIn wsL_law wsL_swap := goodIn_ca (goodIn_ca (goodIn_r _ [1129, 878, 271, 1130, 1131, 1132, 2, 1133, 887, 888, 889, 890, 891, 892, 16, 893, 894, 895, 15, 896, 52, 278, 279, 280, 281, 282, 283, 284, 285, 286, 287, 50, 1134, 1064, 1065, 602, 1066, 1067, 647, 648, 1135, 1136, 1137, 245, 1138, 292, 249, 1139, 1140, 1141, 1142, 1143, 1144, 1069, 1070, 1071, 250, 251, 1020, 932, 933, 934, 633, 299, 300, 935, 936, 937, 938, 637, 639, 1145, 1146, 1147, 1148, 1149, 1002, 1003, 1004, 642, 678, 679, 1150, 1010, 1011, 1012, 253, 1013, 1014, 1015, 1016, 1017, 1018, 254, 1019, 255, 252, 1151, 1152, 1153, 1154, 634, 1155, 636, 643, 1156, 1157, 1158, 1866, 1867, 1868, 1869, 1870, 1871, 1872, 1873, 1874, 1875, 1876, 1986, 1987, 1988, 1989, 1990, 1991, 1992, 2093, 2094, 2095, 2096, 2097, 2098, 2099, 2100, 2101, 2102, 2103, 2104, 2105, 2106, 2107, 2082, 2083, 2084, 2085, 2086, 2087, 2088, 2089, 2090, 2091, 2092] (by decide +kernel) (by decide +kernel)) (goodIn_sub (fun _ h => List.mem_append_right _ h) (by decide +kernel))) (goodIn_sub (fun _ h => List.mem_append_left _ (List.mem_append_left _ (List.mem_append_left _ (List.mem_append_right _ h)))) (by decide +kernel))
set_option maxRecDepth 20000 in
theorem gL_law_L_swap : GoodIn wsL_law (va_wsS RL 205 yL_swap wsL_swap) := goodIn_app (goodIn_of _ (by decide +kernel)) ggL_law_L_swap
set_option maxRecDepth 20000 in
theorem ggL_law_X12_swap : GoodIn wsL_law wsX12_swap := goodIn_r _ [1162, 265, 185, 184, 153, 155, 156, 178, 180, 182, 183, 186, 914, 915, 916, 5, 917, 733, 313, 314, 315, 316, 317, 318, 319, 309, 310, 311, 312, 266, 1163, 1164, 1165, 1166, 154, 948, 949, 950, 951, 844, 845, 846, 1025, 1026, 1027, 1028, 1029, 1030, 1031, 1032, 200, 201, 157, 158, 1033, 1034, 1035, 1036, 1037, 1038, 1039, 159, 160, 1167, 1168, 1169, 1877, 1878, 1879, 1880, 1881, 1882, 1883, 1884, 1885, 1886, 1887, 1888, 1889, 1890, 1891, 1892, 1893, 1894, 1895, 1896, 1897, 1898, 1899, 1900, 1901, 1902, 1903, 1904, 1905, 1906, 1907, 1908, 1909, 1910, 1911, 1912, 1913, 1914, 1915, 1916, 1917, 1918, 1919, 1920, 1921, 1922, 1923, 1924, 1925, 1926, 1927, 1928, 1929, 1930, 1931, 1932, 1933, 1934, 1935, 1936, 1937, 1938, 1939, 1940, 1941, 1942, 1943, 1944, 1945, 1946, 1947, 1948, 1949, 1950, 1951, 1952, 1953, 1954, 1955, 1956, 1957, 1958, 1959, 1960, 1961, 1962, 1963, 1964, 1965, 1966, 1967, 1968, 1969, 1970, 1971, 1972, 1973, 1974, 1975, 1976, 1977, 1978, 1979, 1980, 1981, 1982, 1983, 1984, 1985] (by decide +kernel) (by decide +kernel)
set_option maxRecDepth 20000 in
theorem gL_law_X12_swap : GoodIn wsL_law (wsV RL 207 RX12 yX12_swap wsX12_swap) := goodIn_app (goodIn_of _ (by decide +kernel)) ggL_law_X12_swap
set_option maxRecDepth 20000 in
theorem ggL_law_L_set : GoodIn wsL_law wsL_set := goodIn_ca (goodIn_r _ [1172, 272, 1173, 1174, 1175, 2, 1176, 296, 297, 16, 1177, 1178, 886, 298, 299, 300, 293, 294, 295, 357, 358, 359, 893, 894, 895, 15, 896, 52, 1866, 1867, 1868, 1869, 1870, 1871, 1872, 1873, 1874, 1875, 1876, 1986, 1987, 1988, 1989, 1990, 1991, 1992, 2093, 2094, 2095, 2096, 2097, 2098, 2099, 2100, 2101, 2102, 2103, 2104, 2105, 2106, 2107] (by decide +kernel) (by decide +kernel)) (goodIn_sub (fun _ h => List.mem_append_left _ (List.mem_append_left _ (List.mem_append_right _ h))) (by decide +kernel))
set_option maxRecDepth 20000 in
theorem gL_law_L_set : GoodIn wsL_law (va_wsS RL 208 yL_set wsL_set) := goodIn_app (goodIn_of _ (by decide +kernel)) ggL_law_L_set
set_option maxRecDepth 20000 in
theorem ggL_law_X12_set : GoodIn wsL_law wsX12_set := goodIn_r _ [1182, 265, 733, 202, 203, 187, 313, 314, 5, 315, 316, 317, 318, 319, 1877, 1878, 1879, 1880, 1881, 1882, 1883, 1884, 1885, 1886, 1887, 1888, 1889, 1890, 1891, 1892, 1893, 1894, 1895, 1896, 1897, 1898, 1899, 1900, 1901, 1902, 1903, 1904, 1905, 1906, 1907, 1908, 1909, 1910, 1911, 1912, 1913, 1914, 1915, 1916, 1917, 1918, 1919, 1920, 1921, 1922, 1923, 1924, 1925, 1926, 1927, 1928, 1929, 1930, 1931, 1932, 1933, 1934, 1935, 1936, 1937, 1938, 1939, 1940, 1941, 1942, 1943, 1944, 1945, 1946, 1947, 1948, 1949, 1950, 1951, 1952, 1953, 1954, 1955, 1956, 1957, 1958, 1959, 1960, 1961, 1962, 1963, 1964, 1965, 1966, 1967, 1968, 1969, 1970, 1971, 1972, 1973, 1974, 1975, 1976, 1977, 1978, 1979, 1980, 1981, 1982, 1983, 1984, 1985] (by decide +kernel) (by decide +kernel)
set_option maxRecDepth 20000 in
theorem gL_law_X12_set : GoodIn wsL_law (wsV RL 210 RX12 yX12_set wsX12_set) := goodIn_app (goodIn_of _ (by decide +kernel)) ggL_law_X12_set
set_option maxRecDepth 20000 in
theorem ggL_law_L_lasts : GoodIn wsL_law wsL_lasts := goodIn_ca (goodIn_ca (goodIn_r _ [1185, 878, 272, 1186, 1187, 1188, 2, 1189, 16, 887, 888, 889, 890, 891, 892, 893, 894, 895, 15, 896, 52, 298, 299, 300, 293, 294, 295, 296, 297, 1190, 1191, 1192, 1193, 1194, 1195, 1196, 1197, 1198, 55, 1199, 414, 411, 415, 678, 679, 1200, 1201, 1202, 1203, 1204, 1205, 623, 624, 625, 626, 627, 628, 1866, 1867, 1868, 1869, 1870, 1871, 1872, 1873, 1874, 1875, 1876, 1986, 1987, 1988, 1989, 1990, 1991, 1992, 2093, 2094, 2095, 2096, 2097, 2098, 2099, 2100, 2101, 2102, 2103, 2104, 2105, 2106, 2107] (by decide +kernel) (by decide +kernel)) (goodIn_sub (fun _ h => List.mem_append_right _ h) (by decide +kernel))) (goodIn_sub (fun _ h => List.mem_append_left _ (List.mem_append_left _ (List.mem_append_right _ h))) (by decide +kernel))
set_option maxRecDepth 20000 in
theorem gL_law_L_lasts : GoodIn wsL_law (va_wsS RL 211 yL_lasts wsL_lasts) := goodIn_app (goodIn_of _ (by decide +kernel)) ggL_law_L_lasts
set_option maxRecDepth 20000 in
theorem ggL_law_X12_lasts : GoodIn wsL_law wsX12_lasts := goodIn_r _ [1209, 265, 914, 915, 916, 5, 917, 733, 313, 314, 315, 316, 317, 318, 319, 1210, 1211, 1212, 1213, 185, 184, 202, 1214, 1215, 1216, 1877, 1878, 1879, 1880, 1881, 1882, 1883, 1884, 1885, 1886, 1887, 1888, 1889, 1890, 1891, 1892, 1893, 1894, 1895, 1896, 1897, 1898, 1899, 1900, 1901, 1902, 1903, 1904, 1905, 1906, 1907, 1908, 1909, 1910, 1911, 1912, 1913, 1914, 1915, 1916, 1917, 1918, 1919, 1920, 1921, 1922, 1923, 1924, 1925, 1926, 1927, 1928, 1929, 1930, 1931, 1932, 1933, 1934, 1935, 1936, 1937, 1938, 1939, 1940, 1941, 1942, 1943, 1944, 1945, 1946, 1947, 1948, 1949, 1950, 1951, 1952, 1953, 1954, 1955, 1956, 1957, 1958, 1959, 1960, 1961, 1962, 1963, 1964, 1965, 1966, 1967, 1968, 1969, 1970, 1971, 1972, 1973, 1974, 1975, 1976, 1977, 1978, 1979, 1980, 1981, 1982, 1983, 1984, 1985] (by decide +kernel) (by decide +kernel)
set_option maxRecDepth 20000 in
theorem gL_law_X12_lasts : GoodIn wsL_law (wsV RL 213 RX12 yX12_lasts wsX12_lasts) := goodIn_app (goodIn_of _ (by decide +kernel)) ggL_law_X12_lasts
set_option maxRecDepth 20000 in
theorem ggL_law_L_clash : GoodIn wsL_law wsL_clash := goodIn_ca (goodIn_r _ [1219, 878, 1220, 1221, 1222, 2, 1223, 16, 887, 888, 889, 890, 891, 892, 893, 894, 895, 15, 896, 52, 1224, 1225, 1226, 1227, 1228, 1204, 1229, 1230, 1231, 1232, 50, 1233, 1234, 1866, 1867, 1868, 1869, 1870, 1871, 1872, 1873, 1874, 1875, 1876, 1986, 1987, 1988, 1989, 1990, 1991, 1992, 2093, 2094, 2095, 2096, 2097, 2098, 2099, 2100, 2101, 2102, 2103, 2104, 2105, 2106, 2107, 2082, 2083, 2084, 2085, 2086, 2087, 2088, 2089, 2090, 2091, 2092] (by decide +kernel) (by decide +kernel)) (goodIn_sub (fun _ h => List.mem_append_right _ h) (by decide +kernel))
set_option maxRecDepth 20000 in
theorem gL_law_L_clash : GoodIn wsL_law (va_wsS RL 214 yL_clash wsL_clash) := goodIn_app (goodIn_of _ (by decide +kernel)) ggL_law_L_clash
set_option maxRecDepth 20000 in
theorem ggL_law_X12_clash : GoodIn wsL_law wsX12_clash := goodIn_r _ [1238, 265, 914, 915, 916, 5, 917, 733, 313, 314, 315, 316, 317, 318, 319, 1239, 1240, 1241, 1242, 187, 185, 186, 1243, 1244, 1245, 1246, 161, 1877, 1878, 1879, 1880, 1881, 1882, 1883, 1884, 1885, 1886, 1887, 1888, 1889, 1890, 1891, 1892, 1893, 1894, 1895, 1896, 1897, 1898, 1899, 1900, 1901, 1902, 1903, 1904, 1905, 1906, 1907, 1908, 1909, 1910, 1911, 1912, 1913, 1914, 1915, 1916, 1917, 1918, 1919, 1920, 1921, 1922, 1923, 1924, 1925, 1926, 1927, 1928, 1929, 1930, 1931, 1932, 1933, 1934, 1935, 1936, 1937, 1938, 1939, 1940, 1941, 1942, 1943, 1944, 1945, 1946, 1947, 1948, 1949, 1950, 1951, 1952, 1953, 1954, 1955, 1956, 1957, 1958, 1959, 1960, 1961, 1962, 1963, 1964, 1965, 1966, 1967, 1968, 1969, 1970, 1971, 1972, 1973, 1974, 1975, 1976, 1977, 1978, 1979, 1980, 1981, 1982, 1983, 1984, 1985] (by decide +kernel) (by decide +kernel)
set_option maxRecDepth 20000 in
theorem gL_law_X12_clash : GoodIn wsL_law (wsV RL 216 RX12 yX12_clash wsX12_clash) := goodIn_app (goodIn_of _ (by decide +kernel)) ggL_law_X12_clash
set_option maxRecDepth 20000 in
theorem ggL_law_L_best : GoodIn wsL_law wsL_best := goodIn_ca (goodIn_r _ [1249, 272, 1250, 1251, 1252, 2, 1253, 16, 388, 28, 1254, 1255, 293, 294, 295, 296, 297, 1256, 623, 624, 625, 626, 627, 628, 298, 299, 300, 1257, 1258, 1259, 27, 1260, 1261, 1262, 1263, 1264, 111, 112, 1265, 1266, 1267, 1268, 1269, 1270, 1271, 104, 1272, 647, 648, 1273, 1274, 1275, 1276, 358, 359, 1277, 1278, 1279, 1280, 115, 105, 1281, 106, 107, 1282, 410, 411, 412, 108, 109, 678, 679, 1283, 894, 895, 15, 896, 52, 1284, 1285, 1286, 1287, 56, 1288, 1191, 1192, 1193, 1194, 1195, 1196, 1197, 1198, 55, 1199, 414, 415, 1200, 1201, 1202, 1203, 1204, 1205, 1289, 1225, 1226, 1227, 1228, 1229, 1230, 1231, 1232, 50, 1233, 1234, 1290, 58, 59, 60, 1291, 1292, 1293, 1294, 1295, 1296, 1297, 1298, 113, 114, 1299, 418, 419, 420, 1300, 1301, 1302, 1303, 1304, 1305, 1306, 1307, 1308, 1309, 1310, 1311, 1312, 110, 1313, 1314, 1315, 1316, 1317, 1318, 1319, 1320, 1321, 1322, 1323, 1324, 1325, 1326, 1327, 1328, 1329, 1330, 1331, 1332, 1333, 1334, 1335, 1336, 1337, 1338, 1339, 1340, 1341, 1866, 1867, 1868, 1869, 1870, 1871, 1872, 1873, 1874, 1875, 1876, 1986, 1987, 1988, 1989, 1990, 1991, 1992, 2020, 2021, 2022, 2023, 2024, 2025, 2026, 2027, 2028, 2029, 2030, 2031, 2032, 2033, 2034, 2035, 2036, 2037, 2038, 2093, 2094, 2095, 2096, 2097, 2098, 2099, 2100, 2101, 2102, 2103, 2104, 2105, 2106, 2107, 2082, 2083, 2084, 2085, 2086, 2087, 2088, 2089, 2090, 2091, 2092] (by decide +kernel) (by decide +kernel)) (goodIn_sub (fun _ h => List.mem_append_left _ (List.mem_append_left _ (List.mem_append_right _ h))) (by decide +kernel))
set_option maxRecDepth 20000 in
theorem gL_law_L_best : GoodIn wsL_law (va_wsS RL 217 yL_best wsL_best) := goodIn_app (goodIn_of _ (by decide +kernel)) ggL_law_L_best
set_option maxRecDepth 20000 in
theorem ggL_law_X12_best : GoodIn wsL_law wsX12_best := goodIn_r _ [1345, 265, 733, 1346, 1347, 1348, 1349, 208, 209, 210, 211, 313, 314, 5, 315, 316, 317, 318, 319, 1350, 1351, 1352, 1353, 207, 204, 205, 206, 1354, 1355, 1356, 1357, 187, 203, 1239, 1240, 1241, 1242, 185, 186, 1243, 1244, 1245, 1246, 161, 1210, 1211, 1212, 1213, 184, 202, 1214, 1215, 1216, 1877, 1878, 1879, 1880, 1881, 1882, 1883, 1884, 1885, 1886, 1887, 1888, 1889, 1890, 1891, 1892, 1893, 1894, 1895, 1896, 1897, 1898, 1899, 1900, 1901, 1902, 1903, 1904, 1905, 1906, 1907, 1908, 1909, 1910, 1911, 1912, 1913, 1914, 1915, 1916, 1917, 1918, 1919, 1920, 1921, 1922, 1923, 1924, 1925, 1926, 1927, 1928, 1929, 1930, 1931, 1932, 1933, 1934, 1935, 1936, 1937, 1938, 1939, 1940, 1941, 1942, 1943, 1944, 1945, 1946, 1947, 1948, 1949, 1950, 1951, 1952, 1953, 1954, 1955, 1956, 1957, 1958, 1959, 1960, 1961, 1962, 1963, 1964, 1965, 1966, 1967, 1968, 1969, 1970, 1971, 1972, 1973, 1974, 1975, 1976, 1977, 1978, 1979, 1980, 1981, 1982, 1983, 1984, 1985] (by decide +kernel) (by decide +kernel)
set_option maxRecDepth 20000 in
theorem gL_law_X12_best : GoodIn wsL_law (wsV RL 219 RX12 yX12_best wsX12_best) := goodIn_app (goodIn_of _ (by decide +kernel)) ggL_law_X12_best
set_option maxRecDepth 20000 in
theorem ggL_law_L_row : GoodIn wsL_law wsL_row := goodIn_ca (goodIn_ca (goodIn_r _ [1360, 878, 272, 1361, 1362, 1363, 2, 1364, 1365, 32, 887, 888, 889, 890, 891, 892, 16, 893, 894, 895, 15, 896, 52, 298, 299, 300, 293, 294, 295, 296, 297, 1366, 1367, 1368, 31, 1369, 1370, 120, 121, 122, 1866, 1867, 1868, 1869, 1870, 1871, 1872, 1873, 1874, 1875, 1876, 1986, 1987, 1988, 1989, 1990, 1991, 1992, 2039, 2040, 2041, 2042, 2043] (by decide +kernel) (by decide +kernel)) (goodIn_sub (fun _ h => List.mem_append_right _ h) (by decide +kernel))) (goodIn_sub (fun _ h => List.mem_append_left _ (List.mem_append_left _ (List.mem_append_right _ h))) (by decide +kernel))
set_option maxRecDepth 20000 in
theorem gL_law_L_row : GoodIn wsL_law (va_wsS RL 220 yL_row wsL_row) := goodIn_app (goodIn_of _ (by decide +kernel)) ggL_law_L_row
set_option maxRecDepth 20000 in
theorem ggL_law_X12_row : GoodIn wsL_law wsX12_row := goodIn_r _ [1374, 265, 793, 1375, 212, 213, 214, 914, 915, 916, 5, 917, 733, 313, 314, 315, 316, 317, 318, 319, 1877, 1878, 1879, 1880, 1881, 1882, 1883, 1884, 1885, 1886, 1887, 1888, 1889, 1890, 1891, 1892, 1893, 1894, 1895, 1896, 1897, 1898, 1899, 1900, 1901, 1902, 1903, 1904, 1905, 1906, 1907, 1908, 1909, 1910, 1911, 1912, 1913, 1914, 1915, 1916, 1917, 1918, 1919, 1920, 1921, 1922, 1923, 1924, 1925, 1926, 1927, 1928, 1929, 1930, 1931, 1932, 1933, 1934, 1935, 1936, 1937, 1938, 1939, 1940, 1941, 1942, 1943, 1944, 1945, 1946, 1947, 1948, 1949, 1950, 1951, 1952, 1953, 1954, 1955, 1956, 1957, 1958, 1959, 1960, 1961, 1962, 1963, 1964, 1965, 1966, 1967, 1968, 1969, 1970, 1971, 1972, 1973, 1974, 1975, 1976, 1977, 1978, 1979, 1980, 1981, 1982, 1983, 1984, 1985] (by decide +kernel) (by decide +kernel)
set_option maxRecDepth 20000 in
theorem gL_law_X12_row : GoodIn wsL_law (wsV RL 222 RX12 yX12_row wsX12_row) := goodIn_app (goodIn_of _ (by decide +kernel)) ggL_law_X12_row
set_option maxRecDepth 20000 in
theorem ggL_law_X11_check : GoodIn wsL_law wsX11_check := goodIn_r _ [1379, 32, 1380, 1381, 1382, 1383, 31, 1384, 120, 122, 1385, 1386, 1387, 1388, 123, 678, 2, 679, 1389, 894, 895, 15, 896, 52, 1390, 1391, 1392, 1393, 1394, 121, 1395, 1285, 1286, 1287, 56, 1396, 1397, 1398, 1399, 1400, 1191, 1192, 1193, 1194, 1195, 1196, 1197, 1198, 55, 1199, 414, 411, 415, 1200, 1201, 1202, 1203, 1204, 1205, 623, 624, 625, 626, 627, 628, 1401, 1402, 1403, 1404, 1405, 1225, 1226, 1227, 1228, 1229, 1230, 1231, 1232, 50, 1233, 1234, 1866, 1867, 1868, 1869, 1870, 1871, 1872, 1873, 1874, 1875, 1876, 2039, 2040, 2041, 2042, 2043, 1986, 1987, 1988, 1989, 1990, 1991, 1992, 2093, 2094, 2095, 2096, 2097, 2098, 2099, 2100, 2101, 2102, 2103, 2104, 2105, 2106, 2107, 2082, 2083, 2084, 2085, 2086, 2087, 2088, 2089, 2090, 2091, 2092] (by decide +kernel) (by decide +kernel)
set_option maxRecDepth 20000 in
theorem gL_law_X11_check : GoodIn wsL_law (wsV RL 223 RX11 yX11_check wsX11_check) := goodIn_app (goodIn_of _ (by decide +kernel)) ggL_law_X11_check
set_option maxRecDepth 20000 in
theorem ggL_law_X12_check : GoodIn wsL_law wsX12_check := goodIn_r _ [1409, 265, 1375, 1410, 1411, 1412, 5, 1413, 212, 213, 214, 187, 203, 1239, 1240, 1241, 1242, 185, 186, 1243, 1244, 1245, 1246, 161, 1414, 1415, 1416, 1417, 1210, 1211, 1212, 1213, 184, 202, 1214, 1215, 1216, 1877, 1878, 1879, 1880, 1881, 1882, 1883, 1884, 1885, 1886, 1887, 1888, 1889, 1890, 1891, 1892, 1893, 1894, 1895, 1896, 1897, 1898, 1899, 1900, 1901, 1902, 1903, 1904, 1905, 1906, 1907, 1908, 1909, 1910, 1911, 1912, 1913, 1914, 1915, 1916, 1917, 1918, 1919, 1920, 1921, 1922, 1923, 1924, 1925, 1926, 1927, 1928, 1929, 1930, 1931, 1932, 1933, 1934, 1935, 1936, 1937, 1938, 1939, 1940, 1941, 1942, 1943, 1944, 1945, 1946, 1947, 1948, 1949, 1950, 1951, 1952, 1953, 1954, 1955, 1956, 1957, 1958, 1959, 1960, 1961, 1962, 1963, 1964, 1965, 1966, 1967, 1968, 1969, 1970, 1971, 1972, 1973, 1974, 1975, 1976, 1977, 1978, 1979, 1980, 1981, 1982, 1983, 1984, 1985] (by decide +kernel) (by decide +kernel)
set_option maxRecDepth 20000 in
theorem gL_law_X12_check : GoodIn wsL_law (wsV RL 226 RX12 yX12_check wsX12_check) := goodIn_app (goodIn_of _ (by decide +kernel)) ggL_law_X12_check
set_option maxRecDepth 20000 in
theorem ggL_law_X11_clear : GoodIn wsL_law wsX11_clear := goodIn_r _ [1421, 32, 1380, 1866, 1867, 1868, 1869, 1870, 1871, 1872, 1873, 1874, 1875, 1876, 2039, 2040, 2041, 2042, 2043] (by decide +kernel) (by decide +kernel)
set_option maxRecDepth 20000 in
theorem gL_law_X11_clear : GoodIn wsL_law (wsV RL 227 RX11 yX11_clear wsX11_clear) := goodIn_app (goodIn_of _ (by decide +kernel)) ggL_law_X11_clear
set_option maxRecDepth 20000 in
theorem ggL_law_X12_clear : GoodIn wsL_law wsX12_clear := goodIn_r _ [1425, 265, 1375, 1877, 1878, 1879, 1880, 1881, 1882, 1883, 1884, 1885, 1886, 1887, 1888, 1889, 1890, 1891, 1892, 1893, 1894, 1895, 1896, 1897, 1898, 1899, 1900, 1901, 1902, 1903, 1904, 1905, 1906, 1907, 1908, 1909, 1910, 1911, 1912, 1913, 1914, 1915, 1916, 1917, 1918, 1919, 1920, 1921, 1922, 1923, 1924, 1925, 1926, 1927, 1928, 1929, 1930, 1931, 1932, 1933, 1934, 1935, 1936, 1937, 1938, 1939, 1940, 1941, 1942, 1943, 1944, 1945, 1946, 1947, 1948, 1949, 1950, 1951, 1952, 1953, 1954, 1955, 1956, 1957, 1958, 1959, 1960, 1961, 1962, 1963, 1964, 1965, 1966, 1967, 1968, 1969, 1970, 1971, 1972, 1973, 1974, 1975, 1976, 1977, 1978, 1979, 1980, 1981, 1982, 1983, 1984, 1985] (by decide +kernel) (by decide +kernel)
set_option maxRecDepth 20000 in
theorem gL_law_X12_clear : GoodIn wsL_law (wsV RL 230 RX12 yX12_clear wsX12_clear) := goodIn_app (goodIn_of _ (by decide +kernel)) ggL_law_X12_clear
set_option maxRecDepth 20000 in
theorem ggL_law_L_bump : GoodIn wsL_law wsL_bump := goodIn_ca (goodIn_ca (goodIn_ca (goodIn_r _ [1428, 878, 271, 272, 1429, 1430, 1431, 2, 1432, 16, 884, 883, 886, 1433, 410, 411, 412, 887, 888, 889, 890, 891, 892, 893, 894, 895, 15, 896, 52, 1100, 1101, 1102, 282, 283, 930, 675, 676, 602, 677, 636, 298, 299, 300, 293, 294, 295, 296, 297, 1434, 1435, 1436, 1437, 1438, 1104, 1105, 1106, 1107, 1108, 1109, 678, 679, 1110, 987, 988, 989, 641, 1111, 936, 937, 938, 637, 639, 1112, 1113, 1114, 1115, 1116, 1117, 964, 965, 966, 638, 640, 1118, 968, 969, 970, 54, 1256, 623, 624, 625, 626, 627, 628, 1439, 1285, 1286, 1287, 56, 1866, 1867, 1868, 1869, 1870, 1871, 1872, 1873, 1874, 1875, 1876, 2093, 2094, 2095, 2096, 2097, 2098, 2099, 2100, 2101, 2102, 2103, 2104, 2105, 2106, 2107, 1986, 1987, 1988, 1989, 1990, 1991, 1992] (by decide +kernel) (by decide +kernel)) (goodIn_sub (fun _ h => List.mem_append_right _ h) (by decide +kernel))) (goodIn_sub (fun _ h => List.mem_append_left _ (List.mem_append_left _ (List.mem_append_left _ (List.mem_append_right _ h)))) (by decide +kernel))) (goodIn_sub (fun _ h => List.mem_append_left _ (List.mem_append_left _ (List.mem_append_right _ h))) (by decide +kernel))
set_option maxRecDepth 20000 in
theorem gL_law_L_bump : GoodIn wsL_law (va_wsS RL 231 yL_bump wsL_bump) := goodIn_app (goodIn_of _ (by decide +kernel)) ggL_law_L_bump
set_option maxRecDepth 20000 in
theorem ggL_law_X12_bump : GoodIn wsL_law wsX12_bump := goodIn_r _ [1443, 265, 185, 184, 203, 187, 914, 915, 916, 5, 917, 733, 313, 314, 315, 316, 317, 318, 319, 944, 945, 946, 947, 1214, 1215, 1216, 1123, 1124, 1125, 1126, 182, 183, 178, 181, 844, 845, 846, 975, 976, 977, 978, 180, 162, 1877, 1878, 1879, 1880, 1881, 1882, 1883, 1884, 1885, 1886, 1887, 1888, 1889, 1890, 1891, 1892, 1893, 1894, 1895, 1896, 1897, 1898, 1899, 1900, 1901, 1902, 1903, 1904, 1905, 1906, 1907, 1908, 1909, 1910, 1911, 1912, 1913, 1914, 1915, 1916, 1917, 1918, 1919, 1920, 1921, 1922, 1923, 1924, 1925, 1926, 1927, 1928, 1929, 1930, 1931, 1932, 1933, 1934, 1935, 1936, 1937, 1938, 1939, 1940, 1941, 1942, 1943, 1944, 1945, 1946, 1947, 1948, 1949, 1950, 1951, 1952, 1953, 1954, 1955, 1956, 1957, 1958, 1959, 1960, 1961, 1962, 1963, 1964, 1965, 1966, 1967, 1968, 1969, 1970, 1971, 1972, 1973, 1974, 1975, 1976, 1977, 1978, 1979, 1980, 1981, 1982, 1983, 1984, 1985] (by decide +kernel) (by decide +kernel)
set_option maxRecDepth 20000 in
theorem gL_law_X12_bump : GoodIn wsL_law (wsV RL 233 RX12 yX12_bump wsX12_bump) := goodIn_app (goodIn_of _ (by decide +kernel)) ggL_law_X12_bump
set_option maxRecDepth 20000 in
theorem ggL_law_L_wait : GoodIn wsL_law wsL_wait := goodIn_ca (goodIn_r _ [1446, 272, 1447, 1448, 1449, 2, 1450, 40, 1451, 298, 299, 300, 293, 294, 295, 296, 297, 1866, 1867, 1868, 1869, 1870, 1871, 1872, 1873, 1874, 1875, 1876, 2049, 2050, 2051, 2052, 2053, 2054, 2055, 2056, 2057, 2058, 2059, 2060, 2061, 2062, 2063, 2064, 2065, 2066] (by decide +kernel) (by decide +kernel)) (goodIn_sub (fun _ h => List.mem_append_left _ (List.mem_append_left _ (List.mem_append_right _ h))) (by decide +kernel))
set_option maxRecDepth 20000 in
theorem gL_law_L_wait : GoodIn wsL_law (va_wsS RL 234 yL_wait wsL_wait) := goodIn_app (goodIn_of _ (by decide +kernel)) ggL_law_L_wait
set_option maxRecDepth 20000 in
theorem ggL_law_X12_wait : GoodIn wsL_law wsX12_wait := goodIn_r _ [1455, 265, 1456, 313, 314, 5, 315, 316, 317, 318, 319, 1877, 1878, 1879, 1880, 1881, 1882, 1883, 1884, 1885, 1886, 1887, 1888, 1889, 1890, 1891, 1892, 1893, 1894, 1895, 1896, 1897, 1898, 1899, 1900, 1901, 1902, 1903, 1904, 1905, 1906, 1907, 1908, 1909, 1910, 1911, 1912, 1913, 1914, 1915, 1916, 1917, 1918, 1919, 1920, 1921, 1922, 1923, 1924, 1925, 1926, 1927, 1928, 1929, 1930, 1931, 1932, 1933, 1934, 1935, 1936, 1937, 1938, 1939, 1940, 1941, 1942, 1943, 1944, 1945, 1946, 1947, 1948, 1949, 1950, 1951, 1952, 1953, 1954, 1955, 1956, 1957, 1958, 1959, 1960, 1961, 1962, 1963, 1964, 1965, 1966, 1967, 1968, 1969, 1970, 1971, 1972, 1973, 1974, 1975, 1976, 1977, 1978, 1979, 1980, 1981, 1982, 1983, 1984, 1985] (by decide +kernel) (by decide +kernel)
set_option maxRecDepth 20000 in
theorem gL_law_X12_wait : GoodIn wsL_law (wsV RL 236 RX12 yX12_wait wsX12_wait) := goodIn_app (goodIn_of _ (by decide +kernel)) ggL_law_X12_wait
set_option maxRecDepth 20000 in
theorem ggL_law_L_shoot : GoodIn wsL_law wsL_shoot := goodIn_ca (goodIn_ca (goodIn_r _ [1459, 878, 272, 1460, 1461, 1462, 2, 1463, 883, 40, 887, 888, 889, 890, 891, 892, 16, 893, 894, 895, 15, 896, 52, 298, 299, 300, 293, 294, 295, 296, 297, 897, 898, 899, 39, 900, 135, 678, 679, 1464, 1465, 1466, 1467, 146, 147, 1468, 1469, 1470, 358, 359, 1471, 2093, 2094, 2095, 2096, 2097, 2098, 2099, 2100, 2101, 2102, 2103, 2104, 2105, 2106, 2107, 1866, 1867, 1868, 1869, 1870, 1871, 1872, 1873, 1874, 1875, 1876, 1986, 1987, 1988, 1989, 1990, 1991, 1992, 2049, 2050, 2051, 2052, 2053, 2054, 2055, 2056, 2057, 2058, 2059, 2060, 2061, 2062, 2063, 2064, 2065, 2066] (by decide +kernel) (by decide +kernel)) (goodIn_sub (fun _ h => List.mem_append_right _ h) (by decide +kernel))) (goodIn_sub (fun _ h => List.mem_append_left _ (List.mem_append_left _ (List.mem_append_right _ h))) (by decide +kernel))
set_option maxRecDepth 20000 in
theorem gL_law_L_shoot : GoodIn wsL_law (va_wsS RL 237 yL_shoot wsL_shoot) := goodIn_app (goodIn_of _ (by decide +kernel)) ggL_law_L_shoot
set_option maxRecDepth 20000 in
theorem ggL_law_X12_shoot : GoodIn wsL_law wsX12_shoot := goodIn_r _ [1475, 265, 188, 184, 189, 1456, 914, 915, 916, 5, 917, 733, 313, 314, 315, 316, 317, 318, 319, 844, 845, 846, 1877, 1878, 1879, 1880, 1881, 1882, 1883, 1884, 1885, 1886, 1887, 1888, 1889, 1890, 1891, 1892, 1893, 1894, 1895, 1896, 1897, 1898, 1899, 1900, 1901, 1902, 1903, 1904, 1905, 1906, 1907, 1908, 1909, 1910, 1911, 1912, 1913, 1914, 1915, 1916, 1917, 1918, 1919, 1920, 1921, 1922, 1923, 1924, 1925, 1926, 1927, 1928, 1929, 1930, 1931, 1932, 1933, 1934, 1935, 1936, 1937, 1938, 1939, 1940, 1941, 1942, 1943, 1944, 1945, 1946, 1947, 1948, 1949, 1950, 1951, 1952, 1953, 1954, 1955, 1956, 1957, 1958, 1959, 1960, 1961, 1962, 1963, 1964, 1965, 1966, 1967, 1968, 1969, 1970, 1971, 1972, 1973, 1974, 1975, 1976, 1977, 1978, 1979, 1980, 1981, 1982, 1983, 1984, 1985] (by decide +kernel) (by decide +kernel)
set_option maxRecDepth 20000 in
theorem gL_law_X12_shoot : GoodIn wsL_law (wsV RL 239 RX12 yX12_shoot wsX12_shoot) := goodIn_app (goodIn_of _ (by decide +kernel)) ggL_law_X12_shoot
set_option maxRecDepth 20000 in
theorem ggL_law_L_when : GoodIn wsL_law wsL_when := goodIn_ca (goodIn_ca (goodIn_r _ [1478, 878, 271, 1479, 1480, 1481, 2, 1482, 40, 887, 888, 889, 890, 891, 892, 16, 893, 894, 895, 15, 896, 52, 1100, 1101, 1102, 282, 283, 930, 675, 676, 602, 677, 636, 897, 898, 899, 39, 900, 135, 678, 679, 1483, 1484, 1485, 1486, 644, 1866, 1867, 1868, 1869, 1870, 1871, 1872, 1873, 1874, 1875, 1876, 1986, 1987, 1988, 1989, 1990, 1991, 1992, 2093, 2094, 2095, 2096, 2097, 2098, 2099, 2100, 2101, 2102, 2103, 2104, 2105, 2106, 2107, 2049, 2050, 2051, 2052, 2053, 2054, 2055, 2056, 2057, 2058, 2059, 2060, 2061, 2062, 2063, 2064, 2065, 2066] (by decide +kernel) (by decide +kernel)) (goodIn_sub (fun _ h => List.mem_append_right _ h) (by decide +kernel))) (goodIn_sub (fun _ h => List.mem_append_left _ (List.mem_append_left _ (List.mem_append_left _ (List.mem_append_right _ h)))) (by decide +kernel))
set_option maxRecDepth 20000 in
theorem gL_law_L_when : GoodIn wsL_law (va_wsS RL 240 yL_when wsL_when) := goodIn_app (goodIn_of _ (by decide +kernel)) ggL_law_L_when
set_option maxRecDepth 20000 in
theorem ggL_law_X12_when : GoodIn wsL_law wsX12_when := goodIn_r _ [1490, 265, 188, 189, 914, 915, 916, 5, 917, 733, 313, 314, 315, 316, 317, 318, 319, 944, 945, 946, 947, 184, 844, 845, 846, 1877, 1878, 1879, 1880, 1881, 1882, 1883, 1884, 1885, 1886, 1887, 1888, 1889, 1890, 1891, 1892, 1893, 1894, 1895, 1896, 1897, 1898, 1899, 1900, 1901, 1902, 1903, 1904, 1905, 1906, 1907, 1908, 1909, 1910, 1911, 1912, 1913, 1914, 1915, 1916, 1917, 1918, 1919, 1920, 1921, 1922, 1923, 1924, 1925, 1926, 1927, 1928, 1929, 1930, 1931, 1932, 1933, 1934, 1935, 1936, 1937, 1938, 1939, 1940, 1941, 1942, 1943, 1944, 1945, 1946, 1947, 1948, 1949, 1950, 1951, 1952, 1953, 1954, 1955, 1956, 1957, 1958, 1959, 1960, 1961, 1962, 1963, 1964, 1965, 1966, 1967, 1968, 1969, 1970, 1971, 1972, 1973, 1974, 1975, 1976, 1977, 1978, 1979, 1980, 1981, 1982, 1983, 1984, 1985] (by decide +kernel) (by decide +kernel)
set_option maxRecDepth 20000 in
theorem gL_law_X12_when : GoodIn wsL_law (wsV RL 242 RX12 yX12_when wsX12_when) := goodIn_app (goodIn_of _ (by decide +kernel)) ggL_law_X12_when
set_option maxRecDepth 20000 in
theorem ggL_law_L_measure : GoodIn wsL_law wsL_measure := goodIn_ca (goodIn_ca (goodIn_ca (goodIn_r _ [1493, 878, 271, 272, 1494, 1495, 1496, 2, 1497, 40, 36, 1498, 1451, 887, 888, 889, 890, 891, 892, 16, 893, 894, 895, 15, 896, 52, 1100, 1101, 1102, 282, 283, 930, 675, 676, 602, 677, 636, 298, 299, 300, 293, 294, 295, 296, 297, 897, 898, 899, 39, 900, 135, 678, 679, 1499, 1500, 1501, 35, 1502, 1503, 127, 128, 129, 130, 1866, 1867, 1868, 1869, 1870, 1871, 1872, 1873, 1874, 1875, 1876, 2044, 2045, 2046, 2047, 2048, 2049, 2050, 2051, 2052, 2053, 2054, 2055, 2056, 2057, 2058, 2059, 2060, 2061, 2062, 2063, 2064, 2065, 2066, 1986, 1987, 1988, 1989, 1990, 1991, 1992, 2093, 2094, 2095, 2096, 2097, 2098, 2099, 2100, 2101, 2102, 2103, 2104, 2105, 2106, 2107] (by decide +kernel) (by decide +kernel)) (goodIn_sub (fun _ h => List.mem_append_right _ h) (by decide +kernel))) (goodIn_sub (fun _ h => List.mem_append_left _ (List.mem_append_left _ (List.mem_append_left _ (List.mem_append_right _ h)))) (by decide +kernel))) (goodIn_sub (fun _ h => List.mem_append_left _ (List.mem_append_left _ (List.mem_append_right _ h))) (by decide +kernel))
set_option maxRecDepth 20000 in
theorem gL_law_L_measure : GoodIn wsL_law (va_wsS RL 243 yL_measure wsL_measure) := goodIn_app (goodIn_of _ (by decide +kernel)) ggL_law_L_measure
set_option maxRecDepth 20000 in
theorem ggL_law_X12_measure : GoodIn wsL_law wsX12_measure := goodIn_r _ [1507, 265, 188, 1508, 215, 216, 217, 1456, 218, 914, 915, 916, 5, 917, 733, 313, 314, 315, 316, 317, 318, 319, 944, 945, 946, 947, 184, 1877, 1878, 1879, 1880, 1881, 1882, 1883, 1884, 1885, 1886, 1887, 1888, 1889, 1890, 1891, 1892, 1893, 1894, 1895, 1896, 1897, 1898, 1899, 1900, 1901, 1902, 1903, 1904, 1905, 1906, 1907, 1908, 1909, 1910, 1911, 1912, 1913, 1914, 1915, 1916, 1917, 1918, 1919, 1920, 1921, 1922, 1923, 1924, 1925, 1926, 1927, 1928, 1929, 1930, 1931, 1932, 1933, 1934, 1935, 1936, 1937, 1938, 1939, 1940, 1941, 1942, 1943, 1944, 1945, 1946, 1947, 1948, 1949, 1950, 1951, 1952, 1953, 1954, 1955, 1956, 1957, 1958, 1959, 1960, 1961, 1962, 1963, 1964, 1965, 1966, 1967, 1968, 1969, 1970, 1971, 1972, 1973, 1974, 1975, 1976, 1977, 1978, 1979, 1980, 1981, 1982, 1983, 1984, 1985] (by decide +kernel) (by decide +kernel)
set_option maxRecDepth 20000 in
theorem gL_law_X12_measure : GoodIn wsL_law (wsV RL 245 RX12 yX12_measure wsX12_measure) := goodIn_app (goodIn_of _ (by decide +kernel)) ggL_law_X12_measure
set_option maxRecDepth 20000 in
theorem ggL_law_L_mended : GoodIn wsL_law wsL_mended := goodIn_ca (goodIn_ca (goodIn_r _ [1511, 878, 271, 1512, 1513, 1514, 2, 1515, 36, 887, 888, 889, 890, 891, 892, 16, 893, 894, 895, 15, 896, 52, 1100, 1101, 1102, 282, 283, 930, 675, 676, 602, 677, 636, 1516, 1517, 1518, 35, 1519, 1503, 127, 130, 128, 129, 678, 679, 1520, 1521, 1522, 1523, 1524, 1525, 690, 1526, 1866, 1867, 1868, 1869, 1870, 1871, 1872, 1873, 1874, 1875, 1876, 1986, 1987, 1988, 1989, 1990, 1991, 1992, 2093, 2094, 2095, 2096, 2097, 2098, 2099, 2100, 2101, 2102, 2103, 2104, 2105, 2106, 2107, 2044, 2045, 2046, 2047, 2048] (by decide +kernel) (by decide +kernel)) (goodIn_sub (fun _ h => List.mem_append_right _ h) (by decide +kernel))) (goodIn_sub (fun _ h => List.mem_append_left _ (List.mem_append_left _ (List.mem_append_left _ (List.mem_append_right _ h)))) (by decide +kernel))
set_option maxRecDepth 20000 in
theorem gL_law_L_mended : GoodIn wsL_law (va_wsS RL 246 yL_mended wsL_mended) := goodIn_app (goodIn_of _ (by decide +kernel)) ggL_law_L_mended
set_option maxRecDepth 20000 in
theorem ggL_law_X12_mended : GoodIn wsL_law wsX12_mended := goodIn_r _ [1530, 265, 914, 915, 916, 5, 917, 733, 313, 314, 315, 316, 317, 318, 319, 944, 945, 946, 947, 184, 1531, 1532, 1533, 1534, 218, 1535, 1536, 1537, 1538, 1508, 215, 216, 217, 1877, 1878, 1879, 1880, 1881, 1882, 1883, 1884, 1885, 1886, 1887, 1888, 1889, 1890, 1891, 1892, 1893, 1894, 1895, 1896, 1897, 1898, 1899, 1900, 1901, 1902, 1903, 1904, 1905, 1906, 1907, 1908, 1909, 1910, 1911, 1912, 1913, 1914, 1915, 1916, 1917, 1918, 1919, 1920, 1921, 1922, 1923, 1924, 1925, 1926, 1927, 1928, 1929, 1930, 1931, 1932, 1933, 1934, 1935, 1936, 1937, 1938, 1939, 1940, 1941, 1942, 1943, 1944, 1945, 1946, 1947, 1948, 1949, 1950, 1951, 1952, 1953, 1954, 1955, 1956, 1957, 1958, 1959, 1960, 1961, 1962, 1963, 1964, 1965, 1966, 1967, 1968, 1969, 1970, 1971, 1972, 1973, 1974, 1975, 1976, 1977, 1978, 1979, 1980, 1981, 1982, 1983, 1984, 1985] (by decide +kernel) (by decide +kernel)
set_option maxRecDepth 20000 in
theorem gL_law_X12_mended : GoodIn wsL_law (wsV RL 248 RX12 yX12_mended wsX12_mended) := goodIn_app (goodIn_of _ (by decide +kernel)) ggL_law_X12_mended
set_option maxRecDepth 20000 in
theorem ggL_law_L_leap : GoodIn wsL_law wsL_leap := goodIn_ca (goodIn_r _ [1541, 878, 1542, 1543, 1544, 2, 1545, 40, 36, 1546, 1547, 411, 1548, 1549, 414, 415, 887, 888, 889, 890, 891, 892, 16, 893, 894, 895, 15, 896, 52, 897, 898, 899, 39, 900, 135, 678, 679, 1516, 1517, 1518, 35, 1519, 1503, 127, 130, 128, 129, 1520, 1521, 1522, 1523, 1524, 1525, 690, 1526, 1866, 1867, 1868, 1869, 1870, 1871, 1872, 1873, 1874, 1875, 1876, 1986, 1987, 1988, 1989, 1990, 1991, 1992, 2049, 2050, 2051, 2052, 2053, 2054, 2055, 2056, 2057, 2058, 2059, 2060, 2061, 2062, 2063, 2064, 2065, 2066, 2044, 2045, 2046, 2047, 2048] (by decide +kernel) (by decide +kernel)) (goodIn_sub (fun _ h => List.mem_append_right _ h) (by decide +kernel))
set_option maxRecDepth 20000 in
theorem gL_law_L_leap : GoodIn wsL_law (va_wsS RL 249 yL_leap wsL_leap) := goodIn_app (goodIn_of _ (by decide +kernel)) ggL_law_L_leap
set_option maxRecDepth 20000 in
theorem ggL_law_X12_leap : GoodIn wsL_law wsX12_leap := goodIn_r _ [1553, 265, 188, 914, 915, 916, 5, 917, 733, 313, 314, 315, 316, 317, 318, 319, 1531, 1532, 1533, 1534, 184, 218, 1535, 1536, 1537, 1538, 1508, 215, 216, 217, 1877, 1878, 1879, 1880, 1881, 1882, 1883, 1884, 1885, 1886, 1887, 1888, 1889, 1890, 1891, 1892, 1893, 1894, 1895, 1896, 1897, 1898, 1899, 1900, 1901, 1902, 1903, 1904, 1905, 1906, 1907, 1908, 1909, 1910, 1911, 1912, 1913, 1914, 1915, 1916, 1917, 1918, 1919, 1920, 1921, 1922, 1923, 1924, 1925, 1926, 1927, 1928, 1929, 1930, 1931, 1932, 1933, 1934, 1935, 1936, 1937, 1938, 1939, 1940, 1941, 1942, 1943, 1944, 1945, 1946, 1947, 1948, 1949, 1950, 1951, 1952, 1953, 1954, 1955, 1956, 1957, 1958, 1959, 1960, 1961, 1962, 1963, 1964, 1965, 1966, 1967, 1968, 1969, 1970, 1971, 1972, 1973, 1974, 1975, 1976, 1977, 1978, 1979, 1980, 1981, 1982, 1983, 1984, 1985] (by decide +kernel) (by decide +kernel)
set_option maxRecDepth 20000 in
theorem gL_law_X12_leap : GoodIn wsL_law (wsV RL 251 RX12 yX12_leap wsX12_leap) := goodIn_app (goodIn_of _ (by decide +kernel)) ggL_law_X12_leap
set_option maxRecDepth 20000 in
theorem ggL_law_L_paint : GoodIn wsL_law wsL_paint := goodIn_ca (goodIn_ca (goodIn_r _ [1556, 878, 271, 1557, 1558, 1559, 2, 1560, 282, 283, 887, 888, 889, 890, 891, 892, 16, 893, 894, 895, 15, 896, 52, 1100, 1101, 1102, 930, 675, 676, 602, 677, 636, 1561, 1562, 1563, 1564, 645, 909, 1866, 1867, 1868, 1869, 1870, 1871, 1872, 1873, 1874, 1875, 1876, 1986, 1987, 1988, 1989, 1990, 1991, 1992, 2093, 2094, 2095, 2096, 2097, 2098, 2099, 2100, 2101, 2102, 2103, 2104, 2105, 2106, 2107] (by decide +kernel) (by decide +kernel)) (goodIn_sub (fun _ h => List.mem_append_left _ (List.mem_append_left _ (List.mem_append_left _ (List.mem_append_right _ h)))) (by decide +kernel))) (goodIn_sub (fun _ h => List.mem_append_right _ h) (by decide +kernel))
set_option maxRecDepth 20000 in
theorem gL_law_L_paint : GoodIn wsL_law (va_wsS RL 252 yL_paint wsL_paint) := goodIn_app (goodIn_of _ (by decide +kernel)) ggL_law_L_paint
set_option maxRecDepth 20000 in
theorem ggL_law_X12_paint : GoodIn wsL_law wsX12_paint := goodIn_r _ [1568, 265, 191, 914, 915, 916, 5, 917, 733, 313, 314, 315, 316, 317, 318, 319, 944, 945, 946, 947, 184, 844, 845, 846, 1877, 1878, 1879, 1880, 1881, 1882, 1883, 1884, 1885, 1886, 1887, 1888, 1889, 1890, 1891, 1892, 1893, 1894, 1895, 1896, 1897, 1898, 1899, 1900, 1901, 1902, 1903, 1904, 1905, 1906, 1907, 1908, 1909, 1910, 1911, 1912, 1913, 1914, 1915, 1916, 1917, 1918, 1919, 1920, 1921, 1922, 1923, 1924, 1925, 1926, 1927, 1928, 1929, 1930, 1931, 1932, 1933, 1934, 1935, 1936, 1937, 1938, 1939, 1940, 1941, 1942, 1943, 1944, 1945, 1946, 1947, 1948, 1949, 1950, 1951, 1952, 1953, 1954, 1955, 1956, 1957, 1958, 1959, 1960, 1961, 1962, 1963, 1964, 1965, 1966, 1967, 1968, 1969, 1970, 1971, 1972, 1973, 1974, 1975, 1976, 1977, 1978, 1979, 1980, 1981, 1982, 1983, 1984, 1985] (by decide +kernel) (by decide +kernel)
set_option maxRecDepth 20000 in
theorem gL_law_X12_paint : GoodIn wsL_law (wsV RL 255 RX12 yX12_paint wsX12_paint) := goodIn_app (goodIn_of _ (by decide +kernel)) ggL_law_X12_paint
set_option maxRecDepth 20000 in
theorem ggL_law_L_dirty : GoodIn wsL_law wsL_dirty := goodIn_ca (goodIn_r _ [1571, 878, 1572, 1573, 1574, 2, 1575, 1549, 414, 411, 415, 883, 887, 888, 889, 890, 891, 892, 16, 893, 894, 895, 15, 896, 52, 1576, 906, 907, 602, 908, 643, 645, 909, 675, 676, 677, 636, 2093, 2094, 2095, 2096, 2097, 2098, 2099, 2100, 2101, 2102, 2103, 2104, 2105, 2106, 2107, 1866, 1867, 1868, 1869, 1870, 1871, 1872, 1873, 1874, 1875, 1876, 1986, 1987, 1988, 1989, 1990, 1991, 1992] (by decide +kernel) (by decide +kernel)) (goodIn_sub (fun _ h => List.mem_append_right _ h) (by decide +kernel))
set_option maxRecDepth 20000 in
theorem gL_law_L_dirty : GoodIn wsL_law (va_wsS RL 256 yL_dirty wsL_dirty) := goodIn_app (goodIn_of _ (by decide +kernel)) ggL_law_L_dirty
set_option maxRecDepth 20000 in
theorem ggL_law_X12_dirty : GoodIn wsL_law wsX12_dirty := goodIn_r _ [1580, 265, 184, 914, 915, 916, 5, 917, 733, 313, 314, 315, 316, 317, 318, 319, 918, 919, 920, 921, 183, 191, 844, 845, 846, 1877, 1878, 1879, 1880, 1881, 1882, 1883, 1884, 1885, 1886, 1887, 1888, 1889, 1890, 1891, 1892, 1893, 1894, 1895, 1896, 1897, 1898, 1899, 1900, 1901, 1902, 1903, 1904, 1905, 1906, 1907, 1908, 1909, 1910, 1911, 1912, 1913, 1914, 1915, 1916, 1917, 1918, 1919, 1920, 1921, 1922, 1923, 1924, 1925, 1926, 1927, 1928, 1929, 1930, 1931, 1932, 1933, 1934, 1935, 1936, 1937, 1938, 1939, 1940, 1941, 1942, 1943, 1944, 1945, 1946, 1947, 1948, 1949, 1950, 1951, 1952, 1953, 1954, 1955, 1956, 1957, 1958, 1959, 1960, 1961, 1962, 1963, 1964, 1965, 1966, 1967, 1968, 1969, 1970, 1971, 1972, 1973, 1974, 1975, 1976, 1977, 1978, 1979, 1980, 1981, 1982, 1983, 1984, 1985] (by decide +kernel) (by decide +kernel)
set_option maxRecDepth 20000 in
theorem gL_law_X12_dirty : GoodIn wsL_law (wsV RL 258 RX12 yX12_dirty wsX12_dirty) := goodIn_app (goodIn_of _ (by decide +kernel)) ggL_law_X12_dirty
set_option maxRecDepth 20000 in
theorem ggL_law_L_animator : GoodIn wsL_law wsL_animator := goodIn_ca (goodIn_r _ [1583, 272, 1584, 1585, 1586, 2, 1587, 40, 298, 299, 300, 293, 294, 295, 296, 297, 1588, 1589, 1590, 39, 1591, 1592, 144, 1866, 1867, 1868, 1869, 1870, 1871, 1872, 1873, 1874, 1875, 1876, 2049, 2050, 2051, 2052, 2053, 2054, 2055, 2056, 2057, 2058, 2059, 2060, 2061, 2062, 2063, 2064, 2065, 2066] (by decide +kernel) (by decide +kernel)) (goodIn_sub (fun _ h => List.mem_append_left _ (List.mem_append_left _ (List.mem_append_right _ h))) (by decide +kernel))
set_option maxRecDepth 20000 in
theorem gL_law_L_animator : GoodIn wsL_law (va_wsS RL 259 yL_animator wsL_animator) := goodIn_app (goodIn_of _ (by decide +kernel)) ggL_law_L_animator
set_option maxRecDepth 20000 in
theorem ggL_law_X12_animator : GoodIn wsL_law wsX12_animator := goodIn_r _ [1596, 265, 1597, 219, 313, 314, 5, 315, 316, 317, 318, 319, 1877, 1878, 1879, 1880, 1881, 1882, 1883, 1884, 1885, 1886, 1887, 1888, 1889, 1890, 1891, 1892, 1893, 1894, 1895, 1896, 1897, 1898, 1899, 1900, 1901, 1902, 1903, 1904, 1905, 1906, 1907, 1908, 1909, 1910, 1911, 1912, 1913, 1914, 1915, 1916, 1917, 1918, 1919, 1920, 1921, 1922, 1923, 1924, 1925, 1926, 1927, 1928, 1929, 1930, 1931, 1932, 1933, 1934, 1935, 1936, 1937, 1938, 1939, 1940, 1941, 1942, 1943, 1944, 1945, 1946, 1947, 1948, 1949, 1950, 1951, 1952, 1953, 1954, 1955, 1956, 1957, 1958, 1959, 1960, 1961, 1962, 1963, 1964, 1965, 1966, 1967, 1968, 1969, 1970, 1971, 1972, 1973, 1974, 1975, 1976, 1977, 1978, 1979, 1980, 1981, 1982, 1983, 1984, 1985] (by decide +kernel) (by decide +kernel)
set_option maxRecDepth 20000 in
theorem gL_law_X12_animator : GoodIn wsL_law (wsV RL 261 RX12 yX12_animator wsX12_animator) := goodIn_app (goodIn_of _ (by decide +kernel)) ggL_law_X12_animator
set_option maxRecDepth 20000 in
theorem ggL_law_L_station : GoodIn wsL_law wsL_station := goodIn_ca (goodIn_ca (goodIn_r _ [1600, 271, 272, 1601, 1602, 1603, 2, 1604, 40, 1605, 1606, 1607, 1608, 1609, 282, 283, 298, 299, 300, 293, 294, 295, 296, 297, 357, 358, 359, 1866, 1867, 1868, 1869, 1870, 1871, 1872, 1873, 1874, 1875, 1876, 2049, 2050, 2051, 2052, 2053, 2054, 2055, 2056, 2057, 2058, 2059, 2060, 2061, 2062, 2063, 2064, 2065, 2066] (by decide +kernel) (by decide +kernel)) (goodIn_sub (fun _ h => List.mem_append_left _ (List.mem_append_left _ (List.mem_append_left _ (List.mem_append_right _ h)))) (by decide +kernel))) (goodIn_sub (fun _ h => List.mem_append_left _ (List.mem_append_left _ (List.mem_append_right _ h))) (by decide +kernel))
set_option maxRecDepth 20000 in
theorem gL_law_L_station : GoodIn wsL_law (va_wsS RL 262 yL_station wsL_station) := goodIn_app (goodIn_of _ (by decide +kernel)) ggL_law_L_station
set_option maxRecDepth 20000 in
theorem ggL_law_X12_station : GoodIn wsL_law wsX12_station := goodIn_r _ [1613, 265, 1597, 222, 313, 314, 5, 315, 316, 317, 318, 319, 1877, 1878, 1879, 1880, 1881, 1882, 1883, 1884, 1885, 1886, 1887, 1888, 1889, 1890, 1891, 1892, 1893, 1894, 1895, 1896, 1897, 1898, 1899, 1900, 1901, 1902, 1903, 1904, 1905, 1906, 1907, 1908, 1909, 1910, 1911, 1912, 1913, 1914, 1915, 1916, 1917, 1918, 1919, 1920, 1921, 1922, 1923, 1924, 1925, 1926, 1927, 1928, 1929, 1930, 1931, 1932, 1933, 1934, 1935, 1936, 1937, 1938, 1939, 1940, 1941, 1942, 1943, 1944, 1945, 1946, 1947, 1948, 1949, 1950, 1951, 1952, 1953, 1954, 1955, 1956, 1957, 1958, 1959, 1960, 1961, 1962, 1963, 1964, 1965, 1966, 1967, 1968, 1969, 1970, 1971, 1972, 1973, 1974, 1975, 1976, 1977, 1978, 1979, 1980, 1981, 1982, 1983, 1984, 1985] (by decide +kernel) (by decide +kernel)
set_option maxRecDepth 20000 in
theorem gL_law_X12_station : GoodIn wsL_law (wsV RL 264 RX12 yX12_station wsX12_station) := goodIn_app (goodIn_of _ (by decide +kernel)) ggL_law_X12_station
set_option maxRecDepth 20000 in
theorem ggL_law_L_queue : GoodIn wsL_law wsL_queue := goodIn_ca (goodIn_ca (goodIn_r _ [1616, 878, 271, 1617, 1618, 1619, 2, 1620, 40, 883, 887, 888, 889, 890, 891, 892, 16, 893, 894, 895, 15, 896, 52, 1607, 1608, 1609, 282, 283, 298, 299, 300, 1621, 1622, 1623, 39, 1624, 138, 678, 679, 1625, 1626, 1627, 1628, 139, 897, 898, 899, 900, 135, 1629, 1630, 1631, 1632, 1633, 1634, 1635, 1636, 1637, 137, 358, 359, 1866, 1867, 1868, 1869, 1870, 1871, 1872, 1873, 1874, 1875, 1876, 2093, 2094, 2095, 2096, 2097, 2098, 2099, 2100, 2101, 2102, 2103, 2104, 2105, 2106, 2107, 1986, 1987, 1988, 1989, 1990, 1991, 1992, 2049, 2050, 2051, 2052, 2053, 2054, 2055, 2056, 2057, 2058, 2059, 2060, 2061, 2062, 2063, 2064, 2065, 2066] (by decide +kernel) (by decide +kernel)) (goodIn_sub (fun _ h => List.mem_append_right _ h) (by decide +kernel))) (goodIn_sub (fun _ h => List.mem_append_left _ (List.mem_append_left _ (List.mem_append_left _ (List.mem_append_right _ h)))) (by decide +kernel))
set_option maxRecDepth 20000 in
theorem gL_law_L_queue : GoodIn wsL_law (va_wsS RL 265 yL_queue wsL_queue) := goodIn_app (goodIn_of _ (by decide +kernel)) ggL_law_L_queue
set_option maxRecDepth 20000 in
theorem ggL_law_X12_queue : GoodIn wsL_law wsX12_queue := goodIn_r _ [1641, 265, 223, 224, 914, 915, 916, 5, 917, 733, 313, 314, 315, 316, 317, 318, 319, 1642, 1643, 1644, 1645, 225, 1646, 1647, 1648, 1649, 188, 184, 1877, 1878, 1879, 1880, 1881, 1882, 1883, 1884, 1885, 1886, 1887, 1888, 1889, 1890, 1891, 1892, 1893, 1894, 1895, 1896, 1897, 1898, 1899, 1900, 1901, 1902, 1903, 1904, 1905, 1906, 1907, 1908, 1909, 1910, 1911, 1912, 1913, 1914, 1915, 1916, 1917, 1918, 1919, 1920, 1921, 1922, 1923, 1924, 1925, 1926, 1927, 1928, 1929, 1930, 1931, 1932, 1933, 1934, 1935, 1936, 1937, 1938, 1939, 1940, 1941, 1942, 1943, 1944, 1945, 1946, 1947, 1948, 1949, 1950, 1951, 1952, 1953, 1954, 1955, 1956, 1957, 1958, 1959, 1960, 1961, 1962, 1963, 1964, 1965, 1966, 1967, 1968, 1969, 1970, 1971, 1972, 1973, 1974, 1975, 1976, 1977, 1978, 1979, 1980, 1981, 1982, 1983, 1984, 1985] (by decide +kernel) (by decide +kernel)
set_option maxRecDepth 20000 in
theorem gL_law_X12_queue : GoodIn wsL_law (wsV RL 267 RX12 yX12_queue wsX12_queue) := goodIn_app (goodIn_of _ (by decide +kernel)) ggL_law_X12_queue
set_option maxRecDepth 20000 in
theorem ggL_law_L_floor : GoodIn wsL_law wsL_floor := goodIn_ca (goodIn_r _ [1652, 272, 1653, 1654, 1655, 2, 1656, 40, 1451, 298, 299, 300, 293, 294, 295, 296, 297, 1657, 1658, 1659, 39, 1660, 1661, 1469, 1662, 1663, 1664, 1665, 1666, 1667, 145, 148, 58, 59, 60, 1668, 1669, 1670, 1671, 136, 146, 140, 1672, 1673, 1674, 1675, 1676, 138, 139, 1677, 1678, 1679, 1680, 137, 678, 679, 1681, 1682, 1683, 1684, 1685, 1471, 894, 895, 15, 896, 52, 1470, 898, 899, 900, 135, 358, 359, 1634, 1635, 1636, 1637, 1686, 1687, 1688, 1689, 1690, 1691, 1692, 1693, 1694, 1695, 1696, 1697, 142, 1698, 1225, 1226, 1227, 1228, 1204, 1229, 1230, 1231, 1232, 50, 1233, 1234, 1699, 1700, 1701, 1702, 1703, 1704, 1705, 1706, 1707, 1708, 1709, 1710, 141, 1711, 1712, 1713, 1714, 1715, 1716, 1717, 1718, 1719, 1285, 1286, 1287, 56, 1720, 1721, 1722, 1723, 143, 144, 1724, 414, 411, 415, 1725, 410, 412, 1726, 1727, 1728, 1729, 1730, 1731, 1732, 1733, 1734, 1626, 1627, 1628, 1735, 1196, 1197, 1198, 55, 1199, 1736, 1201, 1202, 1203, 1205, 623, 624, 625, 626, 627, 628, 1737, 1465, 1466, 1467, 147, 1468, 1866, 1867, 1868, 1869, 1870, 1871, 1872, 1873, 1874, 1875, 1876, 2049, 2050, 2051, 2052, 2053, 2054, 2055, 2056, 2057, 2058, 2059, 2060, 2061, 2062, 2063, 2064, 2065, 2066, 2093, 2094, 2095, 2096, 2097, 2098, 2099, 2100, 2101, 2102, 2103, 2104, 2105, 2106, 2107, 1986, 1987, 1988, 1989, 1990, 1991, 1992, 2082, 2083, 2084, 2085, 2086, 2087, 2088, 2089, 2090, 2091, 2092] (by decide +kernel) (by decide +kernel)) (goodIn_sub (fun _ h => List.mem_append_left _ (List.mem_append_left _ (List.mem_append_right _ h))) (by decide +kernel))
set_option maxRecDepth 20000 in
theorem gL_law_L_floor : GoodIn wsL_law (va_wsS RL 268 yL_floor wsL_floor) := goodIn_app (goodIn_of _ (by decide +kernel)) ggL_law_L_floor
set_option maxRecDepth 20000 in
theorem ggL_law_X12_floor : GoodIn wsL_law wsX12_floor := goodIn_r _ [1741, 265, 1456, 313, 314, 5, 315, 316, 317, 318, 319, 1742, 1743, 1744, 1745, 1746, 1747, 1748, 1749, 225, 187, 226, 228, 227, 203, 1750, 1751, 1752, 1753, 223, 224, 1646, 1647, 1648, 1649, 188, 184, 1754, 1755, 1756, 1757, 1758, 1759, 1760, 1761, 1239, 1240, 1241, 1242, 185, 186, 1243, 1244, 1245, 1246, 161, 1762, 1763, 1764, 1765, 1766, 1767, 1768, 1769, 222, 219, 221, 220, 202, 189, 1770, 1771, 1772, 1773, 733, 1642, 1643, 1644, 1645, 1774, 1775, 1776, 1777, 1214, 1215, 1216, 844, 845, 846, 1877, 1878, 1879, 1880, 1881, 1882, 1883, 1884, 1885, 1886, 1887, 1888, 1889, 1890, 1891, 1892, 1893, 1894, 1895, 1896, 1897, 1898, 1899, 1900, 1901, 1902, 1903, 1904, 1905, 1906, 1907, 1908, 1909, 1910, 1911, 1912, 1913, 1914, 1915, 1916, 1917, 1918, 1919, 1920, 1921, 1922, 1923, 1924, 1925, 1926, 1927, 1928, 1929, 1930, 1931, 1932, 1933, 1934, 1935, 1936, 1937, 1938, 1939, 1940, 1941, 1942, 1943, 1944, 1945, 1946, 1947, 1948, 1949, 1950, 1951, 1952, 1953, 1954, 1955, 1956, 1957, 1958, 1959, 1960, 1961, 1962, 1963, 1964, 1965, 1966, 1967, 1968, 1969, 1970, 1971, 1972, 1973, 1974, 1975, 1976, 1977, 1978, 1979, 1980, 1981, 1982, 1983, 1984, 1985] (by decide +kernel) (by decide +kernel)
set_option maxRecDepth 20000 in
theorem gL_law_X12_floor : GoodIn wsL_law (wsV RL 270 RX12 yX12_floor wsX12_floor) := goodIn_app (goodIn_of _ (by decide +kernel)) ggL_law_X12_floor
set_option maxRecDepth 20000 in
theorem ggL_law_L_on : GoodIn wsL_law wsL_on := goodIn_ca (goodIn_ca (goodIn_r _ [1780, 271, 272, 1781, 1782, 1783, 2, 1784, 296, 297, 40, 1607, 1608, 1609, 282, 283, 298, 299, 300, 1785, 1786, 1787, 39, 1788, 136, 678, 679, 1789, 1790, 1791, 1792, 146, 140, 1672, 141, 1793, 1471, 894, 895, 15, 896, 52, 1621, 1622, 1623, 1624, 138, 1794, 1795, 1796, 1797, 1633, 1677, 1678, 1679, 1680, 137, 1866, 1867, 1868, 1869, 1870, 1871, 1872, 1873, 1874, 1875, 1876, 2049, 2050, 2051, 2052, 2053, 2054, 2055, 2056, 2057, 2058, 2059, 2060, 2061, 2062, 2063, 2064, 2065, 2066, 2093, 2094, 2095, 2096, 2097, 2098, 2099, 2100, 2101, 2102, 2103, 2104, 2105, 2106, 2107, 1986, 1987, 1988, 1989, 1990, 1991, 1992] (by decide +kernel) (by decide +kernel)) (goodIn_sub (fun _ h => List.mem_append_left _ (List.mem_append_left _ (List.mem_append_right _ h))) (by decide +kernel))) (goodIn_sub (fun _ h => List.mem_append_left _ (List.mem_append_left _ (List.mem_append_left _ (List.mem_append_right _ h)))) (by decide +kernel))
set_option maxRecDepth 20000 in
theorem gL_law_L_on : GoodIn wsL_law (va_wsS RL 271 yL_on wsL_on) := goodIn_app (goodIn_of _ (by decide +kernel)) ggL_law_L_on
set_option maxRecDepth 20000 in
theorem ggL_law_X12_on : GoodIn wsL_law wsX12_on := goodIn_r _ [1801, 265, 225, 226, 227, 223, 224, 313, 314, 5, 315, 316, 317, 318, 319, 1877, 1878, 1879, 1880, 1881, 1882, 1883, 1884, 1885, 1886, 1887, 1888, 1889, 1890, 1891, 1892, 1893, 1894, 1895, 1896, 1897, 1898, 1899, 1900, 1901, 1902, 1903, 1904, 1905, 1906, 1907, 1908, 1909, 1910, 1911, 1912, 1913, 1914, 1915, 1916, 1917, 1918, 1919, 1920, 1921, 1922, 1923, 1924, 1925, 1926, 1927, 1928, 1929, 1930, 1931, 1932, 1933, 1934, 1935, 1936, 1937, 1938, 1939, 1940, 1941, 1942, 1943, 1944, 1945, 1946, 1947, 1948, 1949, 1950, 1951, 1952, 1953, 1954, 1955, 1956, 1957, 1958, 1959, 1960, 1961, 1962, 1963, 1964, 1965, 1966, 1967, 1968, 1969, 1970, 1971, 1972, 1973, 1974, 1975, 1976, 1977, 1978, 1979, 1980, 1981, 1982, 1983, 1984, 1985] (by decide +kernel) (by decide +kernel)
set_option maxRecDepth 20000 in
theorem gL_law_X12_on : GoodIn wsL_law (wsV RL 273 RX12 yX12_on wsX12_on) := goodIn_app (goodIn_of _ (by decide +kernel)) ggL_law_X12_on
set_option maxRecDepth 20000 in
theorem ggL_law_L_stands : GoodIn wsL_law wsL_stands := goodIn_ca (goodIn_r _ [1804, 272, 1805, 1806, 1807, 2, 1808, 40, 298, 299, 300, 293, 294, 295, 296, 297, 1809, 1695, 1696, 39, 1697, 142, 678, 679, 1866, 1867, 1868, 1869, 1870, 1871, 1872, 1873, 1874, 1875, 1876, 2049, 2050, 2051, 2052, 2053, 2054, 2055, 2056, 2057, 2058, 2059, 2060, 2061, 2062, 2063, 2064, 2065, 2066] (by decide +kernel) (by decide +kernel)) (goodIn_sub (fun _ h => List.mem_append_left _ (List.mem_append_left _ (List.mem_append_right _ h))) (by decide +kernel))
set_option maxRecDepth 20000 in
theorem gL_law_L_stands : GoodIn wsL_law (va_wsS RL 274 yL_stands wsL_stands) := goodIn_app (goodIn_of _ (by decide +kernel)) ggL_law_L_stands
set_option maxRecDepth 20000 in
theorem ggL_law_X12_stands : GoodIn wsL_law wsX12_stands := goodIn_r _ [1813, 265, 228, 313, 314, 5, 315, 316, 317, 318, 319, 1877, 1878, 1879, 1880, 1881, 1882, 1883, 1884, 1885, 1886, 1887, 1888, 1889, 1890, 1891, 1892, 1893, 1894, 1895, 1896, 1897, 1898, 1899, 1900, 1901, 1902, 1903, 1904, 1905, 1906, 1907, 1908, 1909, 1910, 1911, 1912, 1913, 1914, 1915, 1916, 1917, 1918, 1919, 1920, 1921, 1922, 1923, 1924, 1925, 1926, 1927, 1928, 1929, 1930, 1931, 1932, 1933, 1934, 1935, 1936, 1937, 1938, 1939, 1940, 1941, 1942, 1943, 1944, 1945, 1946, 1947, 1948, 1949, 1950, 1951, 1952, 1953, 1954, 1955, 1956, 1957, 1958, 1959, 1960, 1961, 1962, 1963, 1964, 1965, 1966, 1967, 1968, 1969, 1970, 1971, 1972, 1973, 1974, 1975, 1976, 1977, 1978, 1979, 1980, 1981, 1982, 1983, 1984, 1985] (by decide +kernel) (by decide +kernel)
set_option maxRecDepth 20000 in
theorem gL_law_X12_stands : GoodIn wsL_law (wsV RL 276 RX12 yX12_stands wsX12_stands) := goodIn_app (goodIn_of _ (by decide +kernel)) ggL_law_X12_stands
set_option maxRecDepth 20000 in
theorem ggL_law_L_worked : GoodIn wsL_law wsL_worked := goodIn_ca (goodIn_r _ [1816, 272, 1817, 1818, 1819, 2, 1820, 40, 1605, 298, 299, 300, 293, 294, 295, 296, 297, 1821, 1822, 1823, 39, 1824, 145, 1663, 1664, 1665, 1666, 1469, 1667, 148, 58, 59, 60, 678, 679, 1866, 1867, 1868, 1869, 1870, 1871, 1872, 1873, 1874, 1875, 1876, 2049, 2050, 2051, 2052, 2053, 2054, 2055, 2056, 2057, 2058, 2059, 2060, 2061, 2062, 2063, 2064, 2065, 2066] (by decide +kernel) (by decide +kernel)) (goodIn_sub (fun _ h => List.mem_append_left _ (List.mem_append_left _ (List.mem_append_right _ h))) (by decide +kernel))
set_option maxRecDepth 20000 in
theorem gL_law_L_worked : GoodIn wsL_law (va_wsS RL 277 yL_worked wsL_worked) := goodIn_app (goodIn_of _ (by decide +kernel)) ggL_law_L_worked
set_option maxRecDepth 20000 in
theorem ggL_law_X12_worked : GoodIn wsL_law wsX12_worked := goodIn_r _ [1828, 265, 1597, 313, 314, 5, 315, 316, 317, 318, 319, 1774, 1775, 1776, 1777, 220, 1456, 221, 1877, 1878, 1879, 1880, 1881, 1882, 1883, 1884, 1885, 1886, 1887, 1888, 1889, 1890, 1891, 1892, 1893, 1894, 1895, 1896, 1897, 1898, 1899, 1900, 1901, 1902, 1903, 1904, 1905, 1906, 1907, 1908, 1909, 1910, 1911, 1912, 1913, 1914, 1915, 1916, 1917, 1918, 1919, 1920, 1921, 1922, 1923, 1924, 1925, 1926, 1927, 1928, 1929, 1930, 1931, 1932, 1933, 1934, 1935, 1936, 1937, 1938, 1939, 1940, 1941, 1942, 1943, 1944, 1945, 1946, 1947, 1948, 1949, 1950, 1951, 1952, 1953, 1954, 1955, 1956, 1957, 1958, 1959, 1960, 1961, 1962, 1963, 1964, 1965, 1966, 1967, 1968, 1969, 1970, 1971, 1972, 1973, 1974, 1975, 1976, 1977, 1978, 1979, 1980, 1981, 1982, 1983, 1984, 1985] (by decide +kernel) (by decide +kernel)
set_option maxRecDepth 20000 in
theorem gL_law_X12_worked : GoodIn wsL_law (wsV RL 279 RX12 yX12_worked wsX12_worked) := goodIn_app (goodIn_of _ (by decide +kernel)) ggL_law_X12_worked
set_option maxRecDepth 20000 in
theorem ggL_law_X11_foretold : GoodIn wsL_law wsX11_foretold := goodIn_r _ [1832, 41, 40, 1833, 1834, 1835, 39, 1836, 1469, 135, 1837, 418, 419, 420, 136, 137, 138, 139, 140, 141, 142, 143, 1592, 144, 145, 1667, 1662, 1838, 1839, 1840, 1841, 1657, 1658, 1659, 1660, 1661, 1663, 1664, 1665, 1666, 148, 58, 59, 60, 1668, 1669, 1670, 1671, 146, 1672, 1673, 1674, 1675, 1676, 1677, 1678, 1679, 1680, 299, 2, 300, 678, 679, 1681, 1682, 1683, 1684, 1685, 1471, 894, 895, 15, 896, 52, 1470, 898, 899, 900, 358, 359, 1634, 1635, 1636, 1637, 1686, 1687, 1688, 1689, 1690, 1691, 1692, 1693, 1694, 1695, 1696, 1697, 1698, 1225, 1226, 1227, 1228, 1204, 1229, 1230, 1231, 1232, 50, 1233, 1234, 1699, 1700, 1701, 1702, 1703, 1704, 1705, 1706, 1707, 1708, 1709, 1710, 1711, 1712, 1713, 1714, 1715, 1716, 1717, 1718, 1719, 1285, 1286, 1287, 56, 1720, 1721, 1722, 1723, 1724, 414, 411, 415, 1725, 410, 412, 1726, 1727, 1728, 1729, 1730, 1731, 1732, 1733, 1734, 1626, 1627, 1628, 1735, 1196, 1197, 1198, 55, 1199, 1736, 1201, 1202, 1203, 1205, 623, 624, 625, 626, 627, 628, 1737, 1465, 1466, 1467, 147, 1468, 1842, 1843, 1844, 1845, 1866, 1867, 1868, 1869, 1870, 1871, 1872, 1873, 1874, 1875, 1876, 2049, 2050, 2051, 2052, 2053, 2054, 2055, 2056, 2057, 2058, 2059, 2060, 2061, 2062, 2063, 2064, 2065, 2066, 2093, 2094, 2095, 2096, 2097, 2098, 2099, 2100, 2101, 2102, 2103, 2104, 2105, 2106, 2107, 1986, 1987, 1988, 1989, 1990, 1991, 1992, 2082, 2083, 2084, 2085, 2086, 2087, 2088, 2089, 2090, 2091, 2092] (by decide +kernel) (by decide +kernel)
set_option maxRecDepth 20000 in
theorem gL_law_X11_foretold : GoodIn wsL_law (wsV RL 280 RX11 yX11_foretold wsX11_foretold) := goodIn_app (goodIn_of _ (by decide +kernel)) ggL_law_X11_foretold
set_option maxRecDepth 20000 in
theorem ggL_law_X12_foretold : GoodIn wsL_law wsX12_foretold := goodIn_r _ [1849, 265, 1456, 1850, 220, 229, 221, 230, 223, 231, 224, 232, 225, 233, 226, 234, 227, 235, 228, 236, 188, 237, 1851, 1852, 5, 1853, 1854, 1855, 1856, 1857, 1742, 1743, 1744, 1745, 1746, 1747, 1748, 1749, 187, 203, 1750, 1751, 1752, 1753, 1646, 1647, 1648, 1649, 184, 1754, 1755, 1756, 1757, 1758, 1759, 1760, 1761, 1239, 1240, 1241, 1242, 185, 186, 1243, 1244, 1245, 1246, 161, 1762, 1763, 1764, 1765, 1766, 1767, 1768, 1769, 222, 219, 202, 189, 1770, 1771, 1772, 1773, 733, 1642, 1643, 1644, 1645, 1774, 1775, 1776, 1777, 1214, 1215, 1216, 844, 845, 846, 1877, 1878, 1879, 1880, 1881, 1882, 1883, 1884, 1885, 1886, 1887, 1888, 1889, 1890, 1891, 1892, 1893, 1894, 1895, 1896, 1897, 1898, 1899, 1900, 1901, 1902, 1903, 1904, 1905, 1906, 1907, 1908, 1909, 1910, 1911, 1912, 1913, 1914, 1915, 1916, 1917, 1918, 1919, 1920, 1921, 1922, 1923, 1924, 1925, 1926, 1927, 1928, 1929, 1930, 1931, 1932, 1933, 1934, 1935, 1936, 1937, 1938, 1939, 1940, 1941, 1942, 1943, 1944, 1945, 1946, 1947, 1948, 1949, 1950, 1951, 1952, 1953, 1954, 1955, 1956, 1957, 1958, 1959, 1960, 1961, 1962, 1963, 1964, 1965, 1966, 1967, 1968, 1969, 1970, 1971, 1972, 1973, 1974, 1975, 1976, 1977, 1978, 1979, 1980, 1981, 1982, 1983, 1984, 1985] (by decide +kernel) (by decide +kernel)
set_option maxRecDepth 20000 in
theorem gL_law_X12_foretold : GoodIn wsL_law (wsV RL 283 RX12 yX12_foretold wsX12_foretold) := goodIn_app (goodIn_of _ (by decide +kernel)) ggL_law_X12_foretold
set_option maxRecDepth 20000 in
theorem ggL_law_X11_count : GoodIn wsL_law wsX11_count := goodIn_r _ [1861, 16, 242, 388, 32, 1380, 40, 1451, 368, 36, 1498, 1866, 1867, 1868, 1869, 1870, 1871, 1872, 1873, 1874, 1875, 1876, 1986, 1987, 1988, 1989, 1990, 1991, 1992, 2039, 2040, 2041, 2042, 2043, 2049, 2050, 2051, 2052, 2053, 2054, 2055, 2056, 2057, 2058, 2059, 2060, 2061, 2062, 2063, 2064, 2065, 2066, 2044, 2045, 2046, 2047, 2048] (by decide +kernel) (by decide +kernel)
set_option maxRecDepth 20000 in
theorem gL_law_X11_count : GoodIn wsL_law (wsV RL 284 RX11 yX11_count wsX11_count) := goodIn_app (goodIn_of _ (by decide +kernel)) ggL_law_X11_count
set_option maxRecDepth 20000 in
theorem ggL_law_X12_count : GoodIn wsL_law wsX12_count := goodIn_r _ [1865, 265, 266, 733, 1375, 1456, 377, 1508, 1877, 1878, 1879, 1880, 1881, 1882, 1883, 1884, 1885, 1886, 1887, 1888, 1889, 1890, 1891, 1892, 1893, 1894, 1895, 1896, 1897, 1898, 1899, 1900, 1901, 1902, 1903, 1904, 1905, 1906, 1907, 1908, 1909, 1910, 1911, 1912, 1913, 1914, 1915, 1916, 1917, 1918, 1919, 1920, 1921, 1922, 1923, 1924, 1925, 1926, 1927, 1928, 1929, 1930, 1931, 1932, 1933, 1934, 1935, 1936, 1937, 1938, 1939, 1940, 1941, 1942, 1943, 1944, 1945, 1946, 1947, 1948, 1949, 1950, 1951, 1952, 1953, 1954, 1955, 1956, 1957, 1958, 1959, 1960, 1961, 1962, 1963, 1964, 1965, 1966, 1967, 1968, 1969, 1970, 1971, 1972, 1973, 1974, 1975, 1976, 1977, 1978, 1979, 1980, 1981, 1982, 1983, 1984, 1985] (by decide +kernel) (by decide +kernel)
set_option maxRecDepth 20000 in
theorem gL_law_X12_count : GoodIn wsL_law (wsV RL 287 RX12 yX12_count wsX12_count) := goodIn_app (goodIn_of _ (by decide +kernel)) ggL_law_X12_count
