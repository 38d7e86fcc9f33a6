def q9i_X12_eased : q9INST := (yX12_eased, cX12_eased, 12, (some .int), (1, 1, 0, 0), (([(0, 0, 0), (0, (-2147483648), 2147483647), (0, (-2147483648), 2147483647), (0, 1, 400), (0, (-2147483648), 2147483647)], [(0, (1, 0)), (1, (2, 0)), (2, (3, 0)), (3, (4, 0))], [], [(1, 0), (2, 0), (3, 0), (4, 0)], [], [], [], [], 0, 0), [(5, 0, (0, 0)), (0, 0, (0, 0)), (0, 1, (0, 0)), (0, 2, (0, 0)), (0, 3, (0, 0))]), [(([(0, 0, 0), (0, (-2147483648), 2147483647), (0, (-2147483648), 2147483647), (0, 1, 400), (0, (-2147483648), 2147483647), (0, (-2147483648), 2147483647)], [], [(5, 0)], [(1, 0), (2, 0), (3, 0), (4, 0)], [], [], [], [], 0, 0), [(5, 0, (0, 0)), (2, 0, (0, 0)), (2, 1, (0, 0)), (2, 2, (0, 0)), (2, 3, (0, 0)), (1, 0, (0, 0))])], [], [], [])
def q9e_X12_eased : q9EN := (q9TBL, q9fs_X12, q9ps_X12, [], [], [], (1, 1, 0, 0), 12, [], [], [])
set_option maxRecDepth 100000 in
set_option maxHeartbeats 4000000 in
def q9cu_X12_eased_0 : q9CUT := (7, ([(0, 0, 0), (0, (-2147483648), 2147483647), (0, (-2147483648), 2147483647), (0, 1, 400), (0, (-2147483648), 2147483647), (1, 1, 160000)], [(0, (1, 0)), (1, (2, 0)), (2, (3, 0)), (3, (4, 0)), (4, (5, 0))], [], [(1, 0), (2, 0), (3, 0), (4, 0)], [], [], [], [], 0, 0), [(5, 0, (0, 0)), (0, 0, (0, 0)), (0, 1, (0, 0)), (0, 2, (0, 0)), (0, 3, (0, 0)), (0, 4, (0, 0))], [(0, 0, 99993)])
set_option maxRecDepth 100000 in
set_option maxHeartbeats 4000000 in
def q9cu_X12_eased_1 : q9CUT := (19, ([(0, 0, 0), (0, (-2147483648), 2147483647), (0, (-2147483648), 2147483647), (0, 1, 400), (0, (-2147483648), 2147483647), (1, 1, 160000)], [(0, (1, 0)), (1, (2, 0)), (2, (3, 0)), (3, (4, 0)), (4, (5, 0))], [], [(1, 0), (2, 0), (3, 0), (4, 0)], [], [], [], [], 0, 0), [(5, 0, (0, 0)), (0, 0, (0, 0)), (0, 1, (0, 0)), (0, 2, (0, 0)), (0, 3, (0, 0)), (0, 4, (0, 0))], [(0, 0, 99981)])
set_option maxRecDepth 100000 in
set_option maxHeartbeats 4000000 in
def q9cu_X12_eased_2 : q9CUT := (32, ([(0, 0, 0), (0, (-2147483648), 2147483647), (0, (-2147483648), 2147483647), (0, 1, 400), (0, (-2147483648), 2147483647), (1, 1, 160000)], [(0, (1, 0)), (1, (2, 0)), (2, (3, 0)), (3, (4, 0)), (4, (5, 0))], [], [(1, 0), (2, 0), (3, 0), (4, 0)], [], [], [], [], 0, 0), [(5, 0, (0, 0)), (0, 0, (0, 0)), (0, 1, (0, 0)), (0, 2, (0, 0)), (0, 3, (0, 0)), (0, 4, (0, 0))], [(0, 0, 99968)])
set_option maxRecDepth 100000 in
set_option maxHeartbeats 4000000 in
def q9cu_X12_eased_3 : q9CUT := (37, ([(0, 0, 0), (0, (-2147483648), 2147483647), (0, (-2147483648), 2147483647), (0, 1, 400), (1, 1, 160000), (0, 2, 2)], [(0, (1, 0)), (1, (2, 0)), (2, (3, 0)), (4, (4, 0))], [], [(1, 0), (2, 0), (3, 0), (5, 0)], [], [], [], [], 0, 0), [(5, 0, (0, 0)), (0, 0, (0, 0)), (0, 1, (0, 0)), (0, 2, (0, 0)), (0, 4, (0, 0)), (2, 3, (0, 0))], [(0, 0, 99963)])
set_option maxRecDepth 100000 in
set_option maxHeartbeats 4000000 in
def q9cu_X12_eased_4 : q9CUT := (46, ([(0, 0, 0), (0, (-2147483648), 2147483647), (0, (-2147483648), 2147483647), (1, 1, 160000), (1, (-1717986918400), 1717986918400), (0, 1, 400), (0, 2, 2)], [(0, (1, 0)), (1, (2, 0)), (4, (3, 0))], [(4, 0)], [(1, 0), (2, 0), (5, 0), (6, 0)], [], [], [], [], 0, 0), [(5, 0, (0, 0)), (0, 0, (0, 0)), (0, 1, (0, 0)), (0, 4, (0, 0)), (1, 0, (0, 0)), (2, 2, (0, 0)), (2, 3, (0, 0))], [(0, 0, 99954)])
set_option maxRecDepth 100000 in
set_option maxHeartbeats 4000000 in
def q9cu_X12_eased_5 : q9CUT := (51, ([(0, 0, 0), (0, (-2147483648), 2147483647), (1, 1, 160000), (1, (-4611686018427387904), 4611686018427387904), (1, (-1717986918400), 1717986918400), (0, (-2147483648), 2147483647), (0, 1, 400), (0, 2, 2)], [(0, (1, 0)), (4, (2, 0))], [(3, 0), (4, 0)], [(1, 0), (5, 0), (6, 0), (7, 0)], [], [], [], [], 0, 0), [(5, 0, (0, 0)), (0, 0, (0, 0)), (0, 4, (0, 0)), (1, 0, (0, 0)), (1, 1, (0, 0)), (2, 1, (0, 0)), (2, 2, (0, 0)), (2, 3, (0, 0))], [(0, 0, 99949)])
set_option maxRecDepth 100000 in
set_option maxHeartbeats 4000000 in
def q9cu_X12_eased_6 : q9CUT := (55, ([(0, 0, 0), (0, (-2147483648), 2147483647), (0, (-2147483648), 2147483647), (0, 1, 400), (1, 1, 160000), (0, (-2147483648), 2147483647)], [(0, (1, 0)), (1, (2, 0)), (2, (3, 0)), (4, (4, 0))], [], [(1, 0), (2, 0), (3, 0), (5, 0)], [], [], [], [], 0, 0), [(5, 0, (0, 0)), (0, 0, (0, 0)), (0, 1, (0, 0)), (0, 2, (0, 0)), (0, 4, (0, 0)), (2, 3, (0, 0))], [(0, 0, 99945)])
set_option maxRecDepth 100000 in
set_option maxHeartbeats 4000000 in
def q9cu_X12_eased_7 : q9CUT := (62, ([(0, 0, 0), (0, (-2147483648), 2147483647), (0, (-2147483648), 2147483647), (1, 1, 160000), (0, 1, 400), (0, (-2147483648), 2147483647)], [(0, (1, 0)), (1, (2, 0)), (4, (3, 0))], [], [(1, 0), (2, 0), (4, 0), (5, 0)], [], [], [], [], 0, 0), [(5, 0, (0, 0)), (0, 0, (0, 0)), (0, 1, (0, 0)), (0, 4, (0, 0)), (2, 2, (0, 0)), (2, 3, (0, 0))], [(0, 0, 99938)])
set_option maxRecDepth 100000 in
set_option maxHeartbeats 4000000 in
def q9cu_X12_eased_8 : q9CUT := (69, ([(0, 0, 0), (0, (-2147483648), 2147483647), (1, 1, 160000), (0, (-2147483648), 2147483647), (1, (-4294967296), 4294967296), (0, 1, 400), (0, (-2147483648), 2147483647)], [(0, (1, 0)), (4, (2, 0))], [(3, 0), (4, 0)], [(1, 0), (3, 0), (5, 0), (6, 0)], [], [], [], [], 0, 0), [(5, 0, (0, 0)), (0, 0, (0, 0)), (0, 4, (0, 0)), (1, 0, (0, 0)), (1, 1, (0, 0)), (2, 2, (0, 0)), (2, 3, (0, 0))], [(0, 0, 99931)])
set_option maxRecDepth 100000 in
set_option maxHeartbeats 4000000 in
def q9cu_X12_eased_9 : q9CUT := (74, ([(0, 0, 0), (0, (-2147483648), 2147483647), (0, (-2147483648), 2147483647), (0, 1, 400), (1, 1, 160000), (0, (-2147483648), 2147483647)], [(0, (1, 0)), (1, (2, 0)), (2, (3, 0)), (4, (4, 0))], [], [(1, 0), (2, 0), (3, 0), (5, 0)], [], [], [], [], 0, 0), [(5, 0, (0, 0)), (0, 0, (0, 0)), (0, 1, (0, 0)), (0, 2, (0, 0)), (0, 4, (0, 0)), (2, 3, (0, 0))], [(0, 0, 99926)])
set_option maxRecDepth 100000 in
set_option maxHeartbeats 4000000 in
def q9cu_X12_eased_10 : q9CUT := (83, ([(0, 0, 0), (0, (-2147483648), 2147483647), (0, (-2147483648), 2147483647), (0, 1, 400), (1, 1, 160000), (1, (-2147483648), 2147483647), (1, 2, 2), (0, (-2147483648), 2147483647)], [(0, (1, 0)), (1, (2, 0)), (2, (3, 0)), (4, (4, 0))], [(5, 0), (6, 0), (4, 0)], [(1, 0), (2, 0), (3, 0), (7, 0)], [], [], [], [], 0, 0), [(5, 0, (0, 0)), (0, 0, (0, 0)), (0, 1, (0, 0)), (0, 2, (0, 0)), (0, 4, (0, 0)), (1, 0, (0, 0)), (1, 1, (0, 0)), (2, 3, (0, 0))], [(0, 0, 99917)])
set_option maxRecDepth 100000 in
set_option maxHeartbeats 4000000 in
def q9cu_X12_eased_11 : q9CUT := (89, ([(0, 0, 0), (0, (-2147483648), 2147483647), (1, 1, 160000), (1, (-9223372036854775808), 9223372036854775807), (0, (-2147483648), 2147483647), (0, 1, 400), (0, (-2147483648), 2147483647)], [(0, (1, 0)), (4, (2, 0))], [(3, 0), (2, 0)], [(1, 0), (4, 0), (5, 0), (6, 0)], [], [], [], [], 0, 0), [(5, 0, (0, 0)), (0, 0, (0, 0)), (0, 4, (0, 0)), (1, 0, (0, 0)), (2, 1, (0, 0)), (2, 2, (0, 0)), (2, 3, (0, 0))], [(0, 0, 99911)])
set_option maxRecDepth 100000 in
set_option maxHeartbeats 4000000 in
def q9cu_X12_eased_12 : q9CUT := (90, ([(0, 0, 0), (0, (-2147483648), 2147483647), (1, 1, 160000), (1, (-9223372036854775808), 9223372036854775807), (0, (-2147483648), 2147483647), (0, 1, 400), (0, (-2147483648), 2147483647)], [(0, (1, 0)), (4, (2, 0))], [(3, 0)], [(1, 0), (4, 0), (5, 0), (6, 0)], [], [], [], [], 0, 0), [(5, 0, (0, 0)), (0, 0, (0, 0)), (0, 4, (0, 0)), (1, 0, (0, 0)), (2, 1, (0, 0)), (2, 2, (0, 0)), (2, 3, (0, 0))], [(0, 0, 99910)])
set_option maxRecDepth 100000 in
set_option maxHeartbeats 4000000 in
def q9cu_X12_eased_13 : q9CUT := (92, ([(0, 0, 0), (0, (-2147483648), 2147483647), (1, 1, 160000), (1, (-9223372036854775808), 9223372036854775807), (0, (-2147483648), 2147483647), (0, 1, 400), (0, (-2147483648), 2147483647)], [(0, (1, 0)), (4, (2, 0)), (6, (3, 0))], [], [(1, 0), (4, 0), (5, 0), (6, 0)], [], [], [], [], 0, 0), [(5, 0, (0, 0)), (0, 0, (0, 0)), (0, 4, (0, 0)), (0, 6, (0, 0)), (2, 1, (0, 0)), (2, 2, (0, 0)), (2, 3, (0, 0))], [(0, 0, 99908)])
set_option maxRecDepth 100000 in
set_option maxHeartbeats 4000000 in
def q9cu_X12_eased_14 : q9CUT := (97, ([(0, 0, 0), (1, 1, 160000), (1, (-9223372036854775808), 9223372036854775807), (0, (-2147483648), 2147483647), (0, (-2147483648), 2147483647), (0, 1, 400), (0, (-2147483648), 2147483647)], [(4, (1, 0))], [(2, 0)], [(3, 0), (4, 0), (5, 0), (6, 0)], [], [], [], [], 0, 0), [(5, 0, (0, 0)), (0, 4, (0, 0)), (1, 0, (0, 0)), (2, 0, (0, 0)), (2, 1, (0, 0)), (2, 2, (0, 0)), (2, 3, (0, 0))], [(0, 0, 99903)])
set_option maxRecDepth 100000 in
set_option maxHeartbeats 4000000 in
def q9cu_X12_eased_15 : q9CUT := (99, ([(0, 0, 0), (1, 1, 160000), (1, (-9223372036854775808), 9223372036854775807), (0, (-2147483648), 2147483647), (0, (-2147483648), 2147483647), (0, 1, 400), (0, (-2147483648), 2147483647)], [(4, (1, 0)), (8, (2, 0))], [], [(3, 0), (4, 0), (5, 0), (6, 0)], [], [], [], [], 0, 0), [(5, 0, (0, 0)), (0, 4, (0, 0)), (0, 8, (0, 0)), (2, 0, (0, 0)), (2, 1, (0, 0)), (2, 2, (0, 0)), (2, 3, (0, 0))], [(0, 0, 99901)])
set_option maxRecDepth 100000 in
set_option maxHeartbeats 4000000 in
def q9cu_X12_eased_16 : q9CUT := (104, ([(0, 0, 0), (1, 1, 160000), (1, (-9223372036854775808), 9223372036854775807), (1, (-9223372036854775808), 9223372036854775807), (0, (-2147483648), 2147483647), (0, (-2147483648), 2147483647), (0, 1, 400), (0, (-2147483648), 2147483647)], [(4, (1, 0)), (8, (2, 0))], [(3, 0)], [(4, 0), (5, 0), (6, 0), (7, 0)], [], [], [], [], 0, 0), [(5, 0, (0, 0)), (0, 4, (0, 0)), (0, 8, (0, 0)), (1, 0, (0, 0)), (2, 0, (0, 0)), (2, 1, (0, 0)), (2, 2, (0, 0)), (2, 3, (0, 0))], [(0, 0, 99896)])
set_option maxRecDepth 100000 in
set_option maxHeartbeats 4000000 in
def q9cu_X12_eased_17 : q9CUT := (106, ([(0, 0, 0), (1, 1, 160000), (1, (-9223372036854775808), 9223372036854775807), (1, (-9223372036854775808), 9223372036854775807), (0, (-2147483648), 2147483647), (0, (-2147483648), 2147483647), (0, 1, 400), (0, (-2147483648), 2147483647)], [(4, (1, 0)), (8, (2, 0)), (10, (3, 0))], [], [(4, 0), (5, 0), (6, 0), (7, 0)], [], [], [], [], 0, 0), [(5, 0, (0, 0)), (0, 4, (0, 0)), (0, 8, (0, 0)), (0, 10, (0, 0)), (2, 0, (0, 0)), (2, 1, (0, 0)), (2, 2, (0, 0)), (2, 3, (0, 0))], [(0, 0, 99894)])
set_option maxRecDepth 100000 in
set_option maxHeartbeats 4000000 in
def q9cu_X12_eased_18 : q9CUT := (111, ([(0, 0, 0), (1, (-9223372036854775808), 9223372036854775807), (1, (-9223372036854775808), 9223372036854775807), (1, (-9223372036854775808), 9223372036854775807), (0, (-2147483648), 2147483647), (0, (-2147483648), 2147483647), (0, 1, 400), (0, (-2147483648), 2147483647)], [(8, (1, 0)), (10, (2, 0))], [(3, 0)], [(4, 0), (5, 0), (6, 0), (7, 0)], [], [], [], [], 0, 0), [(5, 0, (0, 0)), (0, 8, (0, 0)), (0, 10, (0, 0)), (1, 0, (0, 0)), (2, 0, (0, 0)), (2, 1, (0, 0)), (2, 2, (0, 0)), (2, 3, (0, 0))], [(0, 0, 99889)])
set_option maxRecDepth 100000 in
set_option maxHeartbeats 4000000 in
def q9cu_X12_eased_19 : q9CUT := (114, ([(0, 0, 0), (1, (-9223372036854775808), 9223372036854775807), (0, (-1), 1), (0, (-2147483648), 2147483647), (0, (-2147483648), 2147483647), (0, 1, 400), (0, (-2147483648), 2147483647)], [(10, (1, 0))], [(2, 0)], [(3, 0), (4, 0), (5, 0), (6, 0)], [], [], [], [], 0, 0), [(5, 0, (0, 0)), (0, 10, (0, 0)), (1, 0, (0, 0)), (2, 0, (0, 0)), (2, 1, (0, 0)), (2, 2, (0, 0)), (2, 3, (0, 0))], [(0, 0, 99886)])
set_option maxRecDepth 100000 in
set_option maxHeartbeats 4000000 in
def q9cu_X12_eased_20 : q9CUT := (124, ([(0, 0, 0), (1, (-9223372036854775808), 9223372036854775807), (0, (-2147483648), 2147483647), (0, (-2147483648), 2147483647), (0, 1, 400), (0, (-2147483648), 2147483647)], [(10, (1, 0))], [], [(2, 0), (3, 0), (4, 0), (5, 0)], [], [], [], [], 0, 0), [(5, 0, (0, 0)), (0, 10, (0, 0)), (2, 0, (0, 0)), (2, 1, (0, 0)), (2, 2, (0, 0)), (2, 3, (0, 0))], [(0, 0, 99876)])
def q9cu_X12_eased : List q9CUT := [q9cu_X12_eased_0, q9cu_X12_eased_1, q9cu_X12_eased_2, q9cu_X12_eased_3, q9cu_X12_eased_4, q9cu_X12_eased_5, q9cu_X12_eased_6, q9cu_X12_eased_7, q9cu_X12_eased_8, q9cu_X12_eased_9, q9cu_X12_eased_10, q9cu_X12_eased_11, q9cu_X12_eased_12, q9cu_X12_eased_13, q9cu_X12_eased_14, q9cu_X12_eased_15, q9cu_X12_eased_16, q9cu_X12_eased_17, q9cu_X12_eased_18, q9cu_X12_eased_19, q9cu_X12_eased_20]
set_option maxRecDepth 100000 in
set_option maxHeartbeats 4000000 in
def q9mac_X12_eased : Nat → q9ST → Option (List (Nat × q9ST)) := fun _ _ => none
set_option maxRecDepth 100000 in
set_option maxHeartbeats 4000000 in
theorem q9hp_X12_eased : q9chk (q9step q9e_X12_eased [] [(396, 2)] q9mac_X12_eased (q9rtB q9i_X12_eased) (q9iC q9i_X12_eased)) q9cu_X12_eased none 12 0 (q9iPre q9i_X12_eased) = true := by decide +kernel
set_option maxRecDepth 100000 in
set_option maxHeartbeats 4000000 in
theorem q9hr_X12_eased_0 : q9chk (q9step q9e_X12_eased [] [(396, 2)] q9mac_X12_eased (q9rtB q9i_X12_eased) (q9iC q9i_X12_eased)) q9cu_X12_eased (some q9cu_X12_eased_0.2.2.2) 12 q9cu_X12_eased_0.1 q9cu_X12_eased_0.2.1 = true := by decide +kernel
set_option maxRecDepth 100000 in
set_option maxHeartbeats 4000000 in
theorem q9hp_X12_eased_0 : (q9chk (q9step q9e_X12_eased [] [(396, 2)] q9mac_X12_eased (q9rtB q9i_X12_eased) (q9iC q9i_X12_eased)) q9cu_X12_eased (some q9cu_X12_eased_0.2.2.2) 12 q9cu_X12_eased_0.1 q9cu_X12_eased_0.2.1 && q9cu_X12_eased_0.2.2.2.all (fun q => decide (q.1 = 0) || decide (q.2.1 < (q9tE q9cu_X12_eased_0.2.1).length))) = true := by
  rw [q9hr_X12_eased_0, Bool.true_and]
  decide +kernel
set_option maxRecDepth 100000 in
set_option maxHeartbeats 4000000 in
theorem q9hr_X12_eased_1 : q9chk (q9step q9e_X12_eased [] [(396, 2)] q9mac_X12_eased (q9rtB q9i_X12_eased) (q9iC q9i_X12_eased)) q9cu_X12_eased (some q9cu_X12_eased_1.2.2.2) 12 q9cu_X12_eased_1.1 q9cu_X12_eased_1.2.1 = true := by decide +kernel
set_option maxRecDepth 100000 in
set_option maxHeartbeats 4000000 in
theorem q9hp_X12_eased_1 : (q9chk (q9step q9e_X12_eased [] [(396, 2)] q9mac_X12_eased (q9rtB q9i_X12_eased) (q9iC q9i_X12_eased)) q9cu_X12_eased (some q9cu_X12_eased_1.2.2.2) 12 q9cu_X12_eased_1.1 q9cu_X12_eased_1.2.1 && q9cu_X12_eased_1.2.2.2.all (fun q => decide (q.1 = 0) || decide (q.2.1 < (q9tE q9cu_X12_eased_1.2.1).length))) = true := by
  rw [q9hr_X12_eased_1, Bool.true_and]
  decide +kernel
set_option maxRecDepth 100000 in
set_option maxHeartbeats 4000000 in
theorem q9hr_X12_eased_2 : q9chk (q9step q9e_X12_eased [] [(396, 2)] q9mac_X12_eased (q9rtB q9i_X12_eased) (q9iC q9i_X12_eased)) q9cu_X12_eased (some q9cu_X12_eased_2.2.2.2) 12 q9cu_X12_eased_2.1 q9cu_X12_eased_2.2.1 = true := by decide +kernel
set_option maxRecDepth 100000 in
set_option maxHeartbeats 4000000 in
theorem q9hp_X12_eased_2 : (q9chk (q9step q9e_X12_eased [] [(396, 2)] q9mac_X12_eased (q9rtB q9i_X12_eased) (q9iC q9i_X12_eased)) q9cu_X12_eased (some q9cu_X12_eased_2.2.2.2) 12 q9cu_X12_eased_2.1 q9cu_X12_eased_2.2.1 && q9cu_X12_eased_2.2.2.2.all (fun q => decide (q.1 = 0) || decide (q.2.1 < (q9tE q9cu_X12_eased_2.2.1).length))) = true := by
  rw [q9hr_X12_eased_2, Bool.true_and]
  decide +kernel
set_option maxRecDepth 100000 in
set_option maxHeartbeats 4000000 in
theorem q9hr_X12_eased_3 : q9chk (q9step q9e_X12_eased [] [(396, 2)] q9mac_X12_eased (q9rtB q9i_X12_eased) (q9iC q9i_X12_eased)) q9cu_X12_eased (some q9cu_X12_eased_3.2.2.2) 12 q9cu_X12_eased_3.1 q9cu_X12_eased_3.2.1 = true := by decide +kernel
set_option maxRecDepth 100000 in
set_option maxHeartbeats 4000000 in
theorem q9hp_X12_eased_3 : (q9chk (q9step q9e_X12_eased [] [(396, 2)] q9mac_X12_eased (q9rtB q9i_X12_eased) (q9iC q9i_X12_eased)) q9cu_X12_eased (some q9cu_X12_eased_3.2.2.2) 12 q9cu_X12_eased_3.1 q9cu_X12_eased_3.2.1 && q9cu_X12_eased_3.2.2.2.all (fun q => decide (q.1 = 0) || decide (q.2.1 < (q9tE q9cu_X12_eased_3.2.1).length))) = true := by
  rw [q9hr_X12_eased_3, Bool.true_and]
  decide +kernel
set_option maxRecDepth 100000 in
set_option maxHeartbeats 4000000 in
theorem q9hr_X12_eased_4 : q9chk (q9step q9e_X12_eased [] [(396, 2)] q9mac_X12_eased (q9rtB q9i_X12_eased) (q9iC q9i_X12_eased)) q9cu_X12_eased (some q9cu_X12_eased_4.2.2.2) 12 q9cu_X12_eased_4.1 q9cu_X12_eased_4.2.1 = true := by decide +kernel
set_option maxRecDepth 100000 in
set_option maxHeartbeats 4000000 in
theorem q9hp_X12_eased_4 : (q9chk (q9step q9e_X12_eased [] [(396, 2)] q9mac_X12_eased (q9rtB q9i_X12_eased) (q9iC q9i_X12_eased)) q9cu_X12_eased (some q9cu_X12_eased_4.2.2.2) 12 q9cu_X12_eased_4.1 q9cu_X12_eased_4.2.1 && q9cu_X12_eased_4.2.2.2.all (fun q => decide (q.1 = 0) || decide (q.2.1 < (q9tE q9cu_X12_eased_4.2.1).length))) = true := by
  rw [q9hr_X12_eased_4, Bool.true_and]
  decide +kernel
set_option maxRecDepth 100000 in
set_option maxHeartbeats 4000000 in
theorem q9hr_X12_eased_5 : q9chk (q9step q9e_X12_eased [] [(396, 2)] q9mac_X12_eased (q9rtB q9i_X12_eased) (q9iC q9i_X12_eased)) q9cu_X12_eased (some q9cu_X12_eased_5.2.2.2) 12 q9cu_X12_eased_5.1 q9cu_X12_eased_5.2.1 = true := by decide +kernel
set_option maxRecDepth 100000 in
set_option maxHeartbeats 4000000 in
theorem q9hp_X12_eased_5 : (q9chk (q9step q9e_X12_eased [] [(396, 2)] q9mac_X12_eased (q9rtB q9i_X12_eased) (q9iC q9i_X12_eased)) q9cu_X12_eased (some q9cu_X12_eased_5.2.2.2) 12 q9cu_X12_eased_5.1 q9cu_X12_eased_5.2.1 && q9cu_X12_eased_5.2.2.2.all (fun q => decide (q.1 = 0) || decide (q.2.1 < (q9tE q9cu_X12_eased_5.2.1).length))) = true := by
  rw [q9hr_X12_eased_5, Bool.true_and]
  decide +kernel
set_option maxRecDepth 100000 in
set_option maxHeartbeats 4000000 in
theorem q9hr_X12_eased_6 : q9chk (q9step q9e_X12_eased [] [(396, 2)] q9mac_X12_eased (q9rtB q9i_X12_eased) (q9iC q9i_X12_eased)) q9cu_X12_eased (some q9cu_X12_eased_6.2.2.2) 12 q9cu_X12_eased_6.1 q9cu_X12_eased_6.2.1 = true := by decide +kernel
set_option maxRecDepth 100000 in
set_option maxHeartbeats 4000000 in
theorem q9hp_X12_eased_6 : (q9chk (q9step q9e_X12_eased [] [(396, 2)] q9mac_X12_eased (q9rtB q9i_X12_eased) (q9iC q9i_X12_eased)) q9cu_X12_eased (some q9cu_X12_eased_6.2.2.2) 12 q9cu_X12_eased_6.1 q9cu_X12_eased_6.2.1 && q9cu_X12_eased_6.2.2.2.all (fun q => decide (q.1 = 0) || decide (q.2.1 < (q9tE q9cu_X12_eased_6.2.1).length))) = true := by
  rw [q9hr_X12_eased_6, Bool.true_and]
  decide +kernel
set_option maxRecDepth 100000 in
set_option maxHeartbeats 4000000 in
theorem q9hr_X12_eased_7 : q9chk (q9step q9e_X12_eased [] [(396, 2)] q9mac_X12_eased (q9rtB q9i_X12_eased) (q9iC q9i_X12_eased)) q9cu_X12_eased (some q9cu_X12_eased_7.2.2.2) 12 q9cu_X12_eased_7.1 q9cu_X12_eased_7.2.1 = true := by decide +kernel
set_option maxRecDepth 100000 in
set_option maxHeartbeats 4000000 in
theorem q9hp_X12_eased_7 : (q9chk (q9step q9e_X12_eased [] [(396, 2)] q9mac_X12_eased (q9rtB q9i_X12_eased) (q9iC q9i_X12_eased)) q9cu_X12_eased (some q9cu_X12_eased_7.2.2.2) 12 q9cu_X12_eased_7.1 q9cu_X12_eased_7.2.1 && q9cu_X12_eased_7.2.2.2.all (fun q => decide (q.1 = 0) || decide (q.2.1 < (q9tE q9cu_X12_eased_7.2.1).length))) = true := by
  rw [q9hr_X12_eased_7, Bool.true_and]
  decide +kernel
set_option maxRecDepth 100000 in
set_option maxHeartbeats 4000000 in
theorem q9hr_X12_eased_8 : q9chk (q9step q9e_X12_eased [] [(396, 2)] q9mac_X12_eased (q9rtB q9i_X12_eased) (q9iC q9i_X12_eased)) q9cu_X12_eased (some q9cu_X12_eased_8.2.2.2) 12 q9cu_X12_eased_8.1 q9cu_X12_eased_8.2.1 = true := by decide +kernel
set_option maxRecDepth 100000 in
set_option maxHeartbeats 4000000 in
theorem q9hp_X12_eased_8 : (q9chk (q9step q9e_X12_eased [] [(396, 2)] q9mac_X12_eased (q9rtB q9i_X12_eased) (q9iC q9i_X12_eased)) q9cu_X12_eased (some q9cu_X12_eased_8.2.2.2) 12 q9cu_X12_eased_8.1 q9cu_X12_eased_8.2.1 && q9cu_X12_eased_8.2.2.2.all (fun q => decide (q.1 = 0) || decide (q.2.1 < (q9tE q9cu_X12_eased_8.2.1).length))) = true := by
  rw [q9hr_X12_eased_8, Bool.true_and]
  decide +kernel
set_option maxRecDepth 100000 in
set_option maxHeartbeats 4000000 in
theorem q9hr_X12_eased_9 : q9chk (q9step q9e_X12_eased [] [(396, 2)] q9mac_X12_eased (q9rtB q9i_X12_eased) (q9iC q9i_X12_eased)) q9cu_X12_eased (some q9cu_X12_eased_9.2.2.2) 12 q9cu_X12_eased_9.1 q9cu_X12_eased_9.2.1 = true := by decide +kernel
set_option maxRecDepth 100000 in
set_option maxHeartbeats 4000000 in
theorem q9hp_X12_eased_9 : (q9chk (q9step q9e_X12_eased [] [(396, 2)] q9mac_X12_eased (q9rtB q9i_X12_eased) (q9iC q9i_X12_eased)) q9cu_X12_eased (some q9cu_X12_eased_9.2.2.2) 12 q9cu_X12_eased_9.1 q9cu_X12_eased_9.2.1 && q9cu_X12_eased_9.2.2.2.all (fun q => decide (q.1 = 0) || decide (q.2.1 < (q9tE q9cu_X12_eased_9.2.1).length))) = true := by
  rw [q9hr_X12_eased_9, Bool.true_and]
  decide +kernel
set_option maxRecDepth 100000 in
set_option maxHeartbeats 4000000 in
theorem q9hr_X12_eased_10 : q9chk (q9step q9e_X12_eased [] [(396, 2)] q9mac_X12_eased (q9rtB q9i_X12_eased) (q9iC q9i_X12_eased)) q9cu_X12_eased (some q9cu_X12_eased_10.2.2.2) 12 q9cu_X12_eased_10.1 q9cu_X12_eased_10.2.1 = true := by decide +kernel
set_option maxRecDepth 100000 in
set_option maxHeartbeats 4000000 in
theorem q9hp_X12_eased_10 : (q9chk (q9step q9e_X12_eased [] [(396, 2)] q9mac_X12_eased (q9rtB q9i_X12_eased) (q9iC q9i_X12_eased)) q9cu_X12_eased (some q9cu_X12_eased_10.2.2.2) 12 q9cu_X12_eased_10.1 q9cu_X12_eased_10.2.1 && q9cu_X12_eased_10.2.2.2.all (fun q => decide (q.1 = 0) || decide (q.2.1 < (q9tE q9cu_X12_eased_10.2.1).length))) = true := by
  rw [q9hr_X12_eased_10, Bool.true_and]
  decide +kernel
set_option maxRecDepth 100000 in
set_option maxHeartbeats 4000000 in
theorem q9hr_X12_eased_11 : q9chk (q9step q9e_X12_eased [] [(396, 2)] q9mac_X12_eased (q9rtB q9i_X12_eased) (q9iC q9i_X12_eased)) q9cu_X12_eased (some q9cu_X12_eased_11.2.2.2) 12 q9cu_X12_eased_11.1 q9cu_X12_eased_11.2.1 = true := by decide +kernel
set_option maxRecDepth 100000 in
set_option maxHeartbeats 4000000 in
theorem q9hp_X12_eased_11 : (q9chk (q9step q9e_X12_eased [] [(396, 2)] q9mac_X12_eased (q9rtB q9i_X12_eased) (q9iC q9i_X12_eased)) q9cu_X12_eased (some q9cu_X12_eased_11.2.2.2) 12 q9cu_X12_eased_11.1 q9cu_X12_eased_11.2.1 && q9cu_X12_eased_11.2.2.2.all (fun q => decide (q.1 = 0) || decide (q.2.1 < (q9tE q9cu_X12_eased_11.2.1).length))) = true := by
  rw [q9hr_X12_eased_11, Bool.true_and]
  decide +kernel
set_option maxRecDepth 100000 in
set_option maxHeartbeats 4000000 in
theorem q9hr_X12_eased_12 : q9chk (q9step q9e_X12_eased [] [(396, 2)] q9mac_X12_eased (q9rtB q9i_X12_eased) (q9iC q9i_X12_eased)) q9cu_X12_eased (some q9cu_X12_eased_12.2.2.2) 12 q9cu_X12_eased_12.1 q9cu_X12_eased_12.2.1 = true := by decide +kernel
set_option maxRecDepth 100000 in
set_option maxHeartbeats 4000000 in
theorem q9hp_X12_eased_12 : (q9chk (q9step q9e_X12_eased [] [(396, 2)] q9mac_X12_eased (q9rtB q9i_X12_eased) (q9iC q9i_X12_eased)) q9cu_X12_eased (some q9cu_X12_eased_12.2.2.2) 12 q9cu_X12_eased_12.1 q9cu_X12_eased_12.2.1 && q9cu_X12_eased_12.2.2.2.all (fun q => decide (q.1 = 0) || decide (q.2.1 < (q9tE q9cu_X12_eased_12.2.1).length))) = true := by
  rw [q9hr_X12_eased_12, Bool.true_and]
  decide +kernel
set_option maxRecDepth 100000 in
set_option maxHeartbeats 4000000 in
theorem q9hr_X12_eased_13 : q9chk (q9step q9e_X12_eased [] [(396, 2)] q9mac_X12_eased (q9rtB q9i_X12_eased) (q9iC q9i_X12_eased)) q9cu_X12_eased (some q9cu_X12_eased_13.2.2.2) 12 q9cu_X12_eased_13.1 q9cu_X12_eased_13.2.1 = true := by decide +kernel
set_option maxRecDepth 100000 in
set_option maxHeartbeats 4000000 in
theorem q9hp_X12_eased_13 : (q9chk (q9step q9e_X12_eased [] [(396, 2)] q9mac_X12_eased (q9rtB q9i_X12_eased) (q9iC q9i_X12_eased)) q9cu_X12_eased (some q9cu_X12_eased_13.2.2.2) 12 q9cu_X12_eased_13.1 q9cu_X12_eased_13.2.1 && q9cu_X12_eased_13.2.2.2.all (fun q => decide (q.1 = 0) || decide (q.2.1 < (q9tE q9cu_X12_eased_13.2.1).length))) = true := by
  rw [q9hr_X12_eased_13, Bool.true_and]
  decide +kernel
set_option maxRecDepth 100000 in
set_option maxHeartbeats 4000000 in
theorem q9hr_X12_eased_14 : q9chk (q9step q9e_X12_eased [] [(396, 2)] q9mac_X12_eased (q9rtB q9i_X12_eased) (q9iC q9i_X12_eased)) q9cu_X12_eased (some q9cu_X12_eased_14.2.2.2) 12 q9cu_X12_eased_14.1 q9cu_X12_eased_14.2.1 = true := by decide +kernel
set_option maxRecDepth 100000 in
set_option maxHeartbeats 4000000 in
theorem q9hp_X12_eased_14 : (q9chk (q9step q9e_X12_eased [] [(396, 2)] q9mac_X12_eased (q9rtB q9i_X12_eased) (q9iC q9i_X12_eased)) q9cu_X12_eased (some q9cu_X12_eased_14.2.2.2) 12 q9cu_X12_eased_14.1 q9cu_X12_eased_14.2.1 && q9cu_X12_eased_14.2.2.2.all (fun q => decide (q.1 = 0) || decide (q.2.1 < (q9tE q9cu_X12_eased_14.2.1).length))) = true := by
  rw [q9hr_X12_eased_14, Bool.true_and]
  decide +kernel
set_option maxRecDepth 100000 in
set_option maxHeartbeats 4000000 in
theorem q9hr_X12_eased_15 : q9chk (q9step q9e_X12_eased [] [(396, 2)] q9mac_X12_eased (q9rtB q9i_X12_eased) (q9iC q9i_X12_eased)) q9cu_X12_eased (some q9cu_X12_eased_15.2.2.2) 12 q9cu_X12_eased_15.1 q9cu_X12_eased_15.2.1 = true := by decide +kernel
set_option maxRecDepth 100000 in
set_option maxHeartbeats 4000000 in
theorem q9hp_X12_eased_15 : (q9chk (q9step q9e_X12_eased [] [(396, 2)] q9mac_X12_eased (q9rtB q9i_X12_eased) (q9iC q9i_X12_eased)) q9cu_X12_eased (some q9cu_X12_eased_15.2.2.2) 12 q9cu_X12_eased_15.1 q9cu_X12_eased_15.2.1 && q9cu_X12_eased_15.2.2.2.all (fun q => decide (q.1 = 0) || decide (q.2.1 < (q9tE q9cu_X12_eased_15.2.1).length))) = true := by
  rw [q9hr_X12_eased_15, Bool.true_and]
  decide +kernel
set_option maxRecDepth 100000 in
set_option maxHeartbeats 4000000 in
theorem q9hr_X12_eased_16 : q9chk (q9step q9e_X12_eased [] [(396, 2)] q9mac_X12_eased (q9rtB q9i_X12_eased) (q9iC q9i_X12_eased)) q9cu_X12_eased (some q9cu_X12_eased_16.2.2.2) 12 q9cu_X12_eased_16.1 q9cu_X12_eased_16.2.1 = true := by decide +kernel
set_option maxRecDepth 100000 in
set_option maxHeartbeats 4000000 in
theorem q9hp_X12_eased_16 : (q9chk (q9step q9e_X12_eased [] [(396, 2)] q9mac_X12_eased (q9rtB q9i_X12_eased) (q9iC q9i_X12_eased)) q9cu_X12_eased (some q9cu_X12_eased_16.2.2.2) 12 q9cu_X12_eased_16.1 q9cu_X12_eased_16.2.1 && q9cu_X12_eased_16.2.2.2.all (fun q => decide (q.1 = 0) || decide (q.2.1 < (q9tE q9cu_X12_eased_16.2.1).length))) = true := by
  rw [q9hr_X12_eased_16, Bool.true_and]
  decide +kernel
set_option maxRecDepth 100000 in
set_option maxHeartbeats 4000000 in
theorem q9hr_X12_eased_17 : q9chk (q9step q9e_X12_eased [] [(396, 2)] q9mac_X12_eased (q9rtB q9i_X12_eased) (q9iC q9i_X12_eased)) q9cu_X12_eased (some q9cu_X12_eased_17.2.2.2) 12 q9cu_X12_eased_17.1 q9cu_X12_eased_17.2.1 = true := by decide +kernel
set_option maxRecDepth 100000 in
set_option maxHeartbeats 4000000 in
theorem q9hp_X12_eased_17 : (q9chk (q9step q9e_X12_eased [] [(396, 2)] q9mac_X12_eased (q9rtB q9i_X12_eased) (q9iC q9i_X12_eased)) q9cu_X12_eased (some q9cu_X12_eased_17.2.2.2) 12 q9cu_X12_eased_17.1 q9cu_X12_eased_17.2.1 && q9cu_X12_eased_17.2.2.2.all (fun q => decide (q.1 = 0) || decide (q.2.1 < (q9tE q9cu_X12_eased_17.2.1).length))) = true := by
  rw [q9hr_X12_eased_17, Bool.true_and]
  decide +kernel
set_option maxRecDepth 100000 in
set_option maxHeartbeats 4000000 in
theorem q9hr_X12_eased_18 : q9chk (q9step q9e_X12_eased [] [(396, 2)] q9mac_X12_eased (q9rtB q9i_X12_eased) (q9iC q9i_X12_eased)) q9cu_X12_eased (some q9cu_X12_eased_18.2.2.2) 12 q9cu_X12_eased_18.1 q9cu_X12_eased_18.2.1 = true := by decide +kernel
set_option maxRecDepth 100000 in
set_option maxHeartbeats 4000000 in
theorem q9hp_X12_eased_18 : (q9chk (q9step q9e_X12_eased [] [(396, 2)] q9mac_X12_eased (q9rtB q9i_X12_eased) (q9iC q9i_X12_eased)) q9cu_X12_eased (some q9cu_X12_eased_18.2.2.2) 12 q9cu_X12_eased_18.1 q9cu_X12_eased_18.2.1 && q9cu_X12_eased_18.2.2.2.all (fun q => decide (q.1 = 0) || decide (q.2.1 < (q9tE q9cu_X12_eased_18.2.1).length))) = true := by
  rw [q9hr_X12_eased_18, Bool.true_and]
  decide +kernel
set_option maxRecDepth 100000 in
set_option maxHeartbeats 4000000 in
theorem q9hr_X12_eased_19 : q9chk (q9step q9e_X12_eased [] [(396, 2)] q9mac_X12_eased (q9rtB q9i_X12_eased) (q9iC q9i_X12_eased)) q9cu_X12_eased (some q9cu_X12_eased_19.2.2.2) 12 q9cu_X12_eased_19.1 q9cu_X12_eased_19.2.1 = true := by decide +kernel
set_option maxRecDepth 100000 in
set_option maxHeartbeats 4000000 in
theorem q9hp_X12_eased_19 : (q9chk (q9step q9e_X12_eased [] [(396, 2)] q9mac_X12_eased (q9rtB q9i_X12_eased) (q9iC q9i_X12_eased)) q9cu_X12_eased (some q9cu_X12_eased_19.2.2.2) 12 q9cu_X12_eased_19.1 q9cu_X12_eased_19.2.1 && q9cu_X12_eased_19.2.2.2.all (fun q => decide (q.1 = 0) || decide (q.2.1 < (q9tE q9cu_X12_eased_19.2.1).length))) = true := by
  rw [q9hr_X12_eased_19, Bool.true_and]
  decide +kernel
set_option maxRecDepth 100000 in
set_option maxHeartbeats 4000000 in
theorem q9hr_X12_eased_20 : q9chk (q9step q9e_X12_eased [] [(396, 2)] q9mac_X12_eased (q9rtB q9i_X12_eased) (q9iC q9i_X12_eased)) q9cu_X12_eased (some q9cu_X12_eased_20.2.2.2) 12 q9cu_X12_eased_20.1 q9cu_X12_eased_20.2.1 = true := by decide +kernel
set_option maxRecDepth 100000 in
set_option maxHeartbeats 4000000 in
theorem q9hp_X12_eased_20 : (q9chk (q9step q9e_X12_eased [] [(396, 2)] q9mac_X12_eased (q9rtB q9i_X12_eased) (q9iC q9i_X12_eased)) q9cu_X12_eased (some q9cu_X12_eased_20.2.2.2) 12 q9cu_X12_eased_20.1 q9cu_X12_eased_20.2.1 && q9cu_X12_eased_20.2.2.2.all (fun q => decide (q.1 = 0) || decide (q.2.1 < (q9tE q9cu_X12_eased_20.2.1).length))) = true := by
  rw [q9hr_X12_eased_20, Bool.true_and]
  decide +kernel
set_option maxRecDepth 100000 in
set_option maxHeartbeats 4000000 in
theorem q9hq_X12_eased : ∀ k ∈ q9cu_X12_eased, (q9chk (q9step q9e_X12_eased [] [(396, 2)] q9mac_X12_eased (q9rtB q9i_X12_eased) (q9iC q9i_X12_eased)) q9cu_X12_eased (some k.2.2.2) 12 k.1 k.2.1 && k.2.2.2.all (fun q => decide (q.1 = 0) || decide (q.2.1 < (q9tE k.2.1).length))) = true := fun k hk => by
  rcases List.mem_cons.mp (show k ∈ q9cu_X12_eased_0 :: [q9cu_X12_eased_1, q9cu_X12_eased_2, q9cu_X12_eased_3, q9cu_X12_eased_4, q9cu_X12_eased_5, q9cu_X12_eased_6, q9cu_X12_eased_7, q9cu_X12_eased_8, q9cu_X12_eased_9, q9cu_X12_eased_10, q9cu_X12_eased_11, q9cu_X12_eased_12, q9cu_X12_eased_13, q9cu_X12_eased_14, q9cu_X12_eased_15, q9cu_X12_eased_16, q9cu_X12_eased_17, q9cu_X12_eased_18, q9cu_X12_eased_19, q9cu_X12_eased_20] from hk) with rfl | hk
  · exact q9hp_X12_eased_0
  rcases List.mem_cons.mp hk with rfl | hk
  · exact q9hp_X12_eased_1
  rcases List.mem_cons.mp hk with rfl | hk
  · exact q9hp_X12_eased_2
  rcases List.mem_cons.mp hk with rfl | hk
  · exact q9hp_X12_eased_3
  rcases List.mem_cons.mp hk with rfl | hk
  · exact q9hp_X12_eased_4
  rcases List.mem_cons.mp hk with rfl | hk
  · exact q9hp_X12_eased_5
  rcases List.mem_cons.mp hk with rfl | hk
  · exact q9hp_X12_eased_6
  rcases List.mem_cons.mp hk with rfl | hk
  · exact q9hp_X12_eased_7
  rcases List.mem_cons.mp hk with rfl | hk
  · exact q9hp_X12_eased_8
  rcases List.mem_cons.mp hk with rfl | hk
  · exact q9hp_X12_eased_9
  rcases List.mem_cons.mp hk with rfl | hk
  · exact q9hp_X12_eased_10
  rcases List.mem_cons.mp hk with rfl | hk
  · exact q9hp_X12_eased_11
  rcases List.mem_cons.mp hk with rfl | hk
  · exact q9hp_X12_eased_12
  rcases List.mem_cons.mp hk with rfl | hk
  · exact q9hp_X12_eased_13
  rcases List.mem_cons.mp hk with rfl | hk
  · exact q9hp_X12_eased_14
  rcases List.mem_cons.mp hk with rfl | hk
  · exact q9hp_X12_eased_15
  rcases List.mem_cons.mp hk with rfl | hk
  · exact q9hp_X12_eased_16
  rcases List.mem_cons.mp hk with rfl | hk
  · exact q9hp_X12_eased_17
  rcases List.mem_cons.mp hk with rfl | hk
  · exact q9hp_X12_eased_18
  rcases List.mem_cons.mp hk with rfl | hk
  · exact q9hp_X12_eased_19
  rcases List.mem_cons.mp hk with rfl | hk
  · exact q9hp_X12_eased_20
  exact absurd hk List.not_mem_nil
set_option maxRecDepth 100000 in
set_option maxHeartbeats 4000000 in
theorem q9c_X12_eased (l : Launch) (hst : l.stackTraces = false) : q9CON l q9TBL q9ALLW q9i_X12_eased := q9con_ofX (XP := fun _ _ => True) (mac := q9mac_X12_eased) (q := q9i_X12_eased) (n := q9e_X12_eased) (K := []) (K2 := [(396, 2)]) (cuts := q9cu_X12_eased) (f := 12) hst (by decide +kernel) (fun h => absurd rfl h) ⟨q9goodA, q9fs_X12_ok, q9ps_X12_ok, (fun _ h => absurd h List.not_mem_nil), (fun _ h => absurd h List.not_mem_nil), q9kas_ok, (fun _ h => absurd h List.not_mem_nil), (List.forall_mem_cons.mpr ⟨⟨2, rfl, (q9inT10 82 rfl rfl)⟩, (fun _ h => absurd h List.not_mem_nil)⟩), (fun _ h => absurd h List.not_mem_nil)⟩ rfl rfl rfl (q9macx_none (XP := fun _ _ => True)) (q9conB_of q9hp_X12_eased q9hq_X12_eased (by decide +kernel))
set_option maxRecDepth 100000 in
theorem q9wk_X12_eased : GoodIn q9ALLW [.code yX12_eased cX12_eased 12 (some .int), .initialized (yX12_eased).cls] := q9goodW _ (List.forall_mem_cons.mpr ⟨(q9inT10 81 rfl rfl), (List.forall_mem_cons.mpr ⟨(q9inT1 12 rfl rfl), (fun _ h => absurd h List.not_mem_nil)⟩)⟩)
set_option maxRecDepth 100000 in
theorem q9wv_X12_eased : ∀ w ∈ ([.static yX12_eased] : List Cond), w ∈ q9ALLW := (List.forall_mem_cons.mpr ⟨(q9inT10 80 rfl rfl), (fun _ h => absurd h List.not_mem_nil)⟩)
set_option maxRecDepth 100000 in
theorem q9lk_X12_413_X12_eased : q9LKs q9ALLW RX12 (413, 1, 0, q9i_X12_eased) := ⟨q9wk_X12_eased, ⟨by decide, by decide, by decide +kernel⟩, q9goodW _ (List.forall_mem_cons.mpr ⟨(q9inT10 79 rfl rfl), q9wv_X12_eased⟩)⟩
def q9i_X12_frame : q9INST := (yX12_frame, cX12_frame, 3, none, (2, 32, 0, 0), (([(0, 0, 0), (2, 12, 0), (0, 0, 399), (0, 0, 11)], [(0, (1, 0))], [], [(1, 0), (2, 0)], [(1, 51, (2, 0)), (1, 38, (3, 0))], [], [], [], 0, 0), [(5, 0, (0, 0)), (0, 0, (0, 0)), (3, 1, (51, 0)), (3, 1, (38, 0))]), [(([(0, 0, 0), (2, 12, 0), (0, 0, 399)], [], [], [(1, 0), (2, 0)], [(1, 51, (2, 1))], [], [], [], 0, 0), [(5, 0, (0, 0)), (2, 0, (0, 0)), (2, 1, (0, 0))])], [], [819, 100190, 100192, 100193, 100194, 100204, 100208], [])
def q9e_X12_frame : q9EN := (q9TBL, q9fs_X12, q9ps_X12, [819, 100190, 100192, 100193, 100194, 100204, 100208], [], [(404, 1, 0, q9i_X12_place), (413, 1, 0, q9i_X12_eased)], (2, 32, 0, 0), 3, [], [], [])
set_option maxRecDepth 100000 in
set_option maxHeartbeats 4000000 in
def q9cu_X12_frame_0 : q9CUT := (14, ([(0, 0, 0), (2, 12, 0), (0, 0, 4799), (0, 0, 96), (0, 0, 399), (0, 0, 11)], [(0, (1, 0)), (1, (2, 0)), (2, (3, 0))], [], [(1, 0), (4, 0)], [(1, 51, (4, 0)), (1, 38, (5, 0))], [], [], [], 0, 0), [(5, 0, (0, 0)), (0, 0, (0, 0)), (0, 1, (0, 0)), (0, 2, (0, 0)), (2, 1, (0, 0)), (3, 1, (38, 0))], [(0, 0, 99986), (2, 3, 96), (0, 0, 99986)])
set_option maxRecDepth 100000 in
set_option maxHeartbeats 4000000 in
def q9cu_X12_frame_1 : q9CUT := (66, ([(0, 0, 0), (2, 12, 0), (0, 0, 4799), (0, 0, 3), (0, 0, 399), (0, 0, 11)], [(0, (1, 0)), (1, (2, 0)), (2, (3, 0))], [], [(1, 0), (4, 0)], [(1, 51, (4, 0)), (1, 38, (5, 0))], [], [], [], 0, 0), [(5, 0, (0, 0)), (0, 0, (0, 0)), (0, 1, (0, 0)), (0, 2, (0, 0)), (2, 1, (0, 0)), (3, 1, (38, 0))], [(0, 0, 99934), (2, 3, 3), (0, 0, 99934)])
def q9cu_X12_frame : List q9CUT := [q9cu_X12_frame_0, q9cu_X12_frame_1]
set_option maxRecDepth 100000 in
set_option maxHeartbeats 4000000 in
def q9mac_X12_frame : Nat → q9ST → Option (List (Nat × q9ST)) := fun _ _ => none
set_option maxRecDepth 100000 in
set_option maxHeartbeats 4000000 in
theorem q9hp_X12_frame : q9chk (q9step q9e_X12_frame [] [] q9mac_X12_frame (q9rtB q9i_X12_frame) (q9iC q9i_X12_frame)) q9cu_X12_frame none 102 0 (q9iPre q9i_X12_frame) = true := by decide +kernel
set_option maxRecDepth 100000 in
set_option maxHeartbeats 4000000 in
def q9nd_X12_frame_0_0 : q9ND := (36, ([(0, 0, 0), (2, 12, 0), (0, 0, 4799), (0, 0, 95), (0, 0, 399), (0, 0, 11), (2, 190, 0), (0, 0, 460704), (0, 0, 460799), (2, 202, 0), (0, (-2147483648), 2147483647)], [(0, (1, 0)), (1, (2, 0)), (2, (3, 0))], [(10, 0), (8, 0), (6, 0)], [(1, 0), (4, 0)], [(1, 54, (9, 0)), (1, 39, (6, 0)), (1, 51, (4, 0)), (1, 38, (5, 0))], [(9, (3, 0), (10, 0))], [], [(0, (7, 0), (3, 0), 8), (2, (0, 96), (2, 0), 7)], 0, 0))
set_option maxRecDepth 100000 in
set_option maxHeartbeats 4000000 in
def q9nd_X12_frame_0_1 : q9ND := (63, ([(0, 0, 0), (2, 12, 0), (0, 0, 4799), (0, 96, 96), (0, 0, 399), (0, 0, 11), (2, 193, 0), (0, (-2147483648), 2147483647), (2, 194, 0), (0, (-2147483648), 2147483647)], [(0, (1, 0)), (1, (2, 0)), (2, (3, 0))], [(9, 0), (2, 0), (8, 0)], [(1, 0), (4, 0)], [(1, 53, (9, 0)), (1, 43, (8, 0)), (1, 52, (7, 0)), (1, 42, (6, 0)), (1, 51, (4, 0)), (1, 38, (5, 0))], [(6, (2, 0), (7, 0))], [], [], 0, 0))
def q9tn_X12_frame_0_2 : List q9ND := []
def q9tn_X12_frame_0_1 : List q9ND := q9nd_X12_frame_0_1 :: q9tn_X12_frame_0_2
def q9tn_X12_frame_0_0 : List q9ND := q9nd_X12_frame_0_0 :: q9tn_X12_frame_0_1
set_option maxRecDepth 100000 in
set_option maxHeartbeats 4000000 in
theorem q9hn_X12_frame_0_0 : q9chkE (q9step q9e_X12_frame [] [] q9mac_X12_frame (q9rtB q9i_X12_frame) (q9iC q9i_X12_frame)) q9cu_X12_frame (some q9cu_X12_frame_0.2.2.2) q9tn_X12_frame_0_1 17 q9nd_X12_frame_0_0.1 q9nd_X12_frame_0_0.2 = true := by decide +kernel
set_option maxRecDepth 100000 in
set_option maxHeartbeats 4000000 in
theorem q9hn_X12_frame_0_1 : q9chkE (q9step q9e_X12_frame [] [] q9mac_X12_frame (q9rtB q9i_X12_frame) (q9iC q9i_X12_frame)) q9cu_X12_frame (some q9cu_X12_frame_0.2.2.2) q9tn_X12_frame_0_2 17 q9nd_X12_frame_0_1.1 q9nd_X12_frame_0_1.2 = true := by decide +kernel
set_option maxRecDepth 100000 in
set_option maxHeartbeats 4000000 in
theorem q9hs_X12_frame_0 : q9chkE (q9step q9e_X12_frame [] [] q9mac_X12_frame (q9rtB q9i_X12_frame) (q9iC q9i_X12_frame)) q9cu_X12_frame (some q9cu_X12_frame_0.2.2.2) q9tn_X12_frame_0_0 17 q9cu_X12_frame_0.1 q9cu_X12_frame_0.2.1 = true := by decide +kernel
set_option maxRecDepth 100000 in
set_option maxHeartbeats 4000000 in
theorem q9hr_X12_frame_0 : q9chk (q9step q9e_X12_frame [] [] q9mac_X12_frame (q9rtB q9i_X12_frame) (q9iC q9i_X12_frame)) q9cu_X12_frame (some q9cu_X12_frame_0.2.2.2) 102 q9cu_X12_frame_0.1 q9cu_X12_frame_0.2.1 = true := q9walkE (N := q9tn_X12_frame_0_0) (f := 17) (n := 2) rfl (Nat.le_of_ble_eq_true rfl) ⟨q9hn_X12_frame_0_0, q9hn_X12_frame_0_1, trivial⟩ q9hs_X12_frame_0
set_option maxRecDepth 100000 in
set_option maxHeartbeats 4000000 in
theorem q9hp_X12_frame_0 : (q9chk (q9step q9e_X12_frame [] [] q9mac_X12_frame (q9rtB q9i_X12_frame) (q9iC q9i_X12_frame)) q9cu_X12_frame (some q9cu_X12_frame_0.2.2.2) 102 q9cu_X12_frame_0.1 q9cu_X12_frame_0.2.1 && q9cu_X12_frame_0.2.2.2.all (fun q => decide (q.1 = 0) || decide (q.2.1 < (q9tE q9cu_X12_frame_0.2.1).length))) = true := by
  rw [q9hr_X12_frame_0, Bool.true_and]
  decide +kernel
set_option maxRecDepth 100000 in
set_option maxHeartbeats 4000000 in
def q9nd_X12_frame_1_0 : q9ND := (90, ([(0, 0, 0), (2, 12, 0), (0, 0, 4799), (0, 0, 2), (0, 0, 399), (0, 0, 11), (2, 208, 0), (0, 0, 399), (2, 207, 0), (0, 1, 400)], [(0, (1, 0)), (1, (2, 0)), (2, (3, 0))], [(6, 0)], [(1, 0), (4, 0)], [(1, 59, (8, 0)), (1, 60, (6, 0)), (1, 51, (4, 0)), (1, 38, (5, 0))], [(8, (3, 0), (9, 0)), (6, (3, 0), (7, 0))], [(7, 9, (-1))], [], 0, 0))
set_option maxRecDepth 100000 in
set_option maxHeartbeats 4000000 in
def q9nd_X12_frame_1_1 : q9ND := (108, ([(0, 0, 0), (2, 12, 0), (0, 0, 4799), (0, 0, 2), (0, 0, 399), (0, 0, 11), (2, 208, 0), (0, 0, 399), (2, 207, 0), (0, 1, 400), (2, 204, 0), (2, 205, 0), (0, (-2147483648), 2147483647)], [(0, (1, 0)), (1, (2, 0)), (2, (3, 0))], [(1, 0), (12, 0), (3, 0), (10, 0)], [(1, 0), (4, 0)], [(1, 57, (11, 0)), (1, 56, (10, 0)), (1, 59, (8, 0)), (1, 60, (6, 0)), (1, 51, (4, 0)), (1, 38, (5, 0))], [(11, (3, 0), (12, 0)), (6, (3, 0), (7, 1)), (8, (3, 0), (9, 0))], [(7, 9, (-1))], [], 0, 0))
set_option maxRecDepth 100000 in
set_option maxHeartbeats 4000000 in
def q9nd_X12_frame_1_2 : q9ND := (130, ([(0, 0, 0), (2, 12, 0), (0, 0, 4799), (0, 0, 2), (0, 0, 399), (0, 0, 11), (2, 208, 0), (0, 0, 399), (2, 207, 0), (0, 1, 400), (2, 204, 0), (2, 205, 0), (0, (-2147483648), 2147483647), (2, 206, 0), (0, (-2147483648), 2147483647), (0, (-2147483648), 2147483647)], [(0, (1, 0)), (1, (2, 0)), (2, (3, 0))], [(8, 0), (7, 1), (15, 0), (12, 0), (3, 0), (10, 0)], [(1, 0), (4, 0)], [(1, 58, (13, 0)), (1, 57, (11, 0)), (1, 56, (10, 0)), (1, 59, (8, 0)), (1, 60, (6, 0)), (1, 51, (4, 0)), (1, 38, (5, 0))], [(13, (3, 0), (14, 0)), (11, (3, 0), (12, 0)), (6, (3, 0), (7, 1)), (8, (3, 0), (9, 0))], [(7, 9, (-1))], [(1, (14, 0), (12, 0), 15)], 0, 0))
set_option maxRecDepth 100000 in
set_option maxHeartbeats 4000000 in
def q9nd_X12_frame_1_3 : q9ND := (150, ([(0, 0, 0), (2, 12, 0), (0, 0, 4799), (0, 0, 2), (0, 0, 399), (0, 0, 11), (2, 208, 0), (0, 0, 399), (2, 207, 0), (0, 1, 400), (2, 204, 0), (2, 205, 0), (0, (-2147483648), 2147483647), (2, 206, 0), (0, (-2147483648), 2147483647), (0, (-2147483648), 2147483647), (2, 209, 0), (0, (-2147483648), 2147483647), (0, (-2147483648), 2147483647), (0, (-2147483648), 2147483647), (2, 192, 0), (0, 0, 14397)], [(0, (1, 0)), (1, (2, 0)), (2, (3, 0))], [(21, 0), (20, 0)], [(1, 0), (4, 0)], [(1, 41, (20, 0)), (1, 61, (16, 0)), (1, 58, (13, 0)), (1, 57, (11, 0)), (1, 56, (10, 0)), (1, 59, (8, 0)), (1, 60, (6, 0)), (1, 51, (4, 0)), (1, 38, (5, 0))], [(10, (3, 0), (19, 0)), (16, (3, 0), (17, 0)), (13, (3, 0), (14, 0)), (11, (3, 0), (12, 0)), (6, (3, 0), (7, 1)), (8, (3, 0), (9, 0))], [(7, 9, (-1))], [(2, (0, 3), (2, 0), 21), (0, (12, 0), (18, 0), 19), (1, (14, 0), (12, 0), 15)], 0, 0))
set_option maxRecDepth 100000 in
set_option maxHeartbeats 4000000 in
def q9nd_X12_frame_1_4 : q9ND := (147, ([(0, 0, 0), (2, 12, 0), (0, 0, 4799), (0, 0, 2), (0, 0, 399), (0, 0, 11), (2, 208, 0), (0, 0, 400), (2, 207, 0), (0, 0, 400), (2, 192, 0)], [(0, (1, 0)), (1, (2, 0)), (2, (3, 0))], [(10, 0)], [(1, 0), (4, 0)], [(1, 41, (10, 0)), (1, 59, (8, 0)), (1, 60, (6, 0)), (1, 51, (4, 0)), (1, 38, (5, 0))], [(8, (3, 0), (9, 0)), (6, (3, 0), (7, 0))], [(9, 7, 0)], [], 0, 0))
def q9tn_X12_frame_1_5 : List q9ND := []
def q9tn_X12_frame_1_4 : List q9ND := q9nd_X12_frame_1_4 :: q9tn_X12_frame_1_5
def q9tn_X12_frame_1_3 : List q9ND := q9nd_X12_frame_1_3 :: q9tn_X12_frame_1_4
def q9tn_X12_frame_1_2 : List q9ND := q9nd_X12_frame_1_2 :: q9tn_X12_frame_1_3
def q9tn_X12_frame_1_1 : List q9ND := q9nd_X12_frame_1_1 :: q9tn_X12_frame_1_2
def q9tn_X12_frame_1_0 : List q9ND := q9nd_X12_frame_1_0 :: q9tn_X12_frame_1_1
set_option maxRecDepth 100000 in
set_option maxHeartbeats 4000000 in
theorem q9hn_X12_frame_1_0 : q9chkE (q9step q9e_X12_frame [] [] q9mac_X12_frame (q9rtB q9i_X12_frame) (q9iC q9i_X12_frame)) q9cu_X12_frame (some q9cu_X12_frame_1.2.2.2) q9tn_X12_frame_1_1 17 q9nd_X12_frame_1_0.1 q9nd_X12_frame_1_0.2 = true := by decide +kernel
set_option maxRecDepth 100000 in
set_option maxHeartbeats 4000000 in
theorem q9hn_X12_frame_1_1 : q9chkE (q9step q9e_X12_frame [] [] q9mac_X12_frame (q9rtB q9i_X12_frame) (q9iC q9i_X12_frame)) q9cu_X12_frame (some q9cu_X12_frame_1.2.2.2) q9tn_X12_frame_1_2 17 q9nd_X12_frame_1_1.1 q9nd_X12_frame_1_1.2 = true := by decide +kernel
set_option maxRecDepth 100000 in
set_option maxHeartbeats 4000000 in
theorem q9hn_X12_frame_1_2 : q9chkE (q9step q9e_X12_frame [] [] q9mac_X12_frame (q9rtB q9i_X12_frame) (q9iC q9i_X12_frame)) q9cu_X12_frame (some q9cu_X12_frame_1.2.2.2) q9tn_X12_frame_1_3 17 q9nd_X12_frame_1_2.1 q9nd_X12_frame_1_2.2 = true := by decide +kernel
set_option maxRecDepth 100000 in
set_option maxHeartbeats 4000000 in
theorem q9hn_X12_frame_1_3 : q9chkE (q9step q9e_X12_frame [] [] q9mac_X12_frame (q9rtB q9i_X12_frame) (q9iC q9i_X12_frame)) q9cu_X12_frame (some q9cu_X12_frame_1.2.2.2) q9tn_X12_frame_1_4 17 q9nd_X12_frame_1_3.1 q9nd_X12_frame_1_3.2 = true := by decide +kernel
set_option maxRecDepth 100000 in
set_option maxHeartbeats 4000000 in
theorem q9hn_X12_frame_1_4 : q9chkE (q9step q9e_X12_frame [] [] q9mac_X12_frame (q9rtB q9i_X12_frame) (q9iC q9i_X12_frame)) q9cu_X12_frame (some q9cu_X12_frame_1.2.2.2) q9tn_X12_frame_1_5 17 q9nd_X12_frame_1_4.1 q9nd_X12_frame_1_4.2 = true := by decide +kernel
set_option maxRecDepth 100000 in
set_option maxHeartbeats 4000000 in
theorem q9hs_X12_frame_1 : q9chkE (q9step q9e_X12_frame [] [] q9mac_X12_frame (q9rtB q9i_X12_frame) (q9iC q9i_X12_frame)) q9cu_X12_frame (some q9cu_X12_frame_1.2.2.2) q9tn_X12_frame_1_0 17 q9cu_X12_frame_1.1 q9cu_X12_frame_1.2.1 = true := by decide +kernel
set_option maxRecDepth 100000 in
set_option maxHeartbeats 4000000 in
theorem q9hr_X12_frame_1 : q9chk (q9step q9e_X12_frame [] [] q9mac_X12_frame (q9rtB q9i_X12_frame) (q9iC q9i_X12_frame)) q9cu_X12_frame (some q9cu_X12_frame_1.2.2.2) 102 q9cu_X12_frame_1.1 q9cu_X12_frame_1.2.1 = true := q9walkE (N := q9tn_X12_frame_1_0) (f := 17) (n := 5) rfl (Nat.le_of_ble_eq_true rfl) ⟨q9hn_X12_frame_1_0, q9hn_X12_frame_1_1, q9hn_X12_frame_1_2, q9hn_X12_frame_1_3, q9hn_X12_frame_1_4, trivial⟩ q9hs_X12_frame_1
set_option maxRecDepth 100000 in
set_option maxHeartbeats 4000000 in
theorem q9hp_X12_frame_1 : (q9chk (q9step q9e_X12_frame [] [] q9mac_X12_frame (q9rtB q9i_X12_frame) (q9iC q9i_X12_frame)) q9cu_X12_frame (some q9cu_X12_frame_1.2.2.2) 102 q9cu_X12_frame_1.1 q9cu_X12_frame_1.2.1 && q9cu_X12_frame_1.2.2.2.all (fun q => decide (q.1 = 0) || decide (q.2.1 < (q9tE q9cu_X12_frame_1.2.1).length))) = true := by
  rw [q9hr_X12_frame_1, Bool.true_and]
  decide +kernel
set_option maxRecDepth 100000 in
set_option maxHeartbeats 4000000 in
theorem q9hq_X12_frame : ∀ k ∈ q9cu_X12_frame, (q9chk (q9step q9e_X12_frame [] [] q9mac_X12_frame (q9rtB q9i_X12_frame) (q9iC q9i_X12_frame)) q9cu_X12_frame (some k.2.2.2) 102 k.1 k.2.1 && k.2.2.2.all (fun q => decide (q.1 = 0) || decide (q.2.1 < (q9tE k.2.1).length))) = true := fun k hk => by
  rcases List.mem_cons.mp (show k ∈ q9cu_X12_frame_0 :: [q9cu_X12_frame_1] from hk) with rfl | hk
  · exact q9hp_X12_frame_0
  rcases List.mem_cons.mp hk with rfl | hk
  · exact q9hp_X12_frame_1
  exact absurd hk List.not_mem_nil
set_option maxRecDepth 100000 in
set_option maxHeartbeats 4000000 in
theorem q9c_X12_frame (l : Launch) (hst : l.stackTraces = false) : q9CON l q9TBL q9ALLW q9i_X12_frame := q9con_ofX (XP := fun _ _ => True) (mac := q9mac_X12_frame) (q := q9i_X12_frame) (n := q9e_X12_frame) (K := []) (K2 := []) (cuts := q9cu_X12_frame) (f := 102) hst (by decide +kernel) (fun h => absurd rfl h) ⟨q9goodA, q9fs_X12_ok, q9ps_X12_ok, (fun _ h => absurd h List.not_mem_nil), (List.forall_mem_cons.mpr ⟨⟨⟨q9c_X12_place l hst, q9lk_X12_404_X12_place⟩, by decide⟩, (List.forall_mem_cons.mpr ⟨⟨⟨q9c_X12_eased l hst, q9lk_X12_413_X12_eased⟩, by decide⟩, (fun _ h => absurd h List.not_mem_nil)⟩)⟩), q9kas_ok, (fun _ h => absurd h List.not_mem_nil), (fun _ h => absurd h List.not_mem_nil), (fun _ h => absurd h List.not_mem_nil)⟩ rfl rfl rfl (q9macx_none (XP := fun _ _ => True)) (q9conB_of q9hp_X12_frame q9hq_X12_frame (by decide +kernel))
def q9i_X12_speaks : q9INST := (yX12_speaks, cX12_speaks, 5, none, (2, 22, 0, 0), (([(0, 0, 0), (2, 12, 0), (0, 0, 59), (0, 0, 400), (2, 178, 0), (2, 179, 0), (2, 181, 0), (2, 182, 0), (2, 183, 0), (2, 184, 0), (0, 0, 60), (0, 0, 400), (0, 0, 11), (1, 0, 0)], [(0, (1, 0)), (1, (2, 0)), (2, (3, 0))], [], [(1, 0), (2, 0), (3, 0)], [(1, 22, (4, 0)), (1, 23, (5, 0)), (1, 25, (6, 0)), (1, 26, (7, 0)), (1, 27, (8, 0)), (1, 28, (9, 0)), (1, 17, (10, 0)), (1, 18, (11, 0)), (1, 38, (12, 0))], [(13, (10, 0), (11, 0)), (4, (2, 0), (0, 2))], [(2, 10, (-1))], [], 0, 0), [(5, 0, (0, 0)), (0, 0, (0, 0)), (0, 1, (0, 0)), (0, 2, (0, 0)), (3, 1, (22, 0)), (3, 1, (23, 0)), (3, 1, (25, 0)), (3, 1, (26, 0)), (3, 1, (27, 0)), (3, 1, (28, 0)), (3, 1, (17, 0)), (3, 1, (18, 0)), (3, 1, (38, 0)), (8, 10, (11, 0))]), [(([(0, 0, 0), (2, 12, 0), (0, 0, 59), (0, 0, 400)], [], [], [(1, 0), (2, 0), (3, 0)], [], [], [], [], 0, 0), [(5, 0, (0, 0)), (2, 0, (0, 0)), (2, 1, (0, 0)), (2, 2, (0, 0))])], [], [100191], [])
def q9e_X12_speaks : q9EN := (q9TBL, q9fs_X12, q9ps_X12, [100191], [], [(404, 1, 0, q9i_X12_place)], (2, 22, 0, 0), 5, [], [], [])
def q9cu_X12_speaks : List q9CUT := [(2, ([(0, 0, 0), (2, 12, 0), (0, 0, 59), (0, 0, 400), (0, 0, 59), (2, 181, 0), (2, 182, 0), (2, 183, 0), (2, 184, 0), (0, 0, 60), (0, 0, 400), (0, 0, 11), (0, 0, 400), (0, 0, 20), (0, 0, 400), (0, 0, 7), (1, 0, 0), (0, 0, 400)], [(0, (1, 0)), (1, (2, 0)), (2, (3, 0)), (3, (4, 0))], [], [(1, 0), (2, 0), (3, 0)], [(1, 25, (5, 0)), (1, 26, (6, 0)), (1, 27, (7, 0)), (1, 28, (8, 0)), (1, 17, (9, 0)), (1, 18, (10, 0)), (1, 38, (11, 0))], [(7, (2, 0), (12, 0)), (8, (2, 0), (13, 0)), (6, (2, 0), (14, 0)), (5, (2, 0), (15, 0)), (16, (9, 0), (10, 0))], [(2, 9, (-1))], [(0, (12, 0), (13, 0), 17)], 0, 0), [(5, 0, (0, 0)), (0, 0, (0, 0)), (0, 1, (0, 0)), (0, 2, (0, 0)), (0, 3, (0, 0)), (3, 1, (25, 0)), (3, 1, (26, 0)), (3, 1, (27, 0)), (3, 1, (28, 0)), (3, 1, (17, 0)), (3, 1, (18, 0)), (3, 1, (38, 0)), (4, 7, (2, 0)), (4, 8, (2, 0)), (4, 6, (2, 0)), (4, 5, (2, 0)), (8, 9, (10, 0)), (6, 12, (13, 0))], [(0, 0, 99998), (2, 4, 59), (0, 0, 99998)])]
set_option maxRecDepth 100000 in
set_option maxHeartbeats 4000000 in
theorem q9c_X12_speaks (l : Launch) (hst : l.stackTraces = false) : q9CON l q9TBL q9ALLW q9i_X12_speaks := q9con_ofX (XP := fun _ _ => True) (mac := q9rfM (q9stM q9e_X12_speaks [] [] (fun _ _ => none) cX12_speaks) [(0, [q9wT [(5, 0, (0, 0)), (0, 0, (0, 0)), (0, 1, (0, 0))] (fun th => q9lnF (q9gA th 1).1 (q9gA th 2) 25), q9wT [(5, 0, (0, 0)), (0, 0, (0, 0)), (0, 1, (0, 0))] (fun th => q9lnF (q9gA th 1).1 (q9gA th 2) 26), q9wT [(5, 0, (0, 0)), (0, 0, (0, 0)), (0, 1, (0, 0))] (fun th => q9lnF (q9gA th 1).1 (q9gA th 2) 28), q9wT [(5, 0, (0, 0)), (0, 0, (0, 0)), (0, 1, (0, 0))] (fun th => q9lnF (q9gA th 1).1 (q9gA th 2) 27), q9wT [(5, 0, (0, 0)), (0, 0, (0, 0)), (0, 1, (0, 0))] (fun th => q9lnS (q9gA th 1).1 (q9gA th 2))]), (66, [q9wT [(5, 0, (0, 0)), (0, 3, (0, 0)), (0, 0, (0, 0)), (0, 1, (0, 0)), (3, 2, (28, 0)), (4, 4, (3, 0))] (fun th => q9halfR (q9gA th 1) (q9gA th 5))])]) (q := q9i_X12_speaks) (n := q9e_X12_speaks) (K := []) (K2 := []) (cuts := q9cu_X12_speaks) (f := 58) hst (by decide +kernel) (fun h => absurd rfl h) ⟨q9goodA, q9fs_X12_ok, q9ps_X12_ok, (fun _ h => absurd h List.not_mem_nil), (List.forall_mem_cons.mpr ⟨⟨⟨q9c_X12_place l hst, q9lk_X12_404_X12_place⟩, by decide⟩, (fun _ h => absurd h List.not_mem_nil)⟩), q9kas_ok, (fun _ h => absurd h List.not_mem_nil), (fun _ h => absurd h List.not_mem_nil), (fun _ h => absurd h List.not_mem_nil)⟩ rfl rfl rfl (q9macx_rf (XP := fun _ _ => True) (q9macx_st (XP := fun _ _ => True) (cc := cX12_speaks) (q9macx_none (XP := fun _ _ => True))) rfl [(0, [q9wT [(5, 0, (0, 0)), (0, 0, (0, 0)), (0, 1, (0, 0))] (fun th => q9lnF (q9gA th 1).1 (q9gA th 2) 25), q9wT [(5, 0, (0, 0)), (0, 0, (0, 0)), (0, 1, (0, 0))] (fun th => q9lnF (q9gA th 1).1 (q9gA th 2) 26), q9wT [(5, 0, (0, 0)), (0, 0, (0, 0)), (0, 1, (0, 0))] (fun th => q9lnF (q9gA th 1).1 (q9gA th 2) 28), q9wT [(5, 0, (0, 0)), (0, 0, (0, 0)), (0, 1, (0, 0))] (fun th => q9lnF (q9gA th 1).1 (q9gA th 2) 27), q9wT [(5, 0, (0, 0)), (0, 0, (0, 0)), (0, 1, (0, 0))] (fun th => q9lnS (q9gA th 1).1 (q9gA th 2))]), (66, [q9wT [(5, 0, (0, 0)), (0, 3, (0, 0)), (0, 0, (0, 0)), (0, 1, (0, 0)), (3, 2, (28, 0)), (4, 4, (3, 0))] (fun th => q9halfR (q9gA th 1) (q9gA th 5))])] (List.forall_mem_cons.mpr ⟨(List.forall_mem_cons.mpr ⟨(q9wT_ok fun _ => q9lnF_ok _ _ _), (List.forall_mem_cons.mpr ⟨(q9wT_ok fun _ => q9lnF_ok _ _ _), (List.forall_mem_cons.mpr ⟨(q9wT_ok fun _ => q9lnF_ok _ _ _), (List.forall_mem_cons.mpr ⟨(q9wT_ok fun _ => q9lnF_ok _ _ _), (List.forall_mem_cons.mpr ⟨(q9wT_ok fun _ => q9lnS_ok _ _), (fun _ h => absurd h List.not_mem_nil)⟩)⟩)⟩)⟩)⟩), (List.forall_mem_cons.mpr ⟨(List.forall_mem_cons.mpr ⟨(q9wT_ok fun _ => q9halfR_ok _ _), (fun _ h => absurd h List.not_mem_nil)⟩), (fun _ h => absurd h List.not_mem_nil)⟩)⟩)) (by decide +kernel)
set_option maxRecDepth 100000 in
theorem q9wk_X12_frame : GoodIn q9ALLW [.code yX12_frame cX12_frame 3 none, .initialized (yX12_frame).cls] := q9goodW _ (List.forall_mem_cons.mpr ⟨(q9inT10 78 rfl rfl), (List.forall_mem_cons.mpr ⟨(q9inT1 12 rfl rfl), (fun _ h => absurd h List.not_mem_nil)⟩)⟩)
set_option maxRecDepth 100000 in
theorem q9wv_X12_frame : ∀ w ∈ ([.instanceMethod yX12_frame, .selects (yX12_frame).cls yX12_frame yX12_frame] : List Cond), w ∈ q9ALLW := (List.forall_mem_cons.mpr ⟨(q9inT10 77 rfl rfl), (List.forall_mem_cons.mpr ⟨(q9inW 83 rfl rfl), (fun _ h => absurd h List.not_mem_nil)⟩)⟩)
set_option maxRecDepth 100000 in
theorem q9lk_X12_417_X12_frame : q9LKs q9ALLW RX12 (417, 0, 12, q9i_X12_frame) := ⟨q9wk_X12_frame, ⟨by decide, by decide, by decide +kernel⟩, q9goodW _ (List.forall_mem_cons.mpr ⟨(q9inT10 75 rfl rfl), q9wv_X12_frame⟩), _, rfl, rfl⟩
def q9i_X12_moves_d0 : q9INST := (yX12_moves, cX12_moves, 5, none, (3, 54, 0, 0), (([(0, 0, 0), (2, 12, 0), (0, 0, 59), (2, 178, 0), (2, 179, 0), (2, 183, 0), (2, 184, 0), (2, 186, 0), (2, 187, 0), (0, 0, 60), (0, 0, 400), (0, 0, 11), (0, 0, 400), (1, 0, 0), (0, 0, 400), (0, 0, 400)], [(0, (1, 0)), (1, (2, 0))], [], [(1, 0), (2, 0), (12, 0), (15, 0)], [(1, 22, (3, 0)), (1, 23, (4, 0)), (1, 27, (5, 0)), (1, 28, (6, 0)), (1, 30, (7, 0)), (1, 31, (8, 0)), (1, 17, (9, 0)), (1, 18, (10, 0)), (1, 38, (11, 0)), (1, 51, (12, 0))], [(13, (9, 0), (10, 0)), (3, (2, 0), (0, 1)), (14, (2, 0), (0, 13000))], [(2, 9, (-1))], [(0, (12, 0), (14, 0), 15)], 0, 0), [(5, 0, (0, 0)), (0, 0, (0, 0)), (0, 1, (0, 0)), (3, 1, (22, 0)), (3, 1, (23, 0)), (3, 1, (27, 0)), (3, 1, (28, 0)), (3, 1, (30, 0)), (3, 1, (31, 0)), (3, 1, (17, 0)), (3, 1, (18, 0)), (3, 1, (38, 0)), (3, 1, (51, 0)), (8, 9, (10, 0)), (8, 2, (0, 13000)), (6, 12, (14, 0))]), [(([(0, 0, 0), (2, 12, 0), (0, 0, 59), (0, 0, 400), (0, 1, 400)], [], [], [(1, 0), (2, 0), (3, 0), (4, 0)], [(1, 51, (4, 0))], [], [], [], 0, 0), [(5, 0, (0, 0)), (2, 0, (0, 0)), (2, 1, (0, 0)), (2, 2, (0, 0)), (2, 3, (0, 0))])], [], [819, 100190, 100192, 100193, 100194, 100202, 100203, 100204, 100208], [])
def q9e_X12_moves_d0 : q9EN := (q9TBL, q9fs_X12, q9ps_X12, [819, 100190, 100192, 100193, 100194, 100202, 100203, 100204, 100208], [(417, 0, 12, q9i_X12_frame)], [(413, 1, 0, q9i_X12_eased)], (3, 54, 0, 0), 5, [], [], [])
def q9cu_X12_moves_d0 : List q9CUT := [(2, ([(0, 0, 0), (2, 12, 0), (0, 0, 59), (0, 0, 96), (0, 0, 400), (0, 0, 400), (2, 178, 0), (2, 179, 0), (2, 183, 0), (2, 184, 0), (2, 186, 0), (2, 187, 0), (0, 0, 60), (0, 0, 400), (0, 0, 11), (0, 0, 400), (0, 0, 400), (0, 0, 400), (0, 1, 200), (0, 1, 1), (1, 0, 0), (0, 0, 400), (0, 0, 400)], [(0, (1, 0)), (1, (2, 0)), (2, (3, 0))], [], [(1, 0), (2, 0), (4, 0), (5, 0)], [(1, 22, (6, 0)), (1, 23, (7, 0)), (1, 27, (8, 0)), (1, 28, (9, 0)), (1, 30, (10, 0)), (1, 31, (11, 0)), (1, 17, (12, 0)), (1, 18, (13, 0)), (1, 38, (14, 0)), (1, 51, (15, 0))], [(8, (2, 0), (16, 0)), (9, (2, 0), (17, 0)), (7, (2, 0), (18, 0)), (6, (2, 0), (19, 0)), (20, (12, 0), (13, 0)), (21, (2, 0), (0, 13000))], [(2, 12, (-1)), (4, 15, 0), (15, 4, 0), (22, 13, 0)], [(0, (16, 0), (17, 0), 22), (0, (15, 0), (21, 0), 5)], 0, 0), [(5, 0, (0, 0)), (0, 0, (0, 0)), (0, 1, (0, 0)), (0, 2, (0, 0)), (2, 2, (0, 0)), (2, 3, (0, 0)), (3, 1, (22, 0)), (3, 1, (23, 0)), (3, 1, (27, 0)), (3, 1, (28, 0)), (3, 1, (30, 0)), (3, 1, (31, 0)), (3, 1, (17, 0)), (3, 1, (18, 0)), (3, 1, (38, 0)), (3, 1, (51, 0)), (4, 8, (2, 0)), (4, 9, (2, 0)), (4, 7, (2, 0)), (4, 6, (2, 0)), (8, 12, (13, 0)), (8, 2, (0, 13000)), (6, 16, (17, 0))], [(0, 0, 99998), (2, 3, 96), (0, 0, 99998), (0, 0, 0), (0, 0, 0)]), (28, ([(0, 0, 0), (2, 12, 0), (0, 0, 59), (0, 1, 399), (0, 0, 400), (0, 0, 400), (2, 178, 0), (2, 179, 0), (2, 183, 0), (2, 184, 0), (2, 186, 0), (2, 187, 0), (0, 1, 60), (0, 0, 400), (0, 0, 11), (0, 0, 400), (0, 0, 400), (0, 0, 400), (0, 1, 200), (0, 1, 1), (1, 0, 0), (0, 0, 400), (0, 0, 400)], [(0, (1, 0)), (1, (2, 0)), (2, (3, 0))], [], [(1, 0), (2, 0), (4, 0), (5, 0)], [(1, 22, (6, 0)), (1, 23, (7, 0)), (1, 27, (8, 0)), (1, 28, (9, 0)), (1, 30, (10, 0)), (1, 31, (11, 0)), (1, 17, (12, 0)), (1, 18, (13, 0)), (1, 38, (14, 0)), (1, 51, (15, 0))], [(8, (2, 0), (16, 0)), (9, (2, 0), (17, 0)), (7, (2, 0), (18, 0)), (6, (2, 0), (19, 0)), (20, (12, 0), (13, 0)), (21, (2, 0), (3, 12999))], [(2, 12, (-1)), (3, 5, 1), (3, 15, 1), (3, 18, 1), (4, 15, 0), (22, 13, 0)], [(0, (16, 0), (17, 0), 22), (0, (15, 0), (21, 0), 5)], 0, 0), [(5, 0, (0, 0)), (0, 0, (0, 0)), (0, 1, (0, 0)), (0, 2, (0, 0)), (2, 2, (0, 0)), (2, 3, (0, 0)), (3, 1, (22, 0)), (3, 1, (23, 0)), (3, 1, (27, 0)), (3, 1, (28, 0)), (3, 1, (30, 0)), (3, 1, (31, 0)), (3, 1, (17, 0)), (3, 1, (18, 0)), (3, 1, (38, 0)), (3, 1, (51, 0)), (4, 8, (2, 0)), (4, 9, (2, 0)), (4, 7, (2, 0)), (4, 6, (2, 0)), (8, 12, (13, 0)), (8, 2, (3, 12999)), (6, 16, (17, 0))], [(0, 0, 99972), (2, 3, 399), (0, 0, 99972), (0, 0, 0), (0, 0, 0)]), (45, ([(0, 0, 0), (2, 12, 0), (0, 0, 59), (0, 1, 200), (0, 0, 400), (0, 0, 400), (0, 0, 400), (2, 178, 0), (2, 179, 0), (2, 183, 0), (2, 184, 0), (2, 186, 0), (2, 187, 0), (0, 1, 60), (0, 0, 400), (0, 0, 11), (0, 0, 400), (0, 0, 400), (0, 0, 400), (0, 1, 200), (0, 1, 1), (1, 0, 0), (0, 0, 400), (0, 0, 400)], [(0, (1, 0)), (1, (2, 0)), (2, (3, 0)), (3, (4, 0))], [], [(1, 0), (2, 0), (5, 0), (6, 0)], [(1, 22, (7, 0)), (1, 23, (8, 0)), (1, 27, (9, 0)), (1, 28, (10, 0)), (1, 30, (11, 0)), (1, 31, (12, 0)), (1, 17, (13, 0)), (1, 18, (14, 0)), (1, 38, (15, 0)), (1, 51, (16, 0))], [(9, (2, 0), (17, 0)), (10, (2, 0), (18, 0)), (8, (2, 0), (19, 0)), (7, (2, 0), (20, 0)), (21, (13, 0), (14, 0)), (22, (2, 0), (3, 12999))], [(2, 13, (-1)), (3, 6, 1), (3, 16, 1), (3, 19, 0), (5, 16, 0), (17, 4, 0), (23, 14, 0)], [(0, (17, 0), (18, 0), 23), (0, (16, 0), (22, 0), 6)], 0, 0), [(5, 0, (0, 0)), (0, 0, (0, 0)), (0, 1, (0, 0)), (0, 2, (0, 0)), (0, 3, (0, 0)), (2, 2, (0, 0)), (2, 3, (0, 0)), (3, 1, (22, 0)), (3, 1, (23, 0)), (3, 1, (27, 0)), (3, 1, (28, 0)), (3, 1, (30, 0)), (3, 1, (31, 0)), (3, 1, (17, 0)), (3, 1, (18, 0)), (3, 1, (38, 0)), (3, 1, (51, 0)), (4, 9, (2, 0)), (4, 10, (2, 0)), (4, 8, (2, 0)), (4, 7, (2, 0)), (8, 13, (14, 0)), (8, 2, (3, 12999)), (6, 17, (18, 0))], [(0, 0, 99972), (2, 3, 399), (0, 0, 99955), (2, 4, 400), (0, 0, 99955)])]
set_option maxRecDepth 100000 in
set_option maxHeartbeats 4000000 in
theorem q9c_X12_moves_d0 (l : Launch) (hst : l.stackTraces = false) : q9CON l q9TBL q9ALLW q9i_X12_moves_d0 := q9con_ofXR (XP := fun _ _ => True) (mac := q9rfM (q9stM q9e_X12_moves_d0 [] [] (fun _ _ => none) cX12_moves) [(0, [q9wT [(5, 0, (0, 0)), (0, 0, (0, 0)), (0, 1, (0, 0))] (fun th => q9lnF (q9gA th 1).1 (q9gA th 2) 23), q9wT [(5, 0, (0, 0)), (0, 0, (0, 0)), (0, 1, (0, 0))] (fun th => q9lnF (q9gA th 1).1 (q9gA th 2) 28), q9wT [(5, 0, (0, 0)), (0, 0, (0, 0)), (0, 1, (0, 0))] (fun th => q9lnF (q9gA th 1).1 (q9gA th 2) 27), q9wT [(5, 0, (0, 0)), (0, 0, (0, 0)), (0, 1, (0, 0))] (fun th => q9lnS (q9gA th 1).1 (q9gA th 2))]), (62, [q9wT [(5, 0, (0, 0)), (0, 0, (0, 0)), (0, 3, (0, 0))] (fun th => q9actR (q9gA th 1).1 (q9gA th 2))]), (131, [q9wT [(5, 0, (0, 0)), (0, 0, (0, 0)), (0, 1, (0, 0)), (0, 2, (0, 0)), (3, 1, (51, 0)), (8, 2, (3, 12999))] (fun th => q9rlF (q9gA th 1).1 (q9gA th 2) ((q9gA th 3).1, (q9gA th 3).2 + (-1)) (q9gA th 4) 0), q9wT [(5, 0, (0, 0))] (fun th => q9prpR)]), (135, [q9wT [(5, 0, (0, 0)), (0, 0, (0, 0)), (0, 1, (0, 0)), (0, 2, (0, 0)), (3, 1, (51, 0)), (8, 2, (3, 12999)), (8, 2, (3, 13000))] (fun th => q9mvX ((q9gA th 4).1, (q9gA th 4).2 + (-1)) (q9gA th 5) (q9gA th 4) (q9gA th 6) 1)])]) (rt := q9rtR [q9wT [(5, 0, (0, 0)), (0, 0, (0, 0)), (0, 1, (0, 0)), (0, 2, (0, 0)), (3, 1, (51, 0)), (8, 2, (3, 12999))] (fun th => q9endR (q9gA th 1).1 (q9gA th 2) ((q9gA th 3).1, (q9gA th 3).2 + (-1)) 0), q9wT [(5, 0, (0, 0)), (0, 0, (0, 0)), (0, 1, (0, 0)), (0, 2, (0, 0)), (3, 1, (51, 0)), (8, 2, (3, 12999))] (fun th => q9sumC (q9gA th 4) (q9gA th 5)), q9wT [(5, 0, (0, 0))] (fun th => q9prpR)] q9i_X12_moves_d0) (q := q9i_X12_moves_d0) (n := q9e_X12_moves_d0) (K := []) (K2 := []) (cuts := q9cu_X12_moves_d0) (f := 91) hst (by decide +kernel) (fun h => absurd rfl h) ⟨q9goodA, q9fs_X12_ok, q9ps_X12_ok, (List.forall_mem_cons.mpr ⟨⟨⟨q9c_X12_frame l hst, q9lk_X12_417_X12_frame⟩, rfl⟩, (fun _ h => absurd h List.not_mem_nil)⟩), (List.forall_mem_cons.mpr ⟨⟨⟨q9c_X12_eased l hst, q9lk_X12_413_X12_eased⟩, by decide⟩, (fun _ h => absurd h List.not_mem_nil)⟩), q9kas_ok, (fun _ h => absurd h List.not_mem_nil), (fun _ h => absurd h List.not_mem_nil), (fun _ h => absurd h List.not_mem_nil)⟩ rfl rfl rfl (q9macx_rf (XP := fun _ _ => True) (q9macx_st (XP := fun _ _ => True) (cc := cX12_moves) (q9macx_none (XP := fun _ _ => True))) rfl [(0, [q9wT [(5, 0, (0, 0)), (0, 0, (0, 0)), (0, 1, (0, 0))] (fun th => q9lnF (q9gA th 1).1 (q9gA th 2) 23), q9wT [(5, 0, (0, 0)), (0, 0, (0, 0)), (0, 1, (0, 0))] (fun th => q9lnF (q9gA th 1).1 (q9gA th 2) 28), q9wT [(5, 0, (0, 0)), (0, 0, (0, 0)), (0, 1, (0, 0))] (fun th => q9lnF (q9gA th 1).1 (q9gA th 2) 27), q9wT [(5, 0, (0, 0)), (0, 0, (0, 0)), (0, 1, (0, 0))] (fun th => q9lnS (q9gA th 1).1 (q9gA th 2))]), (62, [q9wT [(5, 0, (0, 0)), (0, 0, (0, 0)), (0, 3, (0, 0))] (fun th => q9actR (q9gA th 1).1 (q9gA th 2))]), (131, [q9wT [(5, 0, (0, 0)), (0, 0, (0, 0)), (0, 1, (0, 0)), (0, 2, (0, 0)), (3, 1, (51, 0)), (8, 2, (3, 12999))] (fun th => q9rlF (q9gA th 1).1 (q9gA th 2) ((q9gA th 3).1, (q9gA th 3).2 + (-1)) (q9gA th 4) 0), q9wT [(5, 0, (0, 0))] (fun th => q9prpR)]), (135, [q9wT [(5, 0, (0, 0)), (0, 0, (0, 0)), (0, 1, (0, 0)), (0, 2, (0, 0)), (3, 1, (51, 0)), (8, 2, (3, 12999)), (8, 2, (3, 13000))] (fun th => q9mvX ((q9gA th 4).1, (q9gA th 4).2 + (-1)) (q9gA th 5) (q9gA th 4) (q9gA th 6) 1)])] (List.forall_mem_cons.mpr ⟨(List.forall_mem_cons.mpr ⟨(q9wT_ok fun _ => q9lnF_ok _ _ _), (List.forall_mem_cons.mpr ⟨(q9wT_ok fun _ => q9lnF_ok _ _ _), (List.forall_mem_cons.mpr ⟨(q9wT_ok fun _ => q9lnF_ok _ _ _), (List.forall_mem_cons.mpr ⟨(q9wT_ok fun _ => q9lnS_ok _ _), (fun _ h => absurd h List.not_mem_nil)⟩)⟩)⟩)⟩), (List.forall_mem_cons.mpr ⟨(List.forall_mem_cons.mpr ⟨(q9wT_ok fun _ => q9actR_ok _ _), (fun _ h => absurd h List.not_mem_nil)⟩), (List.forall_mem_cons.mpr ⟨(List.forall_mem_cons.mpr ⟨(q9wT_ok fun _ => q9rlF_ok _ _ _ _ _), (List.forall_mem_cons.mpr ⟨(q9wT_ok fun _ => q9prpR_ok ), (fun _ h => absurd h List.not_mem_nil)⟩)⟩), (List.forall_mem_cons.mpr ⟨(List.forall_mem_cons.mpr ⟨(q9wT_ok fun _ => q9mvX_ok _ _ _ _ _), (fun _ h => absurd h List.not_mem_nil)⟩), (fun _ h => absurd h List.not_mem_nil)⟩)⟩)⟩)⟩)) (q9rtR_ok (List.forall_mem_cons.mpr ⟨(q9wT_ok fun _ => q9endR_ok _ _ _ _), (List.forall_mem_cons.mpr ⟨(q9wT_ok fun _ => q9sumC_ok _ _), (List.forall_mem_cons.mpr ⟨(q9wT_ok fun _ => q9prpR_ok ), (fun _ h => absurd h List.not_mem_nil)⟩)⟩)⟩)) (by decide +kernel)
