def q9i_X12_puts_p0 : q9INST := (yX12_puts, cX12_puts, 6, none, (3, 47, 0, 0), (([(0, 0, 0), (2, 12, 0), (0, 0, 11), (0, 0, 2), (0, 0, 0)], [(0, (1, 0)), (1, (2, 0)), (2, (3, 0))], [], [(1, 0), (2, 0), (3, 0)], [(1, 66, (4, 0))], [], [], [], 0, 0), [(5, 0, (0, 0)), (0, 0, (0, 0)), (0, 1, (0, 0)), (0, 2, (0, 0)), (3, 1, (66, 0))]), [(([(0, 0, 0), (2, 12, 0), (0, 0, 11), (0, 0, 2)], [], [], [(1, 0), (2, 0), (3, 0)], [(1, 66, (0, 1))], [], [], [], 0, 0), [(5, 0, (0, 0)), (2, 0, (0, 0)), (2, 1, (0, 0)), (2, 2, (0, 0))])], [], [834, 100214, 100215, 100216, 100217], [])
def q9e_X12_puts_p0 : q9EN := (q9TBL, q9fs_X12, q9ps_X12, [834, 100214, 100215, 100216, 100217], [(477, 0, 12, q9i_X12_lastsIn)], [], (3, 47, 0, 0), 6, [], [], [])
def q9cu_X12_puts_p0 : List q9CUT := [(8, ([(0, 0, 0), (2, 12, 0), (0, 0, 11), (0, 0, 2), (0, 0, 0), (0, (-1), (-1)), (0, 0, 0), (0, 0, 0)], [(0, (1, 0)), (1, (2, 0)), (2, (3, 0)), (3, (4, 0)), (4, (5, 0)), (5, (6, 0))], [], [(1, 0), (2, 0), (3, 0)], [(1, 66, (7, 0))], [], [], [], 0, 0), [(5, 0, (0, 0)), (0, 0, (0, 0)), (0, 1, (0, 0)), (0, 2, (0, 0)), (0, 3, (0, 0)), (0, 4, (0, 0)), (0, 5, (0, 0)), (3, 1, (66, 0))], [(0, 0, 99992), (2, 2, 11), (0, 0, 99992)]), (91, ([(0, 0, 0), (2, 12, 0), (0, 0, 11), (0, 0, 2), (0, (-2147483648), 2147483647), (0, 0, 0), (0, 0, 0)], [(0, (1, 0)), (1, (2, 0)), (2, (3, 0)), (3, (4, 0)), (5, (5, 0))], [], [(1, 0), (2, 0), (3, 0)], [(1, 66, (6, 0))], [], [], [], 0, 0), [(5, 0, (0, 0)), (0, 0, (0, 0)), (0, 1, (0, 0)), (0, 2, (0, 0)), (0, 3, (0, 0)), (0, 5, (0, 0)), (3, 1, (66, 0))], [(0, 0, 99909), (2, 2, 11), (0, 0, 99909)])]
set_option maxRecDepth 100000 in
set_option maxHeartbeats 4000000 in
theorem q9c_X12_puts_p0 (l : Launch) (hst : l.stackTraces = false) : q9CON l q9TBL q9ALLW q9i_X12_puts_p0 := q9con_of (q := q9i_X12_puts_p0) (n := q9e_X12_puts_p0) (K := []) (K2 := []) (cuts := q9cu_X12_puts_p0) (f := 73) hst (by decide +kernel) (fun h => absurd rfl h) ⟨q9goodA, q9fs_X12_ok, q9ps_X12_ok, (List.forall_mem_cons.mpr ⟨⟨⟨q9c_X12_lastsIn l hst, q9lk_X12_477_X12_lastsIn⟩, rfl⟩, (fun _ h => absurd h List.not_mem_nil)⟩), (fun _ h => absurd h List.not_mem_nil), q9kas_ok, (fun _ h => absurd h List.not_mem_nil), (fun _ h => absurd h List.not_mem_nil), (fun _ h => absurd h List.not_mem_nil)⟩ rfl rfl rfl (by decide +kernel)
def q9i_X12_puts_p1 : q9INST := (yX12_puts, cX12_puts, 6, none, (3, 47, 0, 0), (([(0, 0, 0), (2, 12, 0), (0, 0, 11), (0, 0, 2), (0, 1, 1)], [(0, (1, 0)), (1, (2, 0)), (2, (3, 0))], [], [(1, 0), (2, 0), (3, 0)], [(1, 66, (4, 0))], [], [], [], 0, 0), [(5, 0, (0, 0)), (0, 0, (0, 0)), (0, 1, (0, 0)), (0, 2, (0, 0)), (3, 1, (66, 0))]), [(([(0, 0, 0), (2, 12, 0), (0, 0, 11), (0, 0, 2)], [], [], [(1, 0), (2, 0), (3, 0)], [(1, 66, (0, 2))], [], [], [], 0, 0), [(5, 0, (0, 0)), (2, 0, (0, 0)), (2, 1, (0, 0)), (2, 2, (0, 0))])], [], [834, 100214, 100215, 100216, 100217], [])
def q9e_X12_puts_p1 : q9EN := (q9TBL, q9fs_X12, q9ps_X12, [834, 100214, 100215, 100216, 100217], [(477, 0, 12, q9i_X12_lastsIn), (483, 0, 12, q9i_X12_areClashing)], [], (3, 47, 0, 0), 6, [], [], [])
set_option maxRecDepth 100000 in
set_option maxHeartbeats 4000000 in
def q9cu_X12_puts_p1_0 : q9CUT := (8, ([(0, 0, 0), (2, 12, 0), (0, 0, 11), (0, 0, 2), (0, (-2147483648), 2147483647), (0, (-1), 7), (0, 0, 1), (0, 1, 1)], [(0, (1, 0)), (1, (2, 0)), (2, (3, 0)), (3, (4, 0)), (4, (5, 0)), (5, (6, 0))], [], [(1, 0), (2, 0), (3, 0)], [(1, 66, (7, 0))], [], [], [], 0, 0), [(5, 0, (0, 0)), (0, 0, (0, 0)), (0, 1, (0, 0)), (0, 2, (0, 0)), (0, 3, (0, 0)), (0, 4, (0, 0)), (0, 5, (0, 0)), (3, 1, (66, 0))], [(0, 0, 99992), (2, 6, 1), (0, 0, 99992)])
set_option maxRecDepth 100000 in
set_option maxHeartbeats 4000000 in
def q9cu_X12_puts_p1_1 : q9CUT := (91, ([(0, 0, 0), (2, 12, 0), (0, 0, 11), (0, 0, 2), (0, (-2147483648), 2147483647), (0, 0, 1), (0, 1, 1)], [(0, (1, 0)), (1, (2, 0)), (2, (3, 0)), (3, (4, 0)), (5, (5, 0))], [], [(1, 0), (2, 0), (3, 0)], [(1, 66, (6, 0))], [], [], [], 0, 0), [(5, 0, (0, 0)), (0, 0, (0, 0)), (0, 1, (0, 0)), (0, 2, (0, 0)), (0, 3, (0, 0)), (0, 5, (0, 0)), (3, 1, (66, 0))], [(0, 0, 99909), (2, 5, 1), (0, 0, 99909)])
def q9cu_X12_puts_p1 : List q9CUT := [q9cu_X12_puts_p1_0, q9cu_X12_puts_p1_1]
set_option maxRecDepth 100000 in
set_option maxHeartbeats 4000000 in
def q9mac_X12_puts_p1 : Nat → q9ST → Option (List (Nat × q9ST)) := fun _ _ => none
set_option maxRecDepth 100000 in
set_option maxHeartbeats 4000000 in
theorem q9hp_X12_puts_p1 : q9chk (q9step q9e_X12_puts_p1 [] [] q9mac_X12_puts_p1 (q9rtB q9i_X12_puts_p1) (q9iC q9i_X12_puts_p1)) q9cu_X12_puts_p1 none 68 0 (q9iPre q9i_X12_puts_p1) = true := by decide +kernel
set_option maxRecDepth 100000 in
set_option maxHeartbeats 4000000 in
def q9nd_X12_puts_p1_0_0 : q9ND := (38, ([(0, 0, 0), (2, 12, 0), (0, 0, 11), (0, 0, 2), (0, (-2147483648), 2147483647), (0, (-1), 7), (0, 0, 0), (0, 1, 1), (2, 215, 0), (0, 0, 2), (2, 217, 0), (0, (-2147483648), 2147483647)], [(0, (1, 0)), (1, (2, 0)), (2, (3, 0)), (3, (4, 0)), (4, (5, 0)), (5, (6, 0))], [(11, 0)], [(1, 0), (2, 0), (3, 0)], [(1, 73, (10, 0)), (1, 71, (8, 0)), (1, 66, (7, 0))], [(10, (6, 0), (11, 0)), (8, (6, 0), (9, 0))], [(3, 9, 0), (9, 3, 0), (6, 7, (-1))], [], 0, 0))
set_option maxRecDepth 100000 in
set_option maxHeartbeats 4000000 in
def q9nd_X12_puts_p1_0_1 : q9ND := (87, ([(0, 0, 0), (2, 12, 0), (0, 0, 11), (0, 0, 2), (0, (-2147483648), 2147483647), (0, 0, 7), (0, 1, 1), (0, 1, 1), (2, 198, 0), (0, 0, 7)], [(0, (1, 0)), (1, (2, 0)), (2, (3, 0)), (3, (4, 0)), (4, (5, 0)), (5, (6, 0))], [(4, 0)], [(1, 0), (2, 0), (3, 0)], [(1, 47, (8, 0)), (1, 66, (7, 0))], [(8, (2, 0), (9, 0))], [(9, 5, 0), (5, 9, 0), (7, 6, 0)], [], 0, 0))
set_option maxRecDepth 100000 in
set_option maxHeartbeats 4000000 in
def q9nd_X12_puts_p1_0_2 : q9ND := (80, ([(0, 0, 0), (2, 12, 0), (0, 0, 11), (0, 0, 2), (0, (-2147483648), 2147483647), (0, (-1), 7), (0, 1, 1), (0, 1, 1), (2, 198, 0), (0, 0, 7), (2, 213, 0)], [(0, (1, 0)), (1, (2, 0)), (2, (3, 0)), (3, (4, 0)), (4, (5, 0)), (5, (6, 0))], [(1, 0), (10, 0), (4, 0)], [(1, 0), (2, 0), (3, 0)], [(1, 65, (10, 0)), (1, 47, (8, 0)), (1, 66, (7, 0))], [(8, (2, 0), (9, 0))], [(7, 6, 0)], [], 0, 0))
def q9tn_X12_puts_p1_0_3 : List q9ND := []
def q9tn_X12_puts_p1_0_2 : List q9ND := q9nd_X12_puts_p1_0_2 :: q9tn_X12_puts_p1_0_3
def q9tn_X12_puts_p1_0_1 : List q9ND := q9nd_X12_puts_p1_0_1 :: q9tn_X12_puts_p1_0_2
def q9tn_X12_puts_p1_0_0 : List q9ND := q9nd_X12_puts_p1_0_0 :: q9tn_X12_puts_p1_0_1
set_option maxRecDepth 100000 in
set_option maxHeartbeats 4000000 in
theorem q9hn_X12_puts_p1_0_0 : q9chkE (q9step q9e_X12_puts_p1 [] [] q9mac_X12_puts_p1 (q9rtB q9i_X12_puts_p1) (q9iC q9i_X12_puts_p1)) q9cu_X12_puts_p1 (some q9cu_X12_puts_p1_0.2.2.2) q9tn_X12_puts_p1_0_1 17 q9nd_X12_puts_p1_0_0.1 q9nd_X12_puts_p1_0_0.2 = true := by decide +kernel
set_option maxRecDepth 100000 in
set_option maxHeartbeats 4000000 in
theorem q9hn_X12_puts_p1_0_1 : q9chkE (q9step q9e_X12_puts_p1 [] [] q9mac_X12_puts_p1 (q9rtB q9i_X12_puts_p1) (q9iC q9i_X12_puts_p1)) q9cu_X12_puts_p1 (some q9cu_X12_puts_p1_0.2.2.2) q9tn_X12_puts_p1_0_2 17 q9nd_X12_puts_p1_0_1.1 q9nd_X12_puts_p1_0_1.2 = true := by decide +kernel
set_option maxRecDepth 100000 in
set_option maxHeartbeats 4000000 in
theorem q9hn_X12_puts_p1_0_2 : q9chkE (q9step q9e_X12_puts_p1 [] [] q9mac_X12_puts_p1 (q9rtB q9i_X12_puts_p1) (q9iC q9i_X12_puts_p1)) q9cu_X12_puts_p1 (some q9cu_X12_puts_p1_0.2.2.2) q9tn_X12_puts_p1_0_3 17 q9nd_X12_puts_p1_0_2.1 q9nd_X12_puts_p1_0_2.2 = true := by decide +kernel
set_option maxRecDepth 100000 in
set_option maxHeartbeats 4000000 in
theorem q9hs_X12_puts_p1_0 : q9chkE (q9step q9e_X12_puts_p1 [] [] q9mac_X12_puts_p1 (q9rtB q9i_X12_puts_p1) (q9iC q9i_X12_puts_p1)) q9cu_X12_puts_p1 (some q9cu_X12_puts_p1_0.2.2.2) q9tn_X12_puts_p1_0_0 17 q9cu_X12_puts_p1_0.1 q9cu_X12_puts_p1_0.2.1 = true := by decide +kernel
set_option maxRecDepth 100000 in
set_option maxHeartbeats 4000000 in
theorem q9hr_X12_puts_p1_0 : q9chk (q9step q9e_X12_puts_p1 [] [] q9mac_X12_puts_p1 (q9rtB q9i_X12_puts_p1) (q9iC q9i_X12_puts_p1)) q9cu_X12_puts_p1 (some q9cu_X12_puts_p1_0.2.2.2) 68 q9cu_X12_puts_p1_0.1 q9cu_X12_puts_p1_0.2.1 = true := q9walkE (N := q9tn_X12_puts_p1_0_0) (f := 17) (n := 3) rfl (Nat.le_of_ble_eq_true rfl) ⟨q9hn_X12_puts_p1_0_0, q9hn_X12_puts_p1_0_1, q9hn_X12_puts_p1_0_2, trivial⟩ q9hs_X12_puts_p1_0
set_option maxRecDepth 100000 in
set_option maxHeartbeats 4000000 in
theorem q9hp_X12_puts_p1_0 : (q9chk (q9step q9e_X12_puts_p1 [] [] q9mac_X12_puts_p1 (q9rtB q9i_X12_puts_p1) (q9iC q9i_X12_puts_p1)) q9cu_X12_puts_p1 (some q9cu_X12_puts_p1_0.2.2.2) 68 q9cu_X12_puts_p1_0.1 q9cu_X12_puts_p1_0.2.1 && q9cu_X12_puts_p1_0.2.2.2.all (fun q => decide (q.1 = 0) || decide (q.2.1 < (q9tE q9cu_X12_puts_p1_0.2.1).length))) = true := by
  rw [q9hr_X12_puts_p1_0, Bool.true_and]
  decide +kernel
set_option maxRecDepth 100000 in
set_option maxHeartbeats 4000000 in
def q9nd_X12_puts_p1_1_0 : q9ND := (119, ([(0, 0, 0), (2, 12, 0), (0, 0, 11), (0, 0, 2), (0, (-2147483648), 2147483647), (0, 0, 0), (0, 1, 1), (2, 214, 0), (0, 0, 11), (2, 217, 0)], [(0, (1, 0)), (1, (2, 0)), (2, (3, 0)), (3, (4, 0)), (5, (5, 0))], [(9, 0)], [(1, 0), (2, 0), (3, 0)], [(1, 73, (9, 0)), (1, 70, (7, 0)), (1, 66, (6, 0))], [(7, (5, 0), (8, 0))], [(5, 6, (-1))], [], 0, 0))
set_option maxRecDepth 100000 in
set_option maxHeartbeats 4000000 in
def q9nd_X12_puts_p1_1_1 : q9ND := (158, ([(0, 0, 0), (2, 12, 0), (0, 0, 11), (0, 0, 2), (0, (-2147483648), 2147483647), (0, 1, 1), (0, 1, 1), (2, 214, 0), (2, 215, 0)], [(0, (1, 0)), (1, (2, 0)), (2, (3, 0)), (3, (4, 0)), (5, (5, 0))], [(6, 0), (8, 0)], [(1, 0), (2, 0), (3, 0)], [(1, 71, (8, 0)), (1, 70, (7, 0)), (1, 66, (6, 0))], [(7, (6, 0), (2, 0))], [(6, 5, 0)], [], 0, 0))
set_option maxRecDepth 100000 in
set_option maxHeartbeats 4000000 in
def q9nd_X12_puts_p1_1_2 : q9ND := (180, ([(0, 0, 0), (2, 12, 0), (0, 0, 11), (0, 0, 2), (0, (-2147483648), 2147483647), (0, 1, 1), (0, 1, 1), (2, 214, 0), (2, 215, 0), (2, 216, 0), (2, 217, 0)], [(0, (1, 0)), (1, (2, 0)), (2, (3, 0)), (3, (4, 0)), (5, (5, 0))], [(1, 0), (4, 0), (6, 0), (10, 0)], [(1, 0), (2, 0), (3, 0)], [(1, 73, (10, 0)), (1, 72, (9, 0)), (1, 71, (8, 0)), (1, 70, (7, 0)), (1, 66, (6, 0))], [(9, (6, 0), (4, 0)), (8, (6, 0), (3, 0)), (7, (6, 0), (2, 0))], [(6, 5, 0)], [], 0, 0))
def q9tn_X12_puts_p1_1_3 : List q9ND := []
def q9tn_X12_puts_p1_1_2 : List q9ND := q9nd_X12_puts_p1_1_2 :: q9tn_X12_puts_p1_1_3
def q9tn_X12_puts_p1_1_1 : List q9ND := q9nd_X12_puts_p1_1_1 :: q9tn_X12_puts_p1_1_2
def q9tn_X12_puts_p1_1_0 : List q9ND := q9nd_X12_puts_p1_1_0 :: q9tn_X12_puts_p1_1_1
set_option maxRecDepth 100000 in
set_option maxHeartbeats 4000000 in
theorem q9hn_X12_puts_p1_1_0 : q9chkE (q9step q9e_X12_puts_p1 [] [] q9mac_X12_puts_p1 (q9rtB q9i_X12_puts_p1) (q9iC q9i_X12_puts_p1)) q9cu_X12_puts_p1 (some q9cu_X12_puts_p1_1.2.2.2) q9tn_X12_puts_p1_1_1 17 q9nd_X12_puts_p1_1_0.1 q9nd_X12_puts_p1_1_0.2 = true := by decide +kernel
set_option maxRecDepth 100000 in
set_option maxHeartbeats 4000000 in
theorem q9hn_X12_puts_p1_1_1 : q9chkE (q9step q9e_X12_puts_p1 [] [] q9mac_X12_puts_p1 (q9rtB q9i_X12_puts_p1) (q9iC q9i_X12_puts_p1)) q9cu_X12_puts_p1 (some q9cu_X12_puts_p1_1.2.2.2) q9tn_X12_puts_p1_1_2 17 q9nd_X12_puts_p1_1_1.1 q9nd_X12_puts_p1_1_1.2 = true := by decide +kernel
set_option maxRecDepth 100000 in
set_option maxHeartbeats 4000000 in
theorem q9hn_X12_puts_p1_1_2 : q9chkE (q9step q9e_X12_puts_p1 [] [] q9mac_X12_puts_p1 (q9rtB q9i_X12_puts_p1) (q9iC q9i_X12_puts_p1)) q9cu_X12_puts_p1 (some q9cu_X12_puts_p1_1.2.2.2) q9tn_X12_puts_p1_1_3 17 q9nd_X12_puts_p1_1_2.1 q9nd_X12_puts_p1_1_2.2 = true := by decide +kernel
set_option maxRecDepth 100000 in
set_option maxHeartbeats 4000000 in
theorem q9hs_X12_puts_p1_1 : q9chkE (q9step q9e_X12_puts_p1 [] [] q9mac_X12_puts_p1 (q9rtB q9i_X12_puts_p1) (q9iC q9i_X12_puts_p1)) q9cu_X12_puts_p1 (some q9cu_X12_puts_p1_1.2.2.2) q9tn_X12_puts_p1_1_0 17 q9cu_X12_puts_p1_1.1 q9cu_X12_puts_p1_1.2.1 = true := by decide +kernel
set_option maxRecDepth 100000 in
set_option maxHeartbeats 4000000 in
theorem q9hr_X12_puts_p1_1 : q9chk (q9step q9e_X12_puts_p1 [] [] q9mac_X12_puts_p1 (q9rtB q9i_X12_puts_p1) (q9iC q9i_X12_puts_p1)) q9cu_X12_puts_p1 (some q9cu_X12_puts_p1_1.2.2.2) 68 q9cu_X12_puts_p1_1.1 q9cu_X12_puts_p1_1.2.1 = true := q9walkE (N := q9tn_X12_puts_p1_1_0) (f := 17) (n := 3) rfl (Nat.le_of_ble_eq_true rfl) ⟨q9hn_X12_puts_p1_1_0, q9hn_X12_puts_p1_1_1, q9hn_X12_puts_p1_1_2, trivial⟩ q9hs_X12_puts_p1_1
set_option maxRecDepth 100000 in
set_option maxHeartbeats 4000000 in
theorem q9hp_X12_puts_p1_1 : (q9chk (q9step q9e_X12_puts_p1 [] [] q9mac_X12_puts_p1 (q9rtB q9i_X12_puts_p1) (q9iC q9i_X12_puts_p1)) q9cu_X12_puts_p1 (some q9cu_X12_puts_p1_1.2.2.2) 68 q9cu_X12_puts_p1_1.1 q9cu_X12_puts_p1_1.2.1 && q9cu_X12_puts_p1_1.2.2.2.all (fun q => decide (q.1 = 0) || decide (q.2.1 < (q9tE q9cu_X12_puts_p1_1.2.1).length))) = true := by
  rw [q9hr_X12_puts_p1_1, Bool.true_and]
  decide +kernel
set_option maxRecDepth 100000 in
set_option maxHeartbeats 4000000 in
theorem q9hq_X12_puts_p1 : ∀ k ∈ q9cu_X12_puts_p1, (q9chk (q9step q9e_X12_puts_p1 [] [] q9mac_X12_puts_p1 (q9rtB q9i_X12_puts_p1) (q9iC q9i_X12_puts_p1)) q9cu_X12_puts_p1 (some k.2.2.2) 68 k.1 k.2.1 && k.2.2.2.all (fun q => decide (q.1 = 0) || decide (q.2.1 < (q9tE k.2.1).length))) = true := fun k hk => by
  rcases List.mem_cons.mp (show k ∈ q9cu_X12_puts_p1_0 :: [q9cu_X12_puts_p1_1] from hk) with rfl | hk
  · exact q9hp_X12_puts_p1_0
  rcases List.mem_cons.mp hk with rfl | hk
  · exact q9hp_X12_puts_p1_1
  exact absurd hk List.not_mem_nil
set_option maxRecDepth 100000 in
set_option maxHeartbeats 4000000 in
theorem q9c_X12_puts_p1 (l : Launch) (hst : l.stackTraces = false) : q9CON l q9TBL q9ALLW q9i_X12_puts_p1 := q9con_ofX (XP := fun _ _ => True) (mac := q9mac_X12_puts_p1) (q := q9i_X12_puts_p1) (n := q9e_X12_puts_p1) (K := []) (K2 := []) (cuts := q9cu_X12_puts_p1) (f := 68) hst (by decide +kernel) (fun h => absurd rfl h) ⟨q9goodA, q9fs_X12_ok, q9ps_X12_ok, (List.forall_mem_cons.mpr ⟨⟨⟨q9c_X12_lastsIn l hst, q9lk_X12_477_X12_lastsIn⟩, rfl⟩, (List.forall_mem_cons.mpr ⟨⟨⟨q9c_X12_areClashing l hst, q9lk_X12_483_X12_areClashing⟩, rfl⟩, (fun _ h => absurd h List.not_mem_nil)⟩)⟩), (fun _ h => absurd h List.not_mem_nil), q9kas_ok, (fun _ h => absurd h List.not_mem_nil), (fun _ h => absurd h List.not_mem_nil), (fun _ h => absurd h List.not_mem_nil)⟩ rfl rfl rfl (q9macx_none (XP := fun _ _ => True)) (q9conB_of q9hp_X12_puts_p1 q9hq_X12_puts_p1 (by decide +kernel))
def q9i_X12_puts_p2 : q9INST := (yX12_puts, cX12_puts, 6, none, (3, 47, 0, 0), (([(0, 0, 0), (2, 12, 0), (0, 0, 11), (0, 0, 2), (0, 2, 2)], [(0, (1, 0)), (1, (2, 0)), (2, (3, 0))], [], [(1, 0), (2, 0), (3, 0)], [(1, 66, (4, 0))], [], [], [], 0, 0), [(5, 0, (0, 0)), (0, 0, (0, 0)), (0, 1, (0, 0)), (0, 2, (0, 0)), (3, 1, (66, 0))]), [(([(0, 0, 0), (2, 12, 0), (0, 0, 11), (0, 0, 2)], [], [], [(1, 0), (2, 0), (3, 0)], [(1, 66, (0, 3))], [], [], [], 0, 0), [(5, 0, (0, 0)), (2, 0, (0, 0)), (2, 1, (0, 0)), (2, 2, (0, 0))])], [], [834, 100214, 100215, 100216, 100217], [])
def q9e_X12_puts_p2 : q9EN := (q9TBL, q9fs_X12, q9ps_X12, [834, 100214, 100215, 100216, 100217], [(477, 0, 12, q9i_X12_lastsIn), (483, 0, 12, q9i_X12_areClashing)], [], (3, 47, 0, 0), 6, [], [], [])
set_option maxRecDepth 100000 in
set_option maxHeartbeats 4000000 in
def q9cu_X12_puts_p2_0 : q9CUT := (8, ([(0, 0, 0), (2, 12, 0), (0, 0, 11), (0, 0, 2), (0, (-2147483648), 2147483647), (0, (-1), 7), (0, 0, 2), (0, 2, 2)], [(0, (1, 0)), (1, (2, 0)), (2, (3, 0)), (3, (4, 0)), (4, (5, 0)), (5, (6, 0))], [], [(1, 0), (2, 0), (3, 0)], [(1, 66, (7, 0))], [], [], [], 0, 0), [(5, 0, (0, 0)), (0, 0, (0, 0)), (0, 1, (0, 0)), (0, 2, (0, 0)), (0, 3, (0, 0)), (0, 4, (0, 0)), (0, 5, (0, 0)), (3, 1, (66, 0))], [(0, 0, 99992), (2, 6, 2), (0, 0, 99992)])
set_option maxRecDepth 100000 in
set_option maxHeartbeats 4000000 in
def q9cu_X12_puts_p2_1 : q9CUT := (91, ([(0, 0, 0), (2, 12, 0), (0, 0, 11), (0, 0, 2), (0, (-2147483648), 2147483647), (0, 0, 2), (0, 2, 2)], [(0, (1, 0)), (1, (2, 0)), (2, (3, 0)), (3, (4, 0)), (5, (5, 0))], [], [(1, 0), (2, 0), (3, 0)], [(1, 66, (6, 0))], [], [], [], 0, 0), [(5, 0, (0, 0)), (0, 0, (0, 0)), (0, 1, (0, 0)), (0, 2, (0, 0)), (0, 3, (0, 0)), (0, 5, (0, 0)), (3, 1, (66, 0))], [(0, 0, 99909), (2, 5, 2), (0, 0, 99909)])
def q9cu_X12_puts_p2 : List q9CUT := [q9cu_X12_puts_p2_0, q9cu_X12_puts_p2_1]
set_option maxRecDepth 100000 in
set_option maxHeartbeats 4000000 in
def q9mac_X12_puts_p2 : Nat → q9ST → Option (List (Nat × q9ST)) := fun _ _ => none
set_option maxRecDepth 100000 in
set_option maxHeartbeats 4000000 in
theorem q9hp_X12_puts_p2 : q9chk (q9step q9e_X12_puts_p2 [] [] q9mac_X12_puts_p2 (q9rtB q9i_X12_puts_p2) (q9iC q9i_X12_puts_p2)) q9cu_X12_puts_p2 none 68 0 (q9iPre q9i_X12_puts_p2) = true := by decide +kernel
set_option maxRecDepth 100000 in
set_option maxHeartbeats 4000000 in
def q9nd_X12_puts_p2_0_0 : q9ND := (38, ([(0, 0, 0), (2, 12, 0), (0, 0, 11), (0, 0, 2), (0, (-2147483648), 2147483647), (0, (-1), 7), (0, 0, 1), (0, 2, 2), (2, 215, 0), (0, 0, 2), (2, 217, 0), (0, (-2147483648), 2147483647)], [(0, (1, 0)), (1, (2, 0)), (2, (3, 0)), (3, (4, 0)), (4, (5, 0)), (5, (6, 0))], [(11, 0)], [(1, 0), (2, 0), (3, 0)], [(1, 73, (10, 0)), (1, 71, (8, 0)), (1, 66, (7, 0))], [(10, (6, 0), (11, 0)), (8, (6, 0), (9, 0))], [(3, 9, 0), (9, 3, 0), (6, 7, (-1))], [], 0, 0))
set_option maxRecDepth 100000 in
set_option maxHeartbeats 4000000 in
def q9nd_X12_puts_p2_0_1 : q9ND := (87, ([(0, 0, 0), (2, 12, 0), (0, 0, 11), (0, 0, 2), (0, (-2147483648), 2147483647), (0, 0, 7), (0, 2, 2), (0, 2, 2), (2, 198, 0), (0, 0, 7)], [(0, (1, 0)), (1, (2, 0)), (2, (3, 0)), (3, (4, 0)), (4, (5, 0)), (5, (6, 0))], [(4, 0)], [(1, 0), (2, 0), (3, 0)], [(1, 47, (8, 0)), (1, 66, (7, 0))], [(8, (2, 0), (9, 0))], [(9, 5, 0), (5, 9, 0), (7, 6, 0)], [], 0, 0))
set_option maxRecDepth 100000 in
set_option maxHeartbeats 4000000 in
def q9nd_X12_puts_p2_0_2 : q9ND := (80, ([(0, 0, 0), (2, 12, 0), (0, 0, 11), (0, 0, 2), (0, (-2147483648), 2147483647), (0, (-1), 7), (0, 2, 2), (0, 2, 2), (2, 198, 0), (0, 0, 7), (2, 213, 0)], [(0, (1, 0)), (1, (2, 0)), (2, (3, 0)), (3, (4, 0)), (4, (5, 0)), (5, (6, 0))], [(1, 0), (10, 0), (4, 0)], [(1, 0), (2, 0), (3, 0)], [(1, 65, (10, 0)), (1, 47, (8, 0)), (1, 66, (7, 0))], [(8, (2, 0), (9, 0))], [(7, 6, 0)], [], 0, 0))
def q9tn_X12_puts_p2_0_3 : List q9ND := []
def q9tn_X12_puts_p2_0_2 : List q9ND := q9nd_X12_puts_p2_0_2 :: q9tn_X12_puts_p2_0_3
def q9tn_X12_puts_p2_0_1 : List q9ND := q9nd_X12_puts_p2_0_1 :: q9tn_X12_puts_p2_0_2
def q9tn_X12_puts_p2_0_0 : List q9ND := q9nd_X12_puts_p2_0_0 :: q9tn_X12_puts_p2_0_1
set_option maxRecDepth 100000 in
set_option maxHeartbeats 4000000 in
theorem q9hn_X12_puts_p2_0_0 : q9chkE (q9step q9e_X12_puts_p2 [] [] q9mac_X12_puts_p2 (q9rtB q9i_X12_puts_p2) (q9iC q9i_X12_puts_p2)) q9cu_X12_puts_p2 (some q9cu_X12_puts_p2_0.2.2.2) q9tn_X12_puts_p2_0_1 17 q9nd_X12_puts_p2_0_0.1 q9nd_X12_puts_p2_0_0.2 = true := by decide +kernel
set_option maxRecDepth 100000 in
set_option maxHeartbeats 4000000 in
theorem q9hn_X12_puts_p2_0_1 : q9chkE (q9step q9e_X12_puts_p2 [] [] q9mac_X12_puts_p2 (q9rtB q9i_X12_puts_p2) (q9iC q9i_X12_puts_p2)) q9cu_X12_puts_p2 (some q9cu_X12_puts_p2_0.2.2.2) q9tn_X12_puts_p2_0_2 17 q9nd_X12_puts_p2_0_1.1 q9nd_X12_puts_p2_0_1.2 = true := by decide +kernel
set_option maxRecDepth 100000 in
set_option maxHeartbeats 4000000 in
theorem q9hn_X12_puts_p2_0_2 : q9chkE (q9step q9e_X12_puts_p2 [] [] q9mac_X12_puts_p2 (q9rtB q9i_X12_puts_p2) (q9iC q9i_X12_puts_p2)) q9cu_X12_puts_p2 (some q9cu_X12_puts_p2_0.2.2.2) q9tn_X12_puts_p2_0_3 17 q9nd_X12_puts_p2_0_2.1 q9nd_X12_puts_p2_0_2.2 = true := by decide +kernel
set_option maxRecDepth 100000 in
set_option maxHeartbeats 4000000 in
theorem q9hs_X12_puts_p2_0 : q9chkE (q9step q9e_X12_puts_p2 [] [] q9mac_X12_puts_p2 (q9rtB q9i_X12_puts_p2) (q9iC q9i_X12_puts_p2)) q9cu_X12_puts_p2 (some q9cu_X12_puts_p2_0.2.2.2) q9tn_X12_puts_p2_0_0 17 q9cu_X12_puts_p2_0.1 q9cu_X12_puts_p2_0.2.1 = true := by decide +kernel
set_option maxRecDepth 100000 in
set_option maxHeartbeats 4000000 in
theorem q9hr_X12_puts_p2_0 : q9chk (q9step q9e_X12_puts_p2 [] [] q9mac_X12_puts_p2 (q9rtB q9i_X12_puts_p2) (q9iC q9i_X12_puts_p2)) q9cu_X12_puts_p2 (some q9cu_X12_puts_p2_0.2.2.2) 68 q9cu_X12_puts_p2_0.1 q9cu_X12_puts_p2_0.2.1 = true := q9walkE (N := q9tn_X12_puts_p2_0_0) (f := 17) (n := 3) rfl (Nat.le_of_ble_eq_true rfl) ⟨q9hn_X12_puts_p2_0_0, q9hn_X12_puts_p2_0_1, q9hn_X12_puts_p2_0_2, trivial⟩ q9hs_X12_puts_p2_0
set_option maxRecDepth 100000 in
set_option maxHeartbeats 4000000 in
theorem q9hp_X12_puts_p2_0 : (q9chk (q9step q9e_X12_puts_p2 [] [] q9mac_X12_puts_p2 (q9rtB q9i_X12_puts_p2) (q9iC q9i_X12_puts_p2)) q9cu_X12_puts_p2 (some q9cu_X12_puts_p2_0.2.2.2) 68 q9cu_X12_puts_p2_0.1 q9cu_X12_puts_p2_0.2.1 && q9cu_X12_puts_p2_0.2.2.2.all (fun q => decide (q.1 = 0) || decide (q.2.1 < (q9tE q9cu_X12_puts_p2_0.2.1).length))) = true := by
  rw [q9hr_X12_puts_p2_0, Bool.true_and]
  decide +kernel
set_option maxRecDepth 100000 in
set_option maxHeartbeats 4000000 in
def q9nd_X12_puts_p2_1_0 : q9ND := (119, ([(0, 0, 0), (2, 12, 0), (0, 0, 11), (0, 0, 2), (0, (-2147483648), 2147483647), (0, 0, 1), (0, 2, 2), (2, 214, 0), (0, 0, 11), (2, 217, 0)], [(0, (1, 0)), (1, (2, 0)), (2, (3, 0)), (3, (4, 0)), (5, (5, 0))], [(9, 0)], [(1, 0), (2, 0), (3, 0)], [(1, 73, (9, 0)), (1, 70, (7, 0)), (1, 66, (6, 0))], [(7, (5, 0), (8, 0))], [(5, 6, (-1))], [], 0, 0))
set_option maxRecDepth 100000 in
set_option maxHeartbeats 4000000 in
def q9nd_X12_puts_p2_1_1 : q9ND := (158, ([(0, 0, 0), (2, 12, 0), (0, 0, 11), (0, 0, 2), (0, (-2147483648), 2147483647), (0, 2, 2), (0, 2, 2), (2, 214, 0), (2, 215, 0)], [(0, (1, 0)), (1, (2, 0)), (2, (3, 0)), (3, (4, 0)), (5, (5, 0))], [(6, 0), (8, 0)], [(1, 0), (2, 0), (3, 0)], [(1, 71, (8, 0)), (1, 70, (7, 0)), (1, 66, (6, 0))], [(7, (6, 0), (2, 0))], [(6, 5, 0)], [], 0, 0))
set_option maxRecDepth 100000 in
set_option maxHeartbeats 4000000 in
def q9nd_X12_puts_p2_1_2 : q9ND := (180, ([(0, 0, 0), (2, 12, 0), (0, 0, 11), (0, 0, 2), (0, (-2147483648), 2147483647), (0, 2, 2), (0, 2, 2), (2, 214, 0), (2, 215, 0), (2, 216, 0), (2, 217, 0)], [(0, (1, 0)), (1, (2, 0)), (2, (3, 0)), (3, (4, 0)), (5, (5, 0))], [(1, 0), (4, 0), (6, 0), (10, 0)], [(1, 0), (2, 0), (3, 0)], [(1, 73, (10, 0)), (1, 72, (9, 0)), (1, 71, (8, 0)), (1, 70, (7, 0)), (1, 66, (6, 0))], [(9, (6, 0), (4, 0)), (8, (6, 0), (3, 0)), (7, (6, 0), (2, 0))], [(6, 5, 0)], [], 0, 0))
def q9tn_X12_puts_p2_1_3 : List q9ND := []
def q9tn_X12_puts_p2_1_2 : List q9ND := q9nd_X12_puts_p2_1_2 :: q9tn_X12_puts_p2_1_3
def q9tn_X12_puts_p2_1_1 : List q9ND := q9nd_X12_puts_p2_1_1 :: q9tn_X12_puts_p2_1_2
def q9tn_X12_puts_p2_1_0 : List q9ND := q9nd_X12_puts_p2_1_0 :: q9tn_X12_puts_p2_1_1
set_option maxRecDepth 100000 in
set_option maxHeartbeats 4000000 in
theorem q9hn_X12_puts_p2_1_0 : q9chkE (q9step q9e_X12_puts_p2 [] [] q9mac_X12_puts_p2 (q9rtB q9i_X12_puts_p2) (q9iC q9i_X12_puts_p2)) q9cu_X12_puts_p2 (some q9cu_X12_puts_p2_1.2.2.2) q9tn_X12_puts_p2_1_1 17 q9nd_X12_puts_p2_1_0.1 q9nd_X12_puts_p2_1_0.2 = true := by decide +kernel
set_option maxRecDepth 100000 in
set_option maxHeartbeats 4000000 in
theorem q9hn_X12_puts_p2_1_1 : q9chkE (q9step q9e_X12_puts_p2 [] [] q9mac_X12_puts_p2 (q9rtB q9i_X12_puts_p2) (q9iC q9i_X12_puts_p2)) q9cu_X12_puts_p2 (some q9cu_X12_puts_p2_1.2.2.2) q9tn_X12_puts_p2_1_2 17 q9nd_X12_puts_p2_1_1.1 q9nd_X12_puts_p2_1_1.2 = true := by decide +kernel
set_option maxRecDepth 100000 in
set_option maxHeartbeats 4000000 in
theorem q9hn_X12_puts_p2_1_2 : q9chkE (q9step q9e_X12_puts_p2 [] [] q9mac_X12_puts_p2 (q9rtB q9i_X12_puts_p2) (q9iC q9i_X12_puts_p2)) q9cu_X12_puts_p2 (some q9cu_X12_puts_p2_1.2.2.2) q9tn_X12_puts_p2_1_3 17 q9nd_X12_puts_p2_1_2.1 q9nd_X12_puts_p2_1_2.2 = true := by decide +kernel
set_option maxRecDepth 100000 in
set_option maxHeartbeats 4000000 in
theorem q9hs_X12_puts_p2_1 : q9chkE (q9step q9e_X12_puts_p2 [] [] q9mac_X12_puts_p2 (q9rtB q9i_X12_puts_p2) (q9iC q9i_X12_puts_p2)) q9cu_X12_puts_p2 (some q9cu_X12_puts_p2_1.2.2.2) q9tn_X12_puts_p2_1_0 17 q9cu_X12_puts_p2_1.1 q9cu_X12_puts_p2_1.2.1 = true := by decide +kernel
set_option maxRecDepth 100000 in
set_option maxHeartbeats 4000000 in
theorem q9hr_X12_puts_p2_1 : q9chk (q9step q9e_X12_puts_p2 [] [] q9mac_X12_puts_p2 (q9rtB q9i_X12_puts_p2) (q9iC q9i_X12_puts_p2)) q9cu_X12_puts_p2 (some q9cu_X12_puts_p2_1.2.2.2) 68 q9cu_X12_puts_p2_1.1 q9cu_X12_puts_p2_1.2.1 = true := q9walkE (N := q9tn_X12_puts_p2_1_0) (f := 17) (n := 3) rfl (Nat.le_of_ble_eq_true rfl) ⟨q9hn_X12_puts_p2_1_0, q9hn_X12_puts_p2_1_1, q9hn_X12_puts_p2_1_2, trivial⟩ q9hs_X12_puts_p2_1
set_option maxRecDepth 100000 in
set_option maxHeartbeats 4000000 in
theorem q9hp_X12_puts_p2_1 : (q9chk (q9step q9e_X12_puts_p2 [] [] q9mac_X12_puts_p2 (q9rtB q9i_X12_puts_p2) (q9iC q9i_X12_puts_p2)) q9cu_X12_puts_p2 (some q9cu_X12_puts_p2_1.2.2.2) 68 q9cu_X12_puts_p2_1.1 q9cu_X12_puts_p2_1.2.1 && q9cu_X12_puts_p2_1.2.2.2.all (fun q => decide (q.1 = 0) || decide (q.2.1 < (q9tE q9cu_X12_puts_p2_1.2.1).length))) = true := by
  rw [q9hr_X12_puts_p2_1, Bool.true_and]
  decide +kernel
set_option maxRecDepth 100000 in
set_option maxHeartbeats 4000000 in
theorem q9hq_X12_puts_p2 : ∀ k ∈ q9cu_X12_puts_p2, (q9chk (q9step q9e_X12_puts_p2 [] [] q9mac_X12_puts_p2 (q9rtB q9i_X12_puts_p2) (q9iC q9i_X12_puts_p2)) q9cu_X12_puts_p2 (some k.2.2.2) 68 k.1 k.2.1 && k.2.2.2.all (fun q => decide (q.1 = 0) || decide (q.2.1 < (q9tE k.2.1).length))) = true := fun k hk => by
  rcases List.mem_cons.mp (show k ∈ q9cu_X12_puts_p2_0 :: [q9cu_X12_puts_p2_1] from hk) with rfl | hk
  · exact q9hp_X12_puts_p2_0
  rcases List.mem_cons.mp hk with rfl | hk
  · exact q9hp_X12_puts_p2_1
  exact absurd hk List.not_mem_nil
set_option maxRecDepth 100000 in
set_option maxHeartbeats 4000000 in
theorem q9c_X12_puts_p2 (l : Launch) (hst : l.stackTraces = false) : q9CON l q9TBL q9ALLW q9i_X12_puts_p2 := q9con_ofX (XP := fun _ _ => True) (mac := q9mac_X12_puts_p2) (q := q9i_X12_puts_p2) (n := q9e_X12_puts_p2) (K := []) (K2 := []) (cuts := q9cu_X12_puts_p2) (f := 68) hst (by decide +kernel) (fun h => absurd rfl h) ⟨q9goodA, q9fs_X12_ok, q9ps_X12_ok, (List.forall_mem_cons.mpr ⟨⟨⟨q9c_X12_lastsIn l hst, q9lk_X12_477_X12_lastsIn⟩, rfl⟩, (List.forall_mem_cons.mpr ⟨⟨⟨q9c_X12_areClashing l hst, q9lk_X12_483_X12_areClashing⟩, rfl⟩, (fun _ h => absurd h List.not_mem_nil)⟩)⟩), (fun _ h => absurd h List.not_mem_nil), q9kas_ok, (fun _ h => absurd h List.not_mem_nil), (fun _ h => absurd h List.not_mem_nil), (fun _ h => absurd h List.not_mem_nil)⟩ rfl rfl rfl (q9macx_none (XP := fun _ _ => True)) (q9conB_of q9hp_X12_puts_p2 q9hq_X12_puts_p2 (by decide +kernel))
def q9i_X12_puts_p3 : q9INST := (yX12_puts, cX12_puts, 6, none, (3, 47, 0, 0), (([(0, 0, 0), (2, 12, 0), (0, 0, 11), (0, 0, 2), (0, 3, 3)], [(0, (1, 0)), (1, (2, 0)), (2, (3, 0))], [], [(1, 0), (2, 0), (3, 0)], [(1, 66, (4, 0))], [], [], [], 0, 0), [(5, 0, (0, 0)), (0, 0, (0, 0)), (0, 1, (0, 0)), (0, 2, (0, 0)), (3, 1, (66, 0))]), [(([(0, 0, 0), (2, 12, 0), (0, 0, 11), (0, 0, 2)], [], [], [(1, 0), (2, 0), (3, 0)], [(1, 66, (0, 4))], [], [], [], 0, 0), [(5, 0, (0, 0)), (2, 0, (0, 0)), (2, 1, (0, 0)), (2, 2, (0, 0))])], [], [834, 100214, 100215, 100216, 100217], [])
def q9e_X12_puts_p3 : q9EN := (q9TBL, q9fs_X12, q9ps_X12, [834, 100214, 100215, 100216, 100217], [(477, 0, 12, q9i_X12_lastsIn), (483, 0, 12, q9i_X12_areClashing)], [], (3, 47, 0, 0), 6, [], [], [])
set_option maxRecDepth 100000 in
set_option maxHeartbeats 4000000 in
def q9cu_X12_puts_p3_0 : q9CUT := (8, ([(0, 0, 0), (2, 12, 0), (0, 0, 11), (0, 0, 2), (0, (-2147483648), 2147483647), (0, (-1), 7), (0, 0, 3), (0, 3, 3)], [(0, (1, 0)), (1, (2, 0)), (2, (3, 0)), (3, (4, 0)), (4, (5, 0)), (5, (6, 0))], [], [(1, 0), (2, 0), (3, 0)], [(1, 66, (7, 0))], [], [], [], 0, 0), [(5, 0, (0, 0)), (0, 0, (0, 0)), (0, 1, (0, 0)), (0, 2, (0, 0)), (0, 3, (0, 0)), (0, 4, (0, 0)), (0, 5, (0, 0)), (3, 1, (66, 0))], [(0, 0, 99992), (2, 6, 3), (0, 0, 99992)])
set_option maxRecDepth 100000 in
set_option maxHeartbeats 4000000 in
def q9cu_X12_puts_p3_1 : q9CUT := (91, ([(0, 0, 0), (2, 12, 0), (0, 0, 11), (0, 0, 2), (0, (-2147483648), 2147483647), (0, 0, 3), (0, 3, 3)], [(0, (1, 0)), (1, (2, 0)), (2, (3, 0)), (3, (4, 0)), (5, (5, 0))], [], [(1, 0), (2, 0), (3, 0)], [(1, 66, (6, 0))], [], [], [], 0, 0), [(5, 0, (0, 0)), (0, 0, (0, 0)), (0, 1, (0, 0)), (0, 2, (0, 0)), (0, 3, (0, 0)), (0, 5, (0, 0)), (3, 1, (66, 0))], [(0, 0, 99909), (2, 5, 3), (0, 0, 99909)])
def q9cu_X12_puts_p3 : List q9CUT := [q9cu_X12_puts_p3_0, q9cu_X12_puts_p3_1]
set_option maxRecDepth 100000 in
set_option maxHeartbeats 4000000 in
def q9mac_X12_puts_p3 : Nat → q9ST → Option (List (Nat × q9ST)) := fun _ _ => none
set_option maxRecDepth 100000 in
set_option maxHeartbeats 4000000 in
theorem q9hp_X12_puts_p3 : q9chk (q9step q9e_X12_puts_p3 [] [] q9mac_X12_puts_p3 (q9rtB q9i_X12_puts_p3) (q9iC q9i_X12_puts_p3)) q9cu_X12_puts_p3 none 68 0 (q9iPre q9i_X12_puts_p3) = true := by decide +kernel
set_option maxRecDepth 100000 in
set_option maxHeartbeats 4000000 in
def q9nd_X12_puts_p3_0_0 : q9ND := (38, ([(0, 0, 0), (2, 12, 0), (0, 0, 11), (0, 0, 2), (0, (-2147483648), 2147483647), (0, (-1), 7), (0, 0, 2), (0, 3, 3), (2, 215, 0), (0, 0, 2), (2, 217, 0), (0, (-2147483648), 2147483647)], [(0, (1, 0)), (1, (2, 0)), (2, (3, 0)), (3, (4, 0)), (4, (5, 0)), (5, (6, 0))], [(11, 0)], [(1, 0), (2, 0), (3, 0)], [(1, 73, (10, 0)), (1, 71, (8, 0)), (1, 66, (7, 0))], [(10, (6, 0), (11, 0)), (8, (6, 0), (9, 0))], [(3, 9, 0), (9, 3, 0), (6, 7, (-1))], [], 0, 0))
set_option maxRecDepth 100000 in
set_option maxHeartbeats 4000000 in
def q9nd_X12_puts_p3_0_1 : q9ND := (87, ([(0, 0, 0), (2, 12, 0), (0, 0, 11), (0, 0, 2), (0, (-2147483648), 2147483647), (0, 0, 7), (0, 3, 3), (0, 3, 3), (2, 198, 0), (0, 0, 7)], [(0, (1, 0)), (1, (2, 0)), (2, (3, 0)), (3, (4, 0)), (4, (5, 0)), (5, (6, 0))], [(4, 0)], [(1, 0), (2, 0), (3, 0)], [(1, 47, (8, 0)), (1, 66, (7, 0))], [(8, (2, 0), (9, 0))], [(9, 5, 0), (5, 9, 0), (7, 6, 0)], [], 0, 0))
set_option maxRecDepth 100000 in
set_option maxHeartbeats 4000000 in
def q9nd_X12_puts_p3_0_2 : q9ND := (80, ([(0, 0, 0), (2, 12, 0), (0, 0, 11), (0, 0, 2), (0, (-2147483648), 2147483647), (0, (-1), 7), (0, 3, 3), (0, 3, 3), (2, 198, 0), (0, 0, 7), (2, 213, 0)], [(0, (1, 0)), (1, (2, 0)), (2, (3, 0)), (3, (4, 0)), (4, (5, 0)), (5, (6, 0))], [(1, 0), (10, 0), (4, 0)], [(1, 0), (2, 0), (3, 0)], [(1, 65, (10, 0)), (1, 47, (8, 0)), (1, 66, (7, 0))], [(8, (2, 0), (9, 0))], [(7, 6, 0)], [], 0, 0))
def q9tn_X12_puts_p3_0_3 : List q9ND := []
def q9tn_X12_puts_p3_0_2 : List q9ND := q9nd_X12_puts_p3_0_2 :: q9tn_X12_puts_p3_0_3
def q9tn_X12_puts_p3_0_1 : List q9ND := q9nd_X12_puts_p3_0_1 :: q9tn_X12_puts_p3_0_2
def q9tn_X12_puts_p3_0_0 : List q9ND := q9nd_X12_puts_p3_0_0 :: q9tn_X12_puts_p3_0_1
set_option maxRecDepth 100000 in
set_option maxHeartbeats 4000000 in
theorem q9hn_X12_puts_p3_0_0 : q9chkE (q9step q9e_X12_puts_p3 [] [] q9mac_X12_puts_p3 (q9rtB q9i_X12_puts_p3) (q9iC q9i_X12_puts_p3)) q9cu_X12_puts_p3 (some q9cu_X12_puts_p3_0.2.2.2) q9tn_X12_puts_p3_0_1 17 q9nd_X12_puts_p3_0_0.1 q9nd_X12_puts_p3_0_0.2 = true := by decide +kernel
set_option maxRecDepth 100000 in
set_option maxHeartbeats 4000000 in
theorem q9hn_X12_puts_p3_0_1 : q9chkE (q9step q9e_X12_puts_p3 [] [] q9mac_X12_puts_p3 (q9rtB q9i_X12_puts_p3) (q9iC q9i_X12_puts_p3)) q9cu_X12_puts_p3 (some q9cu_X12_puts_p3_0.2.2.2) q9tn_X12_puts_p3_0_2 17 q9nd_X12_puts_p3_0_1.1 q9nd_X12_puts_p3_0_1.2 = true := by decide +kernel
set_option maxRecDepth 100000 in
set_option maxHeartbeats 4000000 in
theorem q9hn_X12_puts_p3_0_2 : q9chkE (q9step q9e_X12_puts_p3 [] [] q9mac_X12_puts_p3 (q9rtB q9i_X12_puts_p3) (q9iC q9i_X12_puts_p3)) q9cu_X12_puts_p3 (some q9cu_X12_puts_p3_0.2.2.2) q9tn_X12_puts_p3_0_3 17 q9nd_X12_puts_p3_0_2.1 q9nd_X12_puts_p3_0_2.2 = true := by decide +kernel
set_option maxRecDepth 100000 in
set_option maxHeartbeats 4000000 in
theorem q9hs_X12_puts_p3_0 : q9chkE (q9step q9e_X12_puts_p3 [] [] q9mac_X12_puts_p3 (q9rtB q9i_X12_puts_p3) (q9iC q9i_X12_puts_p3)) q9cu_X12_puts_p3 (some q9cu_X12_puts_p3_0.2.2.2) q9tn_X12_puts_p3_0_0 17 q9cu_X12_puts_p3_0.1 q9cu_X12_puts_p3_0.2.1 = true := by decide +kernel
set_option maxRecDepth 100000 in
set_option maxHeartbeats 4000000 in
theorem q9hr_X12_puts_p3_0 : q9chk (q9step q9e_X12_puts_p3 [] [] q9mac_X12_puts_p3 (q9rtB q9i_X12_puts_p3) (q9iC q9i_X12_puts_p3)) q9cu_X12_puts_p3 (some q9cu_X12_puts_p3_0.2.2.2) 68 q9cu_X12_puts_p3_0.1 q9cu_X12_puts_p3_0.2.1 = true := q9walkE (N := q9tn_X12_puts_p3_0_0) (f := 17) (n := 3) rfl (Nat.le_of_ble_eq_true rfl) ⟨q9hn_X12_puts_p3_0_0, q9hn_X12_puts_p3_0_1, q9hn_X12_puts_p3_0_2, trivial⟩ q9hs_X12_puts_p3_0
set_option maxRecDepth 100000 in
set_option maxHeartbeats 4000000 in
theorem q9hp_X12_puts_p3_0 : (q9chk (q9step q9e_X12_puts_p3 [] [] q9mac_X12_puts_p3 (q9rtB q9i_X12_puts_p3) (q9iC q9i_X12_puts_p3)) q9cu_X12_puts_p3 (some q9cu_X12_puts_p3_0.2.2.2) 68 q9cu_X12_puts_p3_0.1 q9cu_X12_puts_p3_0.2.1 && q9cu_X12_puts_p3_0.2.2.2.all (fun q => decide (q.1 = 0) || decide (q.2.1 < (q9tE q9cu_X12_puts_p3_0.2.1).length))) = true := by
  rw [q9hr_X12_puts_p3_0, Bool.true_and]
  decide +kernel
set_option maxRecDepth 100000 in
set_option maxHeartbeats 4000000 in
def q9nd_X12_puts_p3_1_0 : q9ND := (119, ([(0, 0, 0), (2, 12, 0), (0, 0, 11), (0, 0, 2), (0, (-2147483648), 2147483647), (0, 0, 2), (0, 3, 3), (2, 214, 0), (0, 0, 11), (2, 217, 0)], [(0, (1, 0)), (1, (2, 0)), (2, (3, 0)), (3, (4, 0)), (5, (5, 0))], [(9, 0)], [(1, 0), (2, 0), (3, 0)], [(1, 73, (9, 0)), (1, 70, (7, 0)), (1, 66, (6, 0))], [(7, (5, 0), (8, 0))], [(5, 6, (-1))], [], 0, 0))
set_option maxRecDepth 100000 in
set_option maxHeartbeats 4000000 in
def q9nd_X12_puts_p3_1_1 : q9ND := (158, ([(0, 0, 0), (2, 12, 0), (0, 0, 11), (0, 0, 2), (0, (-2147483648), 2147483647), (0, 3, 3), (0, 3, 3), (2, 214, 0), (2, 215, 0)], [(0, (1, 0)), (1, (2, 0)), (2, (3, 0)), (3, (4, 0)), (5, (5, 0))], [(6, 0), (8, 0)], [(1, 0), (2, 0), (3, 0)], [(1, 71, (8, 0)), (1, 70, (7, 0)), (1, 66, (6, 0))], [(7, (6, 0), (2, 0))], [(6, 5, 0)], [], 0, 0))
set_option maxRecDepth 100000 in
set_option maxHeartbeats 4000000 in
def q9nd_X12_puts_p3_1_2 : q9ND := (180, ([(0, 0, 0), (2, 12, 0), (0, 0, 11), (0, 0, 2), (0, (-2147483648), 2147483647), (0, 3, 3), (0, 3, 3), (2, 214, 0), (2, 215, 0), (2, 216, 0), (2, 217, 0)], [(0, (1, 0)), (1, (2, 0)), (2, (3, 0)), (3, (4, 0)), (5, (5, 0))], [(1, 0), (4, 0), (6, 0), (10, 0)], [(1, 0), (2, 0), (3, 0)], [(1, 73, (10, 0)), (1, 72, (9, 0)), (1, 71, (8, 0)), (1, 70, (7, 0)), (1, 66, (6, 0))], [(9, (6, 0), (4, 0)), (8, (6, 0), (3, 0)), (7, (6, 0), (2, 0))], [(6, 5, 0)], [], 0, 0))
def q9tn_X12_puts_p3_1_3 : List q9ND := []
def q9tn_X12_puts_p3_1_2 : List q9ND := q9nd_X12_puts_p3_1_2 :: q9tn_X12_puts_p3_1_3
def q9tn_X12_puts_p3_1_1 : List q9ND := q9nd_X12_puts_p3_1_1 :: q9tn_X12_puts_p3_1_2
def q9tn_X12_puts_p3_1_0 : List q9ND := q9nd_X12_puts_p3_1_0 :: q9tn_X12_puts_p3_1_1
set_option maxRecDepth 100000 in
set_option maxHeartbeats 4000000 in
theorem q9hn_X12_puts_p3_1_0 : q9chkE (q9step q9e_X12_puts_p3 [] [] q9mac_X12_puts_p3 (q9rtB q9i_X12_puts_p3) (q9iC q9i_X12_puts_p3)) q9cu_X12_puts_p3 (some q9cu_X12_puts_p3_1.2.2.2) q9tn_X12_puts_p3_1_1 17 q9nd_X12_puts_p3_1_0.1 q9nd_X12_puts_p3_1_0.2 = true := by decide +kernel
set_option maxRecDepth 100000 in
set_option maxHeartbeats 4000000 in
theorem q9hn_X12_puts_p3_1_1 : q9chkE (q9step q9e_X12_puts_p3 [] [] q9mac_X12_puts_p3 (q9rtB q9i_X12_puts_p3) (q9iC q9i_X12_puts_p3)) q9cu_X12_puts_p3 (some q9cu_X12_puts_p3_1.2.2.2) q9tn_X12_puts_p3_1_2 17 q9nd_X12_puts_p3_1_1.1 q9nd_X12_puts_p3_1_1.2 = true := by decide +kernel
set_option maxRecDepth 100000 in
set_option maxHeartbeats 4000000 in
theorem q9hn_X12_puts_p3_1_2 : q9chkE (q9step q9e_X12_puts_p3 [] [] q9mac_X12_puts_p3 (q9rtB q9i_X12_puts_p3) (q9iC q9i_X12_puts_p3)) q9cu_X12_puts_p3 (some q9cu_X12_puts_p3_1.2.2.2) q9tn_X12_puts_p3_1_3 17 q9nd_X12_puts_p3_1_2.1 q9nd_X12_puts_p3_1_2.2 = true := by decide +kernel
set_option maxRecDepth 100000 in
set_option maxHeartbeats 4000000 in
theorem q9hs_X12_puts_p3_1 : q9chkE (q9step q9e_X12_puts_p3 [] [] q9mac_X12_puts_p3 (q9rtB q9i_X12_puts_p3) (q9iC q9i_X12_puts_p3)) q9cu_X12_puts_p3 (some q9cu_X12_puts_p3_1.2.2.2) q9tn_X12_puts_p3_1_0 17 q9cu_X12_puts_p3_1.1 q9cu_X12_puts_p3_1.2.1 = true := by decide +kernel
set_option maxRecDepth 100000 in
set_option maxHeartbeats 4000000 in
theorem q9hr_X12_puts_p3_1 : q9chk (q9step q9e_X12_puts_p3 [] [] q9mac_X12_puts_p3 (q9rtB q9i_X12_puts_p3) (q9iC q9i_X12_puts_p3)) q9cu_X12_puts_p3 (some q9cu_X12_puts_p3_1.2.2.2) 68 q9cu_X12_puts_p3_1.1 q9cu_X12_puts_p3_1.2.1 = true := q9walkE (N := q9tn_X12_puts_p3_1_0) (f := 17) (n := 3) rfl (Nat.le_of_ble_eq_true rfl) ⟨q9hn_X12_puts_p3_1_0, q9hn_X12_puts_p3_1_1, q9hn_X12_puts_p3_1_2, trivial⟩ q9hs_X12_puts_p3_1
set_option maxRecDepth 100000 in
set_option maxHeartbeats 4000000 in
theorem q9hp_X12_puts_p3_1 : (q9chk (q9step q9e_X12_puts_p3 [] [] q9mac_X12_puts_p3 (q9rtB q9i_X12_puts_p3) (q9iC q9i_X12_puts_p3)) q9cu_X12_puts_p3 (some q9cu_X12_puts_p3_1.2.2.2) 68 q9cu_X12_puts_p3_1.1 q9cu_X12_puts_p3_1.2.1 && q9cu_X12_puts_p3_1.2.2.2.all (fun q => decide (q.1 = 0) || decide (q.2.1 < (q9tE q9cu_X12_puts_p3_1.2.1).length))) = true := by
  rw [q9hr_X12_puts_p3_1, Bool.true_and]
  decide +kernel
set_option maxRecDepth 100000 in
set_option maxHeartbeats 4000000 in
theorem q9hq_X12_puts_p3 : ∀ k ∈ q9cu_X12_puts_p3, (q9chk (q9step q9e_X12_puts_p3 [] [] q9mac_X12_puts_p3 (q9rtB q9i_X12_puts_p3) (q9iC q9i_X12_puts_p3)) q9cu_X12_puts_p3 (some k.2.2.2) 68 k.1 k.2.1 && k.2.2.2.all (fun q => decide (q.1 = 0) || decide (q.2.1 < (q9tE k.2.1).length))) = true := fun k hk => by
  rcases List.mem_cons.mp (show k ∈ q9cu_X12_puts_p3_0 :: [q9cu_X12_puts_p3_1] from hk) with rfl | hk
  · exact q9hp_X12_puts_p3_0
  rcases List.mem_cons.mp hk with rfl | hk
  · exact q9hp_X12_puts_p3_1
  exact absurd hk List.not_mem_nil
set_option maxRecDepth 100000 in
set_option maxHeartbeats 4000000 in
theorem q9c_X12_puts_p3 (l : Launch) (hst : l.stackTraces = false) : q9CON l q9TBL q9ALLW q9i_X12_puts_p3 := q9con_ofX (XP := fun _ _ => True) (mac := q9mac_X12_puts_p3) (q := q9i_X12_puts_p3) (n := q9e_X12_puts_p3) (K := []) (K2 := []) (cuts := q9cu_X12_puts_p3) (f := 68) hst (by decide +kernel) (fun h => absurd rfl h) ⟨q9goodA, q9fs_X12_ok, q9ps_X12_ok, (List.forall_mem_cons.mpr ⟨⟨⟨q9c_X12_lastsIn l hst, q9lk_X12_477_X12_lastsIn⟩, rfl⟩, (List.forall_mem_cons.mpr ⟨⟨⟨q9c_X12_areClashing l hst, q9lk_X12_483_X12_areClashing⟩, rfl⟩, (fun _ h => absurd h List.not_mem_nil)⟩)⟩), (fun _ h => absurd h List.not_mem_nil), q9kas_ok, (fun _ h => absurd h List.not_mem_nil), (fun _ h => absurd h List.not_mem_nil), (fun _ h => absurd h List.not_mem_nil)⟩ rfl rfl rfl (q9macx_none (XP := fun _ _ => True)) (q9conB_of q9hp_X12_puts_p3 q9hq_X12_puts_p3 (by decide +kernel))
def q9i_X12_puts_p4 : q9INST := (yX12_puts, cX12_puts, 6, none, (3, 47, 0, 0), (([(0, 0, 0), (2, 12, 0), (0, 0, 11), (0, 0, 2), (0, 4, 4)], [(0, (1, 0)), (1, (2, 0)), (2, (3, 0))], [], [(1, 0), (2, 0), (3, 0)], [(1, 66, (4, 0))], [], [], [], 0, 0), [(5, 0, (0, 0)), (0, 0, (0, 0)), (0, 1, (0, 0)), (0, 2, (0, 0)), (3, 1, (66, 0))]), [(([(0, 0, 0), (2, 12, 0), (0, 0, 11), (0, 0, 2)], [], [], [(1, 0), (2, 0), (3, 0)], [(1, 66, (0, 5))], [], [], [], 0, 0), [(5, 0, (0, 0)), (2, 0, (0, 0)), (2, 1, (0, 0)), (2, 2, (0, 0))])], [], [834, 100214, 100215, 100216, 100217], [])
def q9e_X12_puts_p4 : q9EN := (q9TBL, q9fs_X12, q9ps_X12, [834, 100214, 100215, 100216, 100217], [(477, 0, 12, q9i_X12_lastsIn), (483, 0, 12, q9i_X12_areClashing)], [], (3, 47, 0, 0), 6, [], [], [])
set_option maxRecDepth 100000 in
set_option maxHeartbeats 4000000 in
def q9cu_X12_puts_p4_0 : q9CUT := (8, ([(0, 0, 0), (2, 12, 0), (0, 0, 11), (0, 0, 2), (0, (-2147483648), 2147483647), (0, (-1), 7), (0, 0, 4), (0, 4, 4)], [(0, (1, 0)), (1, (2, 0)), (2, (3, 0)), (3, (4, 0)), (4, (5, 0)), (5, (6, 0))], [], [(1, 0), (2, 0), (3, 0)], [(1, 66, (7, 0))], [], [], [], 0, 0), [(5, 0, (0, 0)), (0, 0, (0, 0)), (0, 1, (0, 0)), (0, 2, (0, 0)), (0, 3, (0, 0)), (0, 4, (0, 0)), (0, 5, (0, 0)), (3, 1, (66, 0))], [(0, 0, 99992), (2, 6, 4), (0, 0, 99992)])
set_option maxRecDepth 100000 in
set_option maxHeartbeats 4000000 in
def q9cu_X12_puts_p4_1 : q9CUT := (91, ([(0, 0, 0), (2, 12, 0), (0, 0, 11), (0, 0, 2), (0, (-2147483648), 2147483647), (0, 0, 4), (0, 4, 4)], [(0, (1, 0)), (1, (2, 0)), (2, (3, 0)), (3, (4, 0)), (5, (5, 0))], [], [(1, 0), (2, 0), (3, 0)], [(1, 66, (6, 0))], [], [], [], 0, 0), [(5, 0, (0, 0)), (0, 0, (0, 0)), (0, 1, (0, 0)), (0, 2, (0, 0)), (0, 3, (0, 0)), (0, 5, (0, 0)), (3, 1, (66, 0))], [(0, 0, 99909), (2, 5, 4), (0, 0, 99909)])
def q9cu_X12_puts_p4 : List q9CUT := [q9cu_X12_puts_p4_0, q9cu_X12_puts_p4_1]
set_option maxRecDepth 100000 in
set_option maxHeartbeats 4000000 in
def q9mac_X12_puts_p4 : Nat → q9ST → Option (List (Nat × q9ST)) := fun _ _ => none
set_option maxRecDepth 100000 in
set_option maxHeartbeats 4000000 in
theorem q9hp_X12_puts_p4 : q9chk (q9step q9e_X12_puts_p4 [] [] q9mac_X12_puts_p4 (q9rtB q9i_X12_puts_p4) (q9iC q9i_X12_puts_p4)) q9cu_X12_puts_p4 none 68 0 (q9iPre q9i_X12_puts_p4) = true := by decide +kernel
set_option maxRecDepth 100000 in
set_option maxHeartbeats 4000000 in
def q9nd_X12_puts_p4_0_0 : q9ND := (38, ([(0, 0, 0), (2, 12, 0), (0, 0, 11), (0, 0, 2), (0, (-2147483648), 2147483647), (0, (-1), 7), (0, 0, 3), (0, 4, 4), (2, 215, 0), (0, 0, 2), (2, 217, 0), (0, (-2147483648), 2147483647)], [(0, (1, 0)), (1, (2, 0)), (2, (3, 0)), (3, (4, 0)), (4, (5, 0)), (5, (6, 0))], [(11, 0)], [(1, 0), (2, 0), (3, 0)], [(1, 73, (10, 0)), (1, 71, (8, 0)), (1, 66, (7, 0))], [(10, (6, 0), (11, 0)), (8, (6, 0), (9, 0))], [(3, 9, 0), (9, 3, 0), (6, 7, (-1))], [], 0, 0))
set_option maxRecDepth 100000 in
set_option maxHeartbeats 4000000 in
def q9nd_X12_puts_p4_0_1 : q9ND := (87, ([(0, 0, 0), (2, 12, 0), (0, 0, 11), (0, 0, 2), (0, (-2147483648), 2147483647), (0, 0, 7), (0, 4, 4), (0, 4, 4), (2, 198, 0), (0, 0, 7)], [(0, (1, 0)), (1, (2, 0)), (2, (3, 0)), (3, (4, 0)), (4, (5, 0)), (5, (6, 0))], [(4, 0)], [(1, 0), (2, 0), (3, 0)], [(1, 47, (8, 0)), (1, 66, (7, 0))], [(8, (2, 0), (9, 0))], [(9, 5, 0), (5, 9, 0), (7, 6, 0)], [], 0, 0))
set_option maxRecDepth 100000 in
set_option maxHeartbeats 4000000 in
def q9nd_X12_puts_p4_0_2 : q9ND := (80, ([(0, 0, 0), (2, 12, 0), (0, 0, 11), (0, 0, 2), (0, (-2147483648), 2147483647), (0, (-1), 7), (0, 4, 4), (0, 4, 4), (2, 198, 0), (0, 0, 7), (2, 213, 0)], [(0, (1, 0)), (1, (2, 0)), (2, (3, 0)), (3, (4, 0)), (4, (5, 0)), (5, (6, 0))], [(1, 0), (10, 0), (4, 0)], [(1, 0), (2, 0), (3, 0)], [(1, 65, (10, 0)), (1, 47, (8, 0)), (1, 66, (7, 0))], [(8, (2, 0), (9, 0))], [(7, 6, 0)], [], 0, 0))
def q9tn_X12_puts_p4_0_3 : List q9ND := []
def q9tn_X12_puts_p4_0_2 : List q9ND := q9nd_X12_puts_p4_0_2 :: q9tn_X12_puts_p4_0_3
def q9tn_X12_puts_p4_0_1 : List q9ND := q9nd_X12_puts_p4_0_1 :: q9tn_X12_puts_p4_0_2
def q9tn_X12_puts_p4_0_0 : List q9ND := q9nd_X12_puts_p4_0_0 :: q9tn_X12_puts_p4_0_1
set_option maxRecDepth 100000 in
set_option maxHeartbeats 4000000 in
theorem q9hn_X12_puts_p4_0_0 : q9chkE (q9step q9e_X12_puts_p4 [] [] q9mac_X12_puts_p4 (q9rtB q9i_X12_puts_p4) (q9iC q9i_X12_puts_p4)) q9cu_X12_puts_p4 (some q9cu_X12_puts_p4_0.2.2.2) q9tn_X12_puts_p4_0_1 17 q9nd_X12_puts_p4_0_0.1 q9nd_X12_puts_p4_0_0.2 = true := by decide +kernel
set_option maxRecDepth 100000 in
set_option maxHeartbeats 4000000 in
theorem q9hn_X12_puts_p4_0_1 : q9chkE (q9step q9e_X12_puts_p4 [] [] q9mac_X12_puts_p4 (q9rtB q9i_X12_puts_p4) (q9iC q9i_X12_puts_p4)) q9cu_X12_puts_p4 (some q9cu_X12_puts_p4_0.2.2.2) q9tn_X12_puts_p4_0_2 17 q9nd_X12_puts_p4_0_1.1 q9nd_X12_puts_p4_0_1.2 = true := by decide +kernel
set_option maxRecDepth 100000 in
set_option maxHeartbeats 4000000 in
theorem q9hn_X12_puts_p4_0_2 : q9chkE (q9step q9e_X12_puts_p4 [] [] q9mac_X12_puts_p4 (q9rtB q9i_X12_puts_p4) (q9iC q9i_X12_puts_p4)) q9cu_X12_puts_p4 (some q9cu_X12_puts_p4_0.2.2.2) q9tn_X12_puts_p4_0_3 17 q9nd_X12_puts_p4_0_2.1 q9nd_X12_puts_p4_0_2.2 = true := by decide +kernel
set_option maxRecDepth 100000 in
set_option maxHeartbeats 4000000 in
theorem q9hs_X12_puts_p4_0 : q9chkE (q9step q9e_X12_puts_p4 [] [] q9mac_X12_puts_p4 (q9rtB q9i_X12_puts_p4) (q9iC q9i_X12_puts_p4)) q9cu_X12_puts_p4 (some q9cu_X12_puts_p4_0.2.2.2) q9tn_X12_puts_p4_0_0 17 q9cu_X12_puts_p4_0.1 q9cu_X12_puts_p4_0.2.1 = true := by decide +kernel
set_option maxRecDepth 100000 in
set_option maxHeartbeats 4000000 in
theorem q9hr_X12_puts_p4_0 : q9chk (q9step q9e_X12_puts_p4 [] [] q9mac_X12_puts_p4 (q9rtB q9i_X12_puts_p4) (q9iC q9i_X12_puts_p4)) q9cu_X12_puts_p4 (some q9cu_X12_puts_p4_0.2.2.2) 68 q9cu_X12_puts_p4_0.1 q9cu_X12_puts_p4_0.2.1 = true := q9walkE (N := q9tn_X12_puts_p4_0_0) (f := 17) (n := 3) rfl (Nat.le_of_ble_eq_true rfl) ⟨q9hn_X12_puts_p4_0_0, q9hn_X12_puts_p4_0_1, q9hn_X12_puts_p4_0_2, trivial⟩ q9hs_X12_puts_p4_0
set_option maxRecDepth 100000 in
set_option maxHeartbeats 4000000 in
theorem q9hp_X12_puts_p4_0 : (q9chk (q9step q9e_X12_puts_p4 [] [] q9mac_X12_puts_p4 (q9rtB q9i_X12_puts_p4) (q9iC q9i_X12_puts_p4)) q9cu_X12_puts_p4 (some q9cu_X12_puts_p4_0.2.2.2) 68 q9cu_X12_puts_p4_0.1 q9cu_X12_puts_p4_0.2.1 && q9cu_X12_puts_p4_0.2.2.2.all (fun q => decide (q.1 = 0) || decide (q.2.1 < (q9tE q9cu_X12_puts_p4_0.2.1).length))) = true := by
  rw [q9hr_X12_puts_p4_0, Bool.true_and]
  decide +kernel
set_option maxRecDepth 100000 in
set_option maxHeartbeats 4000000 in
def q9nd_X12_puts_p4_1_0 : q9ND := (119, ([(0, 0, 0), (2, 12, 0), (0, 0, 11), (0, 0, 2), (0, (-2147483648), 2147483647), (0, 0, 3), (0, 4, 4), (2, 214, 0), (0, 0, 11), (2, 217, 0)], [(0, (1, 0)), (1, (2, 0)), (2, (3, 0)), (3, (4, 0)), (5, (5, 0))], [(9, 0)], [(1, 0), (2, 0), (3, 0)], [(1, 73, (9, 0)), (1, 70, (7, 0)), (1, 66, (6, 0))], [(7, (5, 0), (8, 0))], [(5, 6, (-1))], [], 0, 0))
set_option maxRecDepth 100000 in
set_option maxHeartbeats 4000000 in
def q9nd_X12_puts_p4_1_1 : q9ND := (158, ([(0, 0, 0), (2, 12, 0), (0, 0, 11), (0, 0, 2), (0, (-2147483648), 2147483647), (0, 4, 4), (0, 4, 4), (2, 214, 0), (2, 215, 0)], [(0, (1, 0)), (1, (2, 0)), (2, (3, 0)), (3, (4, 0)), (5, (5, 0))], [(6, 0), (8, 0)], [(1, 0), (2, 0), (3, 0)], [(1, 71, (8, 0)), (1, 70, (7, 0)), (1, 66, (6, 0))], [(7, (6, 0), (2, 0))], [(6, 5, 0)], [], 0, 0))
set_option maxRecDepth 100000 in
set_option maxHeartbeats 4000000 in
def q9nd_X12_puts_p4_1_2 : q9ND := (180, ([(0, 0, 0), (2, 12, 0), (0, 0, 11), (0, 0, 2), (0, (-2147483648), 2147483647), (0, 4, 4), (0, 4, 4), (2, 214, 0), (2, 215, 0), (2, 216, 0), (2, 217, 0)], [(0, (1, 0)), (1, (2, 0)), (2, (3, 0)), (3, (4, 0)), (5, (5, 0))], [(1, 0), (4, 0), (6, 0), (10, 0)], [(1, 0), (2, 0), (3, 0)], [(1, 73, (10, 0)), (1, 72, (9, 0)), (1, 71, (8, 0)), (1, 70, (7, 0)), (1, 66, (6, 0))], [(9, (6, 0), (4, 0)), (8, (6, 0), (3, 0)), (7, (6, 0), (2, 0))], [(6, 5, 0)], [], 0, 0))
def q9tn_X12_puts_p4_1_3 : List q9ND := []
def q9tn_X12_puts_p4_1_2 : List q9ND := q9nd_X12_puts_p4_1_2 :: q9tn_X12_puts_p4_1_3
def q9tn_X12_puts_p4_1_1 : List q9ND := q9nd_X12_puts_p4_1_1 :: q9tn_X12_puts_p4_1_2
def q9tn_X12_puts_p4_1_0 : List q9ND := q9nd_X12_puts_p4_1_0 :: q9tn_X12_puts_p4_1_1
set_option maxRecDepth 100000 in
set_option maxHeartbeats 4000000 in
theorem q9hn_X12_puts_p4_1_0 : q9chkE (q9step q9e_X12_puts_p4 [] [] q9mac_X12_puts_p4 (q9rtB q9i_X12_puts_p4) (q9iC q9i_X12_puts_p4)) q9cu_X12_puts_p4 (some q9cu_X12_puts_p4_1.2.2.2) q9tn_X12_puts_p4_1_1 17 q9nd_X12_puts_p4_1_0.1 q9nd_X12_puts_p4_1_0.2 = true := by decide +kernel
set_option maxRecDepth 100000 in
set_option maxHeartbeats 4000000 in
theorem q9hn_X12_puts_p4_1_1 : q9chkE (q9step q9e_X12_puts_p4 [] [] q9mac_X12_puts_p4 (q9rtB q9i_X12_puts_p4) (q9iC q9i_X12_puts_p4)) q9cu_X12_puts_p4 (some q9cu_X12_puts_p4_1.2.2.2) q9tn_X12_puts_p4_1_2 17 q9nd_X12_puts_p4_1_1.1 q9nd_X12_puts_p4_1_1.2 = true := by decide +kernel
set_option maxRecDepth 100000 in
set_option maxHeartbeats 4000000 in
theorem q9hn_X12_puts_p4_1_2 : q9chkE (q9step q9e_X12_puts_p4 [] [] q9mac_X12_puts_p4 (q9rtB q9i_X12_puts_p4) (q9iC q9i_X12_puts_p4)) q9cu_X12_puts_p4 (some q9cu_X12_puts_p4_1.2.2.2) q9tn_X12_puts_p4_1_3 17 q9nd_X12_puts_p4_1_2.1 q9nd_X12_puts_p4_1_2.2 = true := by decide +kernel
set_option maxRecDepth 100000 in
set_option maxHeartbeats 4000000 in
theorem q9hs_X12_puts_p4_1 : q9chkE (q9step q9e_X12_puts_p4 [] [] q9mac_X12_puts_p4 (q9rtB q9i_X12_puts_p4) (q9iC q9i_X12_puts_p4)) q9cu_X12_puts_p4 (some q9cu_X12_puts_p4_1.2.2.2) q9tn_X12_puts_p4_1_0 17 q9cu_X12_puts_p4_1.1 q9cu_X12_puts_p4_1.2.1 = true := by decide +kernel
set_option maxRecDepth 100000 in
set_option maxHeartbeats 4000000 in
theorem q9hr_X12_puts_p4_1 : q9chk (q9step q9e_X12_puts_p4 [] [] q9mac_X12_puts_p4 (q9rtB q9i_X12_puts_p4) (q9iC q9i_X12_puts_p4)) q9cu_X12_puts_p4 (some q9cu_X12_puts_p4_1.2.2.2) 68 q9cu_X12_puts_p4_1.1 q9cu_X12_puts_p4_1.2.1 = true := q9walkE (N := q9tn_X12_puts_p4_1_0) (f := 17) (n := 3) rfl (Nat.le_of_ble_eq_true rfl) ⟨q9hn_X12_puts_p4_1_0, q9hn_X12_puts_p4_1_1, q9hn_X12_puts_p4_1_2, trivial⟩ q9hs_X12_puts_p4_1
set_option maxRecDepth 100000 in
set_option maxHeartbeats 4000000 in
theorem q9hp_X12_puts_p4_1 : (q9chk (q9step q9e_X12_puts_p4 [] [] q9mac_X12_puts_p4 (q9rtB q9i_X12_puts_p4) (q9iC q9i_X12_puts_p4)) q9cu_X12_puts_p4 (some q9cu_X12_puts_p4_1.2.2.2) 68 q9cu_X12_puts_p4_1.1 q9cu_X12_puts_p4_1.2.1 && q9cu_X12_puts_p4_1.2.2.2.all (fun q => decide (q.1 = 0) || decide (q.2.1 < (q9tE q9cu_X12_puts_p4_1.2.1).length))) = true := by
  rw [q9hr_X12_puts_p4_1, Bool.true_and]
  decide +kernel
set_option maxRecDepth 100000 in
set_option maxHeartbeats 4000000 in
theorem q9hq_X12_puts_p4 : ∀ k ∈ q9cu_X12_puts_p4, (q9chk (q9step q9e_X12_puts_p4 [] [] q9mac_X12_puts_p4 (q9rtB q9i_X12_puts_p4) (q9iC q9i_X12_puts_p4)) q9cu_X12_puts_p4 (some k.2.2.2) 68 k.1 k.2.1 && k.2.2.2.all (fun q => decide (q.1 = 0) || decide (q.2.1 < (q9tE k.2.1).length))) = true := fun k hk => by
  rcases List.mem_cons.mp (show k ∈ q9cu_X12_puts_p4_0 :: [q9cu_X12_puts_p4_1] from hk) with rfl | hk
  · exact q9hp_X12_puts_p4_0
  rcases List.mem_cons.mp hk with rfl | hk
  · exact q9hp_X12_puts_p4_1
  exact absurd hk List.not_mem_nil
set_option maxRecDepth 100000 in
set_option maxHeartbeats 4000000 in
theorem q9c_X12_puts_p4 (l : Launch) (hst : l.stackTraces = false) : q9CON l q9TBL q9ALLW q9i_X12_puts_p4 := q9con_ofX (XP := fun _ _ => True) (mac := q9mac_X12_puts_p4) (q := q9i_X12_puts_p4) (n := q9e_X12_puts_p4) (K := []) (K2 := []) (cuts := q9cu_X12_puts_p4) (f := 68) hst (by decide +kernel) (fun h => absurd rfl h) ⟨q9goodA, q9fs_X12_ok, q9ps_X12_ok, (List.forall_mem_cons.mpr ⟨⟨⟨q9c_X12_lastsIn l hst, q9lk_X12_477_X12_lastsIn⟩, rfl⟩, (List.forall_mem_cons.mpr ⟨⟨⟨q9c_X12_areClashing l hst, q9lk_X12_483_X12_areClashing⟩, rfl⟩, (fun _ h => absurd h List.not_mem_nil)⟩)⟩), (fun _ h => absurd h List.not_mem_nil), q9kas_ok, (fun _ h => absurd h List.not_mem_nil), (fun _ h => absurd h List.not_mem_nil), (fun _ h => absurd h List.not_mem_nil)⟩ rfl rfl rfl (q9macx_none (XP := fun _ _ => True)) (q9conB_of q9hp_X12_puts_p4 q9hq_X12_puts_p4 (by decide +kernel))
def q9i_X12_tryAll_p5 : q9INST := (yX12_tryAll, cX12_tryAll, 7, none, (1, 1, 0, 0), (([(0, 0, 0), (2, 12, 0), (0, (-2147483648), 2147483647), (0, 5, 5), (0, 0, 0)], [(0, (1, 0)), (1, (2, 0))], [], [(1, 0), (2, 0)], [(1, 66, (3, 0))], [], [], [(31, (2, 0), (0, 32), 4)], 0, 0), [(5, 0, (0, 0)), (0, 0, (0, 0)), (0, 1, (0, 0)), (3, 1, (66, 0)), (131, 2, (0, 32))]), [(([(0, 0, 0), (2, 12, 0), (0, (-2147483648), 2147483647)], [], [], [(1, 0), (2, 0)], [(1, 66, (0, 5))], [], [], [], 0, 0), [(5, 0, (0, 0)), (2, 0, (0, 0)), (2, 1, (0, 0))])], [], [835, 836, 837, 100218, 100219, 100220, 100221], [])
def q9e_X12_tryAll_p5 : q9EN := (q9TBL, q9fs_X12, q9ps_X12, [835, 836, 837, 100218, 100219, 100220, 100221], [], [], (1, 1, 0, 0), 7, [], [], [])
set_option maxRecDepth 100000 in
set_option maxHeartbeats 4000000 in
def q9cu_X12_tryAll_p5_0 : q9CUT := (12, ([(0, 0, 0), (2, 12, 0), (1, 0, 2147483647), (1, (-9223372036854775808), 9223372036854775807), (0, 0, 5), (0, 0, 0), (0, 5, 5), (0, 0, 0)], [(0, (1, 0)), (2, (2, 0)), (4, (3, 0)), (6, (4, 0))], [], [(1, 0), (5, 0)], [(1, 66, (6, 0))], [], [], [(31, (5, 0), (0, 32), 7)], 0, 0), [(5, 0, (0, 0)), (0, 0, (0, 0)), (0, 2, (0, 0)), (0, 4, (0, 0)), (0, 6, (0, 0)), (2, 1, (0, 0)), (3, 1, (66, 0)), (131, 5, (0, 32))], [(0, 0, 99988), (2, 4, 5), (0, 0, 99988), (0, 0, 0), (0, 0, 0)])
set_option maxRecDepth 100000 in
set_option maxHeartbeats 4000000 in
def q9cu_X12_tryAll_p5_1 : q9CUT := (124, ([(0, 0, 0), (2, 12, 0), (0, 0, 5), (0, 0, 0), (0, 5, 5), (0, 0, 0)], [(0, (1, 0)), (6, (2, 0))], [], [(1, 0), (3, 0)], [(1, 66, (4, 0))], [], [], [(31, (3, 0), (0, 32), 5)], 0, 0), [(5, 0, (0, 0)), (0, 0, (0, 0)), (0, 6, (0, 0)), (2, 1, (0, 0)), (3, 1, (66, 0)), (131, 3, (0, 32))], [(0, 0, 99876), (2, 2, 5), (0, 0, 99876), (0, 0, 0), (0, 0, 0)])
set_option maxRecDepth 100000 in
set_option maxHeartbeats 4000000 in
def q9cu_X12_tryAll_p5_2 : q9CUT := (198, ([(0, 0, 0), (2, 12, 0), (0, (-2147483648), 2147483647), (0, 0, 12), (0, 5, 5), (0, 0, 0)], [(0, (1, 0)), (1, (2, 0)), (2, (3, 0))], [], [(1, 0), (2, 0)], [(1, 66, (4, 0))], [], [], [(31, (2, 0), (0, 32), 5)], 0, 0), [(5, 0, (0, 0)), (0, 0, (0, 0)), (0, 1, (0, 0)), (0, 2, (0, 0)), (3, 1, (66, 0)), (131, 2, (0, 32))], [(0, 0, 99802), (2, 3, 12), (0, 0, 99802), (0, 0, 0), (0, 0, 0)])
set_option maxRecDepth 100000 in
set_option maxHeartbeats 4000000 in
def q9cu_X12_tryAll_p5_3 : q9CUT := (208, ([(0, 0, 0), (2, 12, 0), (0, (-2147483648), 2147483647), (0, 0, 11), (0, 0, 0), (0, 1, 12), (0, 5, 5), (0, 0, 0)], [(0, (1, 0)), (1, (2, 0)), (2, (3, 0)), (3, (4, 0))], [], [(1, 0), (2, 0)], [(1, 38, (5, 0)), (1, 66, (6, 0))], [], [(3, 5, (-1))], [(31, (2, 0), (0, 32), 7)], 0, 0), [(5, 0, (0, 0)), (0, 0, (0, 0)), (0, 1, (0, 0)), (0, 2, (0, 0)), (0, 3, (0, 0)), (3, 1, (38, 0)), (3, 1, (66, 0)), (131, 2, (0, 32))], [(0, 0, 99802), (2, 3, 12), (0, 0, 99792), (2, 2, 2147483647), (0, 0, 99792)])
def q9cu_X12_tryAll_p5 : List q9CUT := [q9cu_X12_tryAll_p5_0, q9cu_X12_tryAll_p5_1, q9cu_X12_tryAll_p5_2, q9cu_X12_tryAll_p5_3]
set_option maxRecDepth 100000 in
set_option maxHeartbeats 4000000 in
def q9mac_X12_tryAll_p5 : Nat → q9ST → Option (List (Nat × q9ST)) := q9rfM (q9stM q9e_X12_tryAll_p5 [] [] (fun _ _ => none) cX12_tryAll) [(222, [q9wT [(5, 0, (0, 0)), (0, 1, (0, 0)), (0, 2, (0, 0))] (fun th => q9bitR (q9gA th 1) (q9gA th 2))]), (236, [q9wT [(5, 0, (0, 0)), (0, 1, (0, 0)), (0, 2, (0, 0)), (1, 0, (0, 0))] (fun th => q9clrR (q9gA th 1) (q9gA th 2) (q9gA th 3))])]
set_option maxRecDepth 100000 in
set_option maxHeartbeats 4000000 in
theorem q9hp_X12_tryAll_p5 : q9chk (q9step q9e_X12_tryAll_p5 [] [] q9mac_X12_tryAll_p5 (q9rtB q9i_X12_tryAll_p5) (q9iC q9i_X12_tryAll_p5)) q9cu_X12_tryAll_p5 none 136 0 (q9iPre q9i_X12_tryAll_p5) = true := by decide +kernel
set_option maxRecDepth 100000 in
set_option maxHeartbeats 4000000 in
def q9nd_X12_tryAll_p5_0_0 : q9ND := (38, ([(0, 0, 0), (2, 12, 0), (1, 0, 2147483646), (1, (-9223372036854775808), 9223372036854775807), (0, 0, 4), (0, 0, 0), (0, 5, 5), (0, 0, 0), (2, 217, 0), (0, (-2147483648), 2147483647), (1, 1, 2147483647), (0, 1, 1)], [(0, (1, 0)), (2, (2, 0)), (4, (3, 0)), (6, (4, 0))], [(8, 0)], [(1, 0), (5, 0)], [(1, 73, (8, 0)), (1, 66, (6, 0))], [(8, (4, 0), (9, 0))], [(2, 10, (-1)), (4, 6, (-1))], [(24, (10, 0), (2, 0), 11), (11, (9, 0), (9, 0), 10), (31, (5, 0), (0, 32), 7)], 0, 0))
set_option maxRecDepth 100000 in
set_option maxHeartbeats 4000000 in
def q9nd_X12_tryAll_p5_0_1 : q9ND := (63, ([(0, 0, 0), (2, 12, 0), (1, 0, 2147483646), (1, (-9223372036854775808), 9223372036854775807), (0, 0, 4), (0, 0, 0), (0, 5, 5), (0, 0, 0), (2, 217, 0), (0, (-2147483648), 2147483647), (1, 1, 2147483647), (0, 1, 1), (1, (-9223372036854775808), 9223372036854775807)], [(6, (4, 1)), (4, (12, 0)), (2, (10, 0)), (0, (1, 0))], [], [(1, 0), (5, 0)], [(1, 73, (8, 0)), (1, 66, (6, 0))], [(8, (4, 0), (9, 0))], [(2, 10, (-1)), (4, 6, (-1))], [(20, (3, 0), (10, 0), 12), (24, (10, 0), (2, 0), 11), (11, (9, 0), (9, 0), 10), (31, (5, 0), (0, 32), 7)], 0, 0))
set_option maxRecDepth 100000 in
set_option maxHeartbeats 4000000 in
def q9nd_X12_tryAll_p5_0_2 : q9ND := (47, ([(0, 0, 0), (2, 12, 0), (1, 0, 2147483647), (1, (-9223372036854775808), 9223372036854775807), (0, 0, 4), (0, 0, 0), (0, 5, 5), (0, 0, 0), (2, 217, 0), (0, (-2147483648), 2147483647), (1, (-2147483648), 2147483647), (0, (-1), 0)], [(2, (2, 0)), (0, (1, 0)), (4, (3, 0)), (6, (4, 0))], [], [(1, 0), (5, 0)], [(1, 73, (8, 0)), (1, 66, (6, 0))], [(8, (4, 0), (9, 0))], [(10, 2, 0), (4, 6, (-1))], [(24, (10, 0), (2, 0), 11), (11, (9, 0), (9, 0), 10), (31, (5, 0), (0, 32), 7)], 0, 0))
set_option maxRecDepth 100000 in
set_option maxHeartbeats 4000000 in
def q9nd_X12_tryAll_p5_0_3 : q9ND := (84, ([(0, 0, 0), (2, 12, 0), (1, 0, 2147483647), (1, (-9223372036854775808), 9223372036854775807), (0, 5, 5), (0, 0, 0), (0, 5, 5), (0, 0, 0), (0, 1, 5), (1, 0, 9223372036854775807), (0, (-1), 0)], [(0, (1, 0)), (2, (2, 0)), (4, (3, 0)), (6, (4, 0))], [(1, 0), (2, 0)], [(1, 0), (5, 0)], [(1, 68, (9, 0)), (1, 67, (8, 0)), (1, 66, (6, 0))], [], [(2, 9, 0), (6, 4, 0)], [(24, (2, 0), (9, 0), 10), (31, (5, 0), (0, 32), 7)], 0, 0))
set_option maxRecDepth 100000 in
set_option maxHeartbeats 4000000 in
def q9nd_X12_tryAll_p5_0_4 : q9ND := (112, ([(0, 0, 0), (2, 12, 0), (1, 0, 2147483647), (1, (-9223372036854775808), 9223372036854775806), (0, 5, 5), (0, 0, 0), (0, 5, 5), (0, 0, 0), (0, 1, 5), (1, 0, 2147483647), (0, 0, 0), (1, (-9223372036854775807), 9223372036854775807), (0, (-1), (-1))], [(0, (1, 0)), (2, (2, 0)), (4, (3, 0)), (6, (4, 0))], [(2, 0), (1, 0)], [(1, 0), (5, 0)], [(1, 67, (6, 0)), (1, 69, (11, 0)), (1, 68, (9, 0)), (1, 66, (6, 0))], [], [(3, 11, (-1)), (9, 2, 0), (2, 9, 0), (2, 9, 0), (6, 4, 0)], [(24, (3, 0), (11, 0), 12), (24, (2, 0), (9, 0), 10), (31, (5, 0), (0, 32), 7)], 0, 0))
set_option maxRecDepth 100000 in
set_option maxHeartbeats 4000000 in
def q9nd_X12_tryAll_p5_0_5 : q9ND := (122, ([(0, 0, 0), (2, 12, 0), (1, 0, 2147483647), (1, (-9223372036854775808), 9223372036854775807), (0, 5, 5), (0, 0, 0), (0, 5, 5), (0, 0, 0), (0, 1, 5), (1, 0, 9223372036854775807), (0, (-1), (-1))], [(0, (1, 0)), (2, (2, 0)), (4, (3, 0)), (6, (4, 0))], [(0, 0)], [(1, 0), (5, 0)], [(1, 69, (3, 0)), (1, 68, (2, 0)), (1, 67, (6, 0)), (1, 66, (6, 0))], [], [(2, 9, 0), (6, 4, 0)], [(24, (2, 0), (9, 0), 10), (31, (5, 0), (0, 32), 7)], 0, 0))
set_option maxRecDepth 100000 in
set_option maxHeartbeats 4000000 in
def q9nd_X12_tryAll_p5_0_6 : q9ND := (115, ([(0, 0, 0), (2, 12, 0), (1, 0, 2147483647), (1, (-9223372036854775808), 9223372036854775807), (0, 5, 5), (0, 0, 0), (0, 5, 5), (0, 0, 0), (0, 0, 0)], [(0, (1, 0)), (2, (2, 0)), (4, (3, 0)), (6, (4, 0))], [], [(1, 0), (5, 0)], [(1, 68, (2, 0)), (1, 67, (6, 0)), (1, 66, (6, 0))], [], [(6, 4, 0)], [(31, (5, 0), (0, 32), 7)], 0, 0))
def q9tn_X12_tryAll_p5_0_7 : List q9ND := []
def q9tn_X12_tryAll_p5_0_6 : List q9ND := q9nd_X12_tryAll_p5_0_6 :: q9tn_X12_tryAll_p5_0_7
def q9tn_X12_tryAll_p5_0_5 : List q9ND := q9nd_X12_tryAll_p5_0_5 :: q9tn_X12_tryAll_p5_0_6
def q9tn_X12_tryAll_p5_0_4 : List q9ND := q9nd_X12_tryAll_p5_0_4 :: q9tn_X12_tryAll_p5_0_5
def q9tn_X12_tryAll_p5_0_3 : List q9ND := q9nd_X12_tryAll_p5_0_3 :: q9tn_X12_tryAll_p5_0_4
def q9tn_X12_tryAll_p5_0_2 : List q9ND := q9nd_X12_tryAll_p5_0_2 :: q9tn_X12_tryAll_p5_0_3
def q9tn_X12_tryAll_p5_0_1 : List q9ND := q9nd_X12_tryAll_p5_0_1 :: q9tn_X12_tryAll_p5_0_2
def q9tn_X12_tryAll_p5_0_0 : List q9ND := q9nd_X12_tryAll_p5_0_0 :: q9tn_X12_tryAll_p5_0_1
set_option maxRecDepth 100000 in
set_option maxHeartbeats 4000000 in
theorem q9hn_X12_tryAll_p5_0_0 : q9chkE (q9step q9e_X12_tryAll_p5 [] [] q9mac_X12_tryAll_p5 (q9rtB q9i_X12_tryAll_p5) (q9iC q9i_X12_tryAll_p5)) q9cu_X12_tryAll_p5 (some q9cu_X12_tryAll_p5_0.2.2.2) q9tn_X12_tryAll_p5_0_1 17 q9nd_X12_tryAll_p5_0_0.1 q9nd_X12_tryAll_p5_0_0.2 = true := by decide +kernel
set_option maxRecDepth 100000 in
set_option maxHeartbeats 4000000 in
theorem q9hn_X12_tryAll_p5_0_1 : q9chkE (q9step q9e_X12_tryAll_p5 [] [] q9mac_X12_tryAll_p5 (q9rtB q9i_X12_tryAll_p5) (q9iC q9i_X12_tryAll_p5)) q9cu_X12_tryAll_p5 (some q9cu_X12_tryAll_p5_0.2.2.2) q9tn_X12_tryAll_p5_0_2 17 q9nd_X12_tryAll_p5_0_1.1 q9nd_X12_tryAll_p5_0_1.2 = true := by decide +kernel
set_option maxRecDepth 100000 in
set_option maxHeartbeats 4000000 in
theorem q9hn_X12_tryAll_p5_0_2 : q9chkE (q9step q9e_X12_tryAll_p5 [] [] q9mac_X12_tryAll_p5 (q9rtB q9i_X12_tryAll_p5) (q9iC q9i_X12_tryAll_p5)) q9cu_X12_tryAll_p5 (some q9cu_X12_tryAll_p5_0.2.2.2) q9tn_X12_tryAll_p5_0_3 17 q9nd_X12_tryAll_p5_0_2.1 q9nd_X12_tryAll_p5_0_2.2 = true := by decide +kernel
set_option maxRecDepth 100000 in
set_option maxHeartbeats 4000000 in
theorem q9hn_X12_tryAll_p5_0_3 : q9chkE (q9step q9e_X12_tryAll_p5 [] [] q9mac_X12_tryAll_p5 (q9rtB q9i_X12_tryAll_p5) (q9iC q9i_X12_tryAll_p5)) q9cu_X12_tryAll_p5 (some q9cu_X12_tryAll_p5_0.2.2.2) q9tn_X12_tryAll_p5_0_4 17 q9nd_X12_tryAll_p5_0_3.1 q9nd_X12_tryAll_p5_0_3.2 = true := by decide +kernel
set_option maxRecDepth 100000 in
set_option maxHeartbeats 4000000 in
theorem q9hn_X12_tryAll_p5_0_4 : q9chkE (q9step q9e_X12_tryAll_p5 [] [] q9mac_X12_tryAll_p5 (q9rtB q9i_X12_tryAll_p5) (q9iC q9i_X12_tryAll_p5)) q9cu_X12_tryAll_p5 (some q9cu_X12_tryAll_p5_0.2.2.2) q9tn_X12_tryAll_p5_0_5 17 q9nd_X12_tryAll_p5_0_4.1 q9nd_X12_tryAll_p5_0_4.2 = true := by decide +kernel
set_option maxRecDepth 100000 in
set_option maxHeartbeats 4000000 in
theorem q9hn_X12_tryAll_p5_0_5 : q9chkE (q9step q9e_X12_tryAll_p5 [] [] q9mac_X12_tryAll_p5 (q9rtB q9i_X12_tryAll_p5) (q9iC q9i_X12_tryAll_p5)) q9cu_X12_tryAll_p5 (some q9cu_X12_tryAll_p5_0.2.2.2) q9tn_X12_tryAll_p5_0_6 17 q9nd_X12_tryAll_p5_0_5.1 q9nd_X12_tryAll_p5_0_5.2 = true := by decide +kernel
set_option maxRecDepth 100000 in
set_option maxHeartbeats 4000000 in
theorem q9hn_X12_tryAll_p5_0_6 : q9chkE (q9step q9e_X12_tryAll_p5 [] [] q9mac_X12_tryAll_p5 (q9rtB q9i_X12_tryAll_p5) (q9iC q9i_X12_tryAll_p5)) q9cu_X12_tryAll_p5 (some q9cu_X12_tryAll_p5_0.2.2.2) q9tn_X12_tryAll_p5_0_7 17 q9nd_X12_tryAll_p5_0_6.1 q9nd_X12_tryAll_p5_0_6.2 = true := by decide +kernel
set_option maxRecDepth 100000 in
set_option maxHeartbeats 4000000 in
theorem q9hs_X12_tryAll_p5_0 : q9chkE (q9step q9e_X12_tryAll_p5 [] [] q9mac_X12_tryAll_p5 (q9rtB q9i_X12_tryAll_p5) (q9iC q9i_X12_tryAll_p5)) q9cu_X12_tryAll_p5 (some q9cu_X12_tryAll_p5_0.2.2.2) q9tn_X12_tryAll_p5_0_0 17 q9cu_X12_tryAll_p5_0.1 q9cu_X12_tryAll_p5_0.2.1 = true := by decide +kernel
set_option maxRecDepth 100000 in
set_option maxHeartbeats 4000000 in
theorem q9hr_X12_tryAll_p5_0 : q9chk (q9step q9e_X12_tryAll_p5 [] [] q9mac_X12_tryAll_p5 (q9rtB q9i_X12_tryAll_p5) (q9iC q9i_X12_tryAll_p5)) q9cu_X12_tryAll_p5 (some q9cu_X12_tryAll_p5_0.2.2.2) 136 q9cu_X12_tryAll_p5_0.1 q9cu_X12_tryAll_p5_0.2.1 = true := q9walkE (N := q9tn_X12_tryAll_p5_0_0) (f := 17) (n := 7) rfl (Nat.le_of_ble_eq_true rfl) ⟨q9hn_X12_tryAll_p5_0_0, q9hn_X12_tryAll_p5_0_1, q9hn_X12_tryAll_p5_0_2, q9hn_X12_tryAll_p5_0_3, q9hn_X12_tryAll_p5_0_4, q9hn_X12_tryAll_p5_0_5, q9hn_X12_tryAll_p5_0_6, trivial⟩ q9hs_X12_tryAll_p5_0
set_option maxRecDepth 100000 in
set_option maxHeartbeats 4000000 in
theorem q9hp_X12_tryAll_p5_0 : (q9chk (q9step q9e_X12_tryAll_p5 [] [] q9mac_X12_tryAll_p5 (q9rtB q9i_X12_tryAll_p5) (q9iC q9i_X12_tryAll_p5)) q9cu_X12_tryAll_p5 (some q9cu_X12_tryAll_p5_0.2.2.2) 136 q9cu_X12_tryAll_p5_0.1 q9cu_X12_tryAll_p5_0.2.1 && q9cu_X12_tryAll_p5_0.2.2.2.all (fun q => decide (q.1 = 0) || decide (q.2.1 < (q9tE q9cu_X12_tryAll_p5_0.2.1).length))) = true := by
  rw [q9hr_X12_tryAll_p5_0, Bool.true_and]
  decide +kernel
set_option maxRecDepth 100000 in
set_option maxHeartbeats 4000000 in
def q9nd_X12_tryAll_p5_1_0 : q9ND := (151, ([(0, 0, 0), (2, 12, 0), (0, 0, 4), (0, 0, 0), (0, 5, 5), (0, 0, 0), (2, 218, 0), (2, 214, 0), (0, 0, 11), (2, 219, 0)], [(0, (1, 0)), (6, (2, 0))], [(9, 0)], [(1, 0), (3, 0)], [(1, 75, (9, 0)), (1, 70, (7, 0)), (1, 74, (6, 0)), (1, 66, (4, 0))], [(6, (2, 0), (8, 0)), (7, (2, 0), (8, 0))], [(2, 4, (-1))], [(31, (3, 0), (0, 32), 5)], 0, 0))
set_option maxRecDepth 100000 in
set_option maxHeartbeats 4000000 in
def q9nd_X12_tryAll_p5_1_1 : q9ND := (175, ([(0, 0, 0), (2, 12, 0), (0, 0, 4), (0, 0, 0), (0, 5, 5), (0, 0, 0), (2, 218, 0), (2, 214, 0), (0, 0, 11), (2, 219, 0), (2, 215, 0), (0, 0, 2), (2, 220, 0), (2, 216, 0), (0, (-2147483648), 2147483647)], [(0, (1, 0)), (6, (2, 0))], [], [(1, 0), (3, 0)], [(1, 72, (13, 0)), (1, 76, (12, 0)), (1, 71, (10, 0)), (1, 75, (9, 0)), (1, 70, (7, 0)), (1, 74, (6, 0)), (1, 66, (4, 0))], [(12, (2, 0), (14, 0)), (13, (2, 0), (14, 0)), (9, (2, 0), (11, 0)), (10, (2, 0), (11, 0)), (6, (2, 0), (8, 0)), (7, (2, 0), (8, 0))], [(2, 4, (-1))], [(31, (3, 0), (0, 32), 5)], 0, 0))
def q9tn_X12_tryAll_p5_1_2 : List q9ND := []
def q9tn_X12_tryAll_p5_1_1 : List q9ND := q9nd_X12_tryAll_p5_1_1 :: q9tn_X12_tryAll_p5_1_2
def q9tn_X12_tryAll_p5_1_0 : List q9ND := q9nd_X12_tryAll_p5_1_0 :: q9tn_X12_tryAll_p5_1_1
set_option maxRecDepth 100000 in
set_option maxHeartbeats 4000000 in
theorem q9hn_X12_tryAll_p5_1_0 : q9chkE (q9step q9e_X12_tryAll_p5 [] [] q9mac_X12_tryAll_p5 (q9rtB q9i_X12_tryAll_p5) (q9iC q9i_X12_tryAll_p5)) q9cu_X12_tryAll_p5 (some q9cu_X12_tryAll_p5_1.2.2.2) q9tn_X12_tryAll_p5_1_1 17 q9nd_X12_tryAll_p5_1_0.1 q9nd_X12_tryAll_p5_1_0.2 = true := by decide +kernel
set_option maxRecDepth 100000 in
set_option maxHeartbeats 4000000 in
theorem q9hn_X12_tryAll_p5_1_1 : q9chkE (q9step q9e_X12_tryAll_p5 [] [] q9mac_X12_tryAll_p5 (q9rtB q9i_X12_tryAll_p5) (q9iC q9i_X12_tryAll_p5)) q9cu_X12_tryAll_p5 (some q9cu_X12_tryAll_p5_1.2.2.2) q9tn_X12_tryAll_p5_1_2 17 q9nd_X12_tryAll_p5_1_1.1 q9nd_X12_tryAll_p5_1_1.2 = true := by decide +kernel
set_option maxRecDepth 100000 in
set_option maxHeartbeats 4000000 in
theorem q9hs_X12_tryAll_p5_1 : q9chkE (q9step q9e_X12_tryAll_p5 [] [] q9mac_X12_tryAll_p5 (q9rtB q9i_X12_tryAll_p5) (q9iC q9i_X12_tryAll_p5)) q9cu_X12_tryAll_p5 (some q9cu_X12_tryAll_p5_1.2.2.2) q9tn_X12_tryAll_p5_1_0 17 q9cu_X12_tryAll_p5_1.1 q9cu_X12_tryAll_p5_1.2.1 = true := by decide +kernel
set_option maxRecDepth 100000 in
set_option maxHeartbeats 4000000 in
theorem q9hr_X12_tryAll_p5_1 : q9chk (q9step q9e_X12_tryAll_p5 [] [] q9mac_X12_tryAll_p5 (q9rtB q9i_X12_tryAll_p5) (q9iC q9i_X12_tryAll_p5)) q9cu_X12_tryAll_p5 (some q9cu_X12_tryAll_p5_1.2.2.2) 136 q9cu_X12_tryAll_p5_1.1 q9cu_X12_tryAll_p5_1.2.1 = true := q9walkE (N := q9tn_X12_tryAll_p5_1_0) (f := 17) (n := 2) rfl (Nat.le_of_ble_eq_true rfl) ⟨q9hn_X12_tryAll_p5_1_0, q9hn_X12_tryAll_p5_1_1, trivial⟩ q9hs_X12_tryAll_p5_1
set_option maxRecDepth 100000 in
set_option maxHeartbeats 4000000 in
theorem q9hp_X12_tryAll_p5_1 : (q9chk (q9step q9e_X12_tryAll_p5 [] [] q9mac_X12_tryAll_p5 (q9rtB q9i_X12_tryAll_p5) (q9iC q9i_X12_tryAll_p5)) q9cu_X12_tryAll_p5 (some q9cu_X12_tryAll_p5_1.2.2.2) 136 q9cu_X12_tryAll_p5_1.1 q9cu_X12_tryAll_p5_1.2.1 && q9cu_X12_tryAll_p5_1.2.2.2.all (fun q => decide (q.1 = 0) || decide (q.2.1 < (q9tE q9cu_X12_tryAll_p5_1.2.1).length))) = true := by
  rw [q9hr_X12_tryAll_p5_1, Bool.true_and]
  decide +kernel
set_option maxRecDepth 100000 in
set_option maxHeartbeats 4000000 in
theorem q9hr_X12_tryAll_p5_2 : q9chk (q9step q9e_X12_tryAll_p5 [] [] q9mac_X12_tryAll_p5 (q9rtB q9i_X12_tryAll_p5) (q9iC q9i_X12_tryAll_p5)) q9cu_X12_tryAll_p5 (some q9cu_X12_tryAll_p5_2.2.2.2) 136 q9cu_X12_tryAll_p5_2.1 q9cu_X12_tryAll_p5_2.2.1 = true := by decide +kernel
set_option maxRecDepth 100000 in
set_option maxHeartbeats 4000000 in
theorem q9hp_X12_tryAll_p5_2 : (q9chk (q9step q9e_X12_tryAll_p5 [] [] q9mac_X12_tryAll_p5 (q9rtB q9i_X12_tryAll_p5) (q9iC q9i_X12_tryAll_p5)) q9cu_X12_tryAll_p5 (some q9cu_X12_tryAll_p5_2.2.2.2) 136 q9cu_X12_tryAll_p5_2.1 q9cu_X12_tryAll_p5_2.2.1 && q9cu_X12_tryAll_p5_2.2.2.2.all (fun q => decide (q.1 = 0) || decide (q.2.1 < (q9tE q9cu_X12_tryAll_p5_2.2.1).length))) = true := by
  rw [q9hr_X12_tryAll_p5_2, Bool.true_and]
  decide +kernel
set_option maxRecDepth 100000 in
set_option maxHeartbeats 4000000 in
theorem q9hr_X12_tryAll_p5_3 : q9chk (q9step q9e_X12_tryAll_p5 [] [] q9mac_X12_tryAll_p5 (q9rtB q9i_X12_tryAll_p5) (q9iC q9i_X12_tryAll_p5)) q9cu_X12_tryAll_p5 (some q9cu_X12_tryAll_p5_3.2.2.2) 136 q9cu_X12_tryAll_p5_3.1 q9cu_X12_tryAll_p5_3.2.1 = true := by decide +kernel
set_option maxRecDepth 100000 in
set_option maxHeartbeats 4000000 in
theorem q9hp_X12_tryAll_p5_3 : (q9chk (q9step q9e_X12_tryAll_p5 [] [] q9mac_X12_tryAll_p5 (q9rtB q9i_X12_tryAll_p5) (q9iC q9i_X12_tryAll_p5)) q9cu_X12_tryAll_p5 (some q9cu_X12_tryAll_p5_3.2.2.2) 136 q9cu_X12_tryAll_p5_3.1 q9cu_X12_tryAll_p5_3.2.1 && q9cu_X12_tryAll_p5_3.2.2.2.all (fun q => decide (q.1 = 0) || decide (q.2.1 < (q9tE q9cu_X12_tryAll_p5_3.2.1).length))) = true := by
  rw [q9hr_X12_tryAll_p5_3, Bool.true_and]
  decide +kernel
set_option maxRecDepth 100000 in
set_option maxHeartbeats 4000000 in
theorem q9hq_X12_tryAll_p5 : ∀ k ∈ q9cu_X12_tryAll_p5, (q9chk (q9step q9e_X12_tryAll_p5 [] [] q9mac_X12_tryAll_p5 (q9rtB q9i_X12_tryAll_p5) (q9iC q9i_X12_tryAll_p5)) q9cu_X12_tryAll_p5 (some k.2.2.2) 136 k.1 k.2.1 && k.2.2.2.all (fun q => decide (q.1 = 0) || decide (q.2.1 < (q9tE k.2.1).length))) = true := fun k hk => by
  rcases List.mem_cons.mp (show k ∈ q9cu_X12_tryAll_p5_0 :: [q9cu_X12_tryAll_p5_1, q9cu_X12_tryAll_p5_2, q9cu_X12_tryAll_p5_3] from hk) with rfl | hk
  · exact q9hp_X12_tryAll_p5_0
  rcases List.mem_cons.mp hk with rfl | hk
  · exact q9hp_X12_tryAll_p5_1
  rcases List.mem_cons.mp hk with rfl | hk
  · exact q9hp_X12_tryAll_p5_2
  rcases List.mem_cons.mp hk with rfl | hk
  · exact q9hp_X12_tryAll_p5_3
  exact absurd hk List.not_mem_nil
set_option maxRecDepth 100000 in
set_option maxHeartbeats 4000000 in
theorem q9c_X12_tryAll_p5 (l : Launch) (hst : l.stackTraces = false) : q9CON l q9TBL q9ALLW q9i_X12_tryAll_p5 := q9con_ofX (XP := fun _ _ => True) (mac := q9mac_X12_tryAll_p5) (q := q9i_X12_tryAll_p5) (n := q9e_X12_tryAll_p5) (K := []) (K2 := []) (cuts := q9cu_X12_tryAll_p5) (f := 136) hst (by decide +kernel) (fun h => absurd rfl h) ⟨q9goodA, q9fs_X12_ok, q9ps_X12_ok, (fun _ h => absurd h List.not_mem_nil), (fun _ h => absurd h List.not_mem_nil), q9kas_ok, (fun _ h => absurd h List.not_mem_nil), (fun _ h => absurd h List.not_mem_nil), (fun _ h => absurd h List.not_mem_nil)⟩ rfl rfl rfl (q9macx_rf (XP := fun _ _ => True) (q9macx_st (XP := fun _ _ => True) (cc := cX12_tryAll) (q9macx_none (XP := fun _ _ => True))) rfl [(222, [q9wT [(5, 0, (0, 0)), (0, 1, (0, 0)), (0, 2, (0, 0))] (fun th => q9bitR (q9gA th 1) (q9gA th 2))]), (236, [q9wT [(5, 0, (0, 0)), (0, 1, (0, 0)), (0, 2, (0, 0)), (1, 0, (0, 0))] (fun th => q9clrR (q9gA th 1) (q9gA th 2) (q9gA th 3))])] (List.forall_mem_cons.mpr ⟨(List.forall_mem_cons.mpr ⟨(q9wT_ok fun _ => q9bitR_ok _ _), (fun _ h => absurd h List.not_mem_nil)⟩), (List.forall_mem_cons.mpr ⟨(List.forall_mem_cons.mpr ⟨(q9wT_ok fun _ => q9clrR_ok _ _ _), (fun _ h => absurd h List.not_mem_nil)⟩), (fun _ h => absurd h List.not_mem_nil)⟩)⟩)) (q9conB_of q9hp_X12_tryAll_p5 q9hq_X12_tryAll_p5 (by decide +kernel))
set_option maxRecDepth 100000 in
theorem q9wk_X12_puts : GoodIn q9ALLW [.code yX12_puts cX12_puts 6 none, .initialized (yX12_puts).cls] := q9goodW _ (List.forall_mem_cons.mpr ⟨(q9inT10 220 rfl rfl), (List.forall_mem_cons.mpr ⟨(q9inT1 12 rfl rfl), (fun _ h => absurd h List.not_mem_nil)⟩)⟩)
set_option maxRecDepth 100000 in
theorem q9wv_X12_puts : ∀ w ∈ ([.instanceMethod yX12_puts, .selects (yX12_puts).cls yX12_puts yX12_puts] : List Cond), w ∈ q9ALLW := (List.forall_mem_cons.mpr ⟨(q9inT10 219 rfl rfl), (List.forall_mem_cons.mpr ⟨(q9inW 100 rfl rfl), (fun _ h => absurd h List.not_mem_nil)⟩)⟩)
set_option maxRecDepth 100000 in
theorem q9lk_X12_498_X12_puts_p4 : q9LKs q9ALLW RX12 (498, 0, 12, q9i_X12_puts_p4) := ⟨q9wk_X12_puts, ⟨by decide, by decide, by decide +kernel⟩, q9goodW _ (List.forall_mem_cons.mpr ⟨(q9inT10 217 rfl rfl), q9wv_X12_puts⟩), _, rfl, rfl⟩
set_option maxRecDepth 100000 in
theorem q9wk_X12_tryAll : GoodIn q9ALLW [.code yX12_tryAll cX12_tryAll 7 none, .initialized (yX12_tryAll).cls] := q9goodW _ (List.forall_mem_cons.mpr ⟨(q9inT10 216 rfl rfl), (List.forall_mem_cons.mpr ⟨(q9inT1 12 rfl rfl), (fun _ h => absurd h List.not_mem_nil)⟩)⟩)
set_option maxRecDepth 100000 in
theorem q9wv_X12_tryAll : ∀ w ∈ ([.instanceMethod yX12_tryAll, .selects (yX12_tryAll).cls yX12_tryAll yX12_tryAll] : List Cond), w ∈ q9ALLW := (List.forall_mem_cons.mpr ⟨(q9inT10 215 rfl rfl), (List.forall_mem_cons.mpr ⟨(q9inW 99 rfl rfl), (fun _ h => absurd h List.not_mem_nil)⟩)⟩)
set_option maxRecDepth 100000 in
theorem q9lk_X12_501_X12_tryAll_p5 : q9LKs q9ALLW RX12 (501, 0, 12, q9i_X12_tryAll_p5) := ⟨q9wk_X12_tryAll, ⟨by decide, by decide, by decide +kernel⟩, q9goodW _ (List.forall_mem_cons.mpr ⟨(q9inT10 213 rfl rfl), q9wv_X12_tryAll⟩), _, rfl, rfl⟩
def q9i_X12_tryAll_p4 : q9INST := (yX12_tryAll, cX12_tryAll, 7, none, (4, 72, 0, 0), (([(0, 0, 0), (2, 12, 0), (0, (-2147483648), 2147483647), (0, 4, 4), (0, 0, 1)], [(0, (1, 0)), (1, (2, 0))], [], [(1, 0), (2, 0)], [(1, 66, (3, 0))], [], [], [(31, (2, 0), (0, 32), 4)], 0, 0), [(5, 0, (0, 0)), (0, 0, (0, 0)), (0, 1, (0, 0)), (3, 1, (66, 0)), (131, 2, (0, 32))]), [(([(0, 0, 0), (2, 12, 0), (0, (-2147483648), 2147483647)], [], [], [(1, 0), (2, 0)], [(1, 66, (0, 4))], [], [], [], 0, 0), [(5, 0, (0, 0)), (2, 0, (0, 0)), (2, 1, (0, 0))])], [], [834, 835, 836, 837, 100214, 100215, 100216, 100217, 100218, 100219, 100220, 100221], [])
def q9e_X12_tryAll_p4 : q9EN := (q9TBL, q9fs_X12, q9ps_X12, [834, 835, 836, 837, 100214, 100215, 100216, 100217, 100218, 100219, 100220, 100221], [(498, 0, 12, q9i_X12_puts_p4), (501, 0, 12, q9i_X12_tryAll_p5)], [], (4, 72, 0, 0), 7, [], [], [])
set_option maxRecDepth 100000 in
set_option maxHeartbeats 4000000 in
def q9cu_X12_tryAll_p4_0 : q9CUT := (12, ([(0, 0, 0), (2, 12, 0), (1, 0, 2147483647), (1, (-9223372036854775808), 9223372036854775807), (0, 0, 4), (0, 0, 0), (0, 4, 4), (0, 0, 1)], [(0, (1, 0)), (2, (2, 0)), (4, (3, 0)), (6, (4, 0))], [], [(1, 0), (5, 0)], [(1, 66, (6, 0))], [], [], [(31, (5, 0), (0, 32), 7)], 0, 0), [(5, 0, (0, 0)), (0, 0, (0, 0)), (0, 2, (0, 0)), (0, 4, (0, 0)), (0, 6, (0, 0)), (2, 1, (0, 0)), (3, 1, (66, 0)), (131, 5, (0, 32))], [(0, 0, 99988), (2, 4, 4), (0, 0, 99988), (0, 0, 0), (0, 0, 0)])
set_option maxRecDepth 100000 in
set_option maxHeartbeats 4000000 in
def q9cu_X12_tryAll_p4_1 : q9CUT := (124, ([(0, 0, 0), (2, 12, 0), (0, 0, 4), (0, 0, 0), (0, 4, 4), (0, 0, 1)], [(0, (1, 0)), (6, (2, 0))], [], [(1, 0), (3, 0)], [(1, 66, (4, 0))], [], [], [(31, (3, 0), (0, 32), 5)], 0, 0), [(5, 0, (0, 0)), (0, 0, (0, 0)), (0, 6, (0, 0)), (2, 1, (0, 0)), (3, 1, (66, 0)), (131, 3, (0, 32))], [(0, 0, 99876), (2, 2, 4), (0, 0, 99876), (0, 0, 0), (0, 0, 0)])
set_option maxRecDepth 100000 in
set_option maxHeartbeats 4000000 in
def q9cu_X12_tryAll_p4_2 : q9CUT := (198, ([(0, 0, 0), (2, 12, 0), (0, (-2147483648), 2147483647), (0, 0, 12), (0, 4, 4), (0, 0, 1)], [(0, (1, 0)), (1, (2, 0)), (2, (3, 0))], [], [(1, 0), (2, 0)], [(1, 66, (4, 0))], [], [], [(31, (2, 0), (0, 32), 5)], 0, 0), [(5, 0, (0, 0)), (0, 0, (0, 0)), (0, 1, (0, 0)), (0, 2, (0, 0)), (3, 1, (66, 0)), (131, 2, (0, 32))], [(0, 0, 99802), (2, 3, 12), (0, 0, 99802), (0, 0, 0), (0, 0, 0)])
set_option maxRecDepth 100000 in
set_option maxHeartbeats 4000000 in
def q9cu_X12_tryAll_p4_3 : q9CUT := (208, ([(0, 0, 0), (2, 12, 0), (0, (-2147483648), 2147483647), (0, 0, 11), (0, 0, 3), (0, 1, 12), (0, 4, 4), (0, 0, 1)], [(0, (1, 0)), (1, (2, 0)), (2, (3, 0)), (3, (4, 0))], [], [(1, 0), (2, 0)], [(1, 38, (5, 0)), (1, 66, (6, 0))], [], [(3, 5, (-1))], [(31, (2, 0), (0, 32), 7)], 0, 0), [(5, 0, (0, 0)), (0, 0, (0, 0)), (0, 1, (0, 0)), (0, 2, (0, 0)), (0, 3, (0, 0)), (3, 1, (38, 0)), (3, 1, (66, 0)), (131, 2, (0, 32))], [(0, 0, 99802), (2, 3, 12), (0, 0, 99792), (2, 4, 3), (0, 0, 99792)])
def q9cu_X12_tryAll_p4 : List q9CUT := [q9cu_X12_tryAll_p4_0, q9cu_X12_tryAll_p4_1, q9cu_X12_tryAll_p4_2, q9cu_X12_tryAll_p4_3]
set_option maxRecDepth 100000 in
set_option maxHeartbeats 4000000 in
def q9mac_X12_tryAll_p4 : Nat → q9ST → Option (List (Nat × q9ST)) := q9rfM (q9stM q9e_X12_tryAll_p4 [] [] (fun _ _ => none) cX12_tryAll) [(222, [q9wT [(5, 0, (0, 0)), (0, 1, (0, 0)), (0, 2, (0, 0))] (fun th => q9bitR (q9gA th 1) (q9gA th 2))]), (236, [q9wT [(5, 0, (0, 0)), (0, 1, (0, 0)), (0, 2, (0, 0)), (1, 0, (0, 0))] (fun th => q9clrR (q9gA th 1) (q9gA th 2) (q9gA th 3))])]
set_option maxRecDepth 100000 in
set_option maxHeartbeats 4000000 in
theorem q9hp_X12_tryAll_p4 : q9chk (q9step q9e_X12_tryAll_p4 [] [] q9mac_X12_tryAll_p4 (q9rtB q9i_X12_tryAll_p4) (q9iC q9i_X12_tryAll_p4)) q9cu_X12_tryAll_p4 none 136 0 (q9iPre q9i_X12_tryAll_p4) = true := by decide +kernel
set_option maxRecDepth 100000 in
set_option maxHeartbeats 4000000 in
def q9nd_X12_tryAll_p4_0_0 : q9ND := (38, ([(0, 0, 0), (2, 12, 0), (1, 0, 2147483646), (1, (-9223372036854775808), 9223372036854775807), (0, 0, 3), (0, 0, 0), (0, 4, 4), (0, 0, 1), (2, 217, 0), (0, (-2147483648), 2147483647), (1, 1, 2147483647), (0, 1, 1)], [(0, (1, 0)), (2, (2, 0)), (4, (3, 0)), (6, (4, 0))], [(8, 0)], [(1, 0), (5, 0)], [(1, 73, (8, 0)), (1, 66, (6, 0))], [(8, (4, 0), (9, 0))], [(2, 10, (-1)), (4, 6, (-1))], [(24, (10, 0), (2, 0), 11), (11, (9, 0), (9, 0), 10), (31, (5, 0), (0, 32), 7)], 0, 0))
set_option maxRecDepth 100000 in
set_option maxHeartbeats 4000000 in
def q9nd_X12_tryAll_p4_0_1 : q9ND := (63, ([(0, 0, 0), (2, 12, 0), (1, 0, 2147483646), (1, (-9223372036854775808), 9223372036854775807), (0, 0, 3), (0, 0, 0), (0, 4, 4), (0, 0, 1), (2, 217, 0), (0, (-2147483648), 2147483647), (1, 1, 2147483647), (0, 1, 1), (1, (-9223372036854775808), 9223372036854775807)], [(6, (4, 1)), (4, (12, 0)), (2, (10, 0)), (0, (1, 0))], [], [(1, 0), (5, 0)], [(1, 73, (8, 0)), (1, 66, (6, 0))], [(8, (4, 0), (9, 0))], [(2, 10, (-1)), (4, 6, (-1))], [(20, (3, 0), (10, 0), 12), (24, (10, 0), (2, 0), 11), (11, (9, 0), (9, 0), 10), (31, (5, 0), (0, 32), 7)], 0, 0))
set_option maxRecDepth 100000 in
set_option maxHeartbeats 4000000 in
def q9nd_X12_tryAll_p4_0_2 : q9ND := (47, ([(0, 0, 0), (2, 12, 0), (1, 0, 2147483647), (1, (-9223372036854775808), 9223372036854775807), (0, 0, 3), (0, 0, 0), (0, 4, 4), (0, 0, 1), (2, 217, 0), (0, (-2147483648), 2147483647), (1, (-2147483648), 2147483647), (0, (-1), 0)], [(2, (2, 0)), (0, (1, 0)), (4, (3, 0)), (6, (4, 0))], [], [(1, 0), (5, 0)], [(1, 73, (8, 0)), (1, 66, (6, 0))], [(8, (4, 0), (9, 0))], [(10, 2, 0), (4, 6, (-1))], [(24, (10, 0), (2, 0), 11), (11, (9, 0), (9, 0), 10), (31, (5, 0), (0, 32), 7)], 0, 0))
set_option maxRecDepth 100000 in
set_option maxHeartbeats 4000000 in
def q9nd_X12_tryAll_p4_0_3 : q9ND := (84, ([(0, 0, 0), (2, 12, 0), (1, 0, 2147483647), (1, (-9223372036854775808), 9223372036854775807), (0, 4, 4), (0, 0, 0), (0, 4, 4), (0, 0, 1), (0, 1, 5), (1, 0, 9223372036854775807), (0, (-1), 0)], [(0, (1, 0)), (2, (2, 0)), (4, (3, 0)), (6, (4, 0))], [(1, 0), (2, 0)], [(1, 0), (5, 0)], [(1, 68, (9, 0)), (1, 67, (8, 0)), (1, 66, (6, 0))], [], [(2, 9, 0), (6, 4, 0)], [(24, (2, 0), (9, 0), 10), (31, (5, 0), (0, 32), 7)], 0, 0))
set_option maxRecDepth 100000 in
set_option maxHeartbeats 4000000 in
def q9nd_X12_tryAll_p4_0_4 : q9ND := (112, ([(0, 0, 0), (2, 12, 0), (1, 0, 2147483647), (1, (-9223372036854775808), 9223372036854775806), (0, 4, 4), (0, 0, 0), (0, 4, 4), (0, 0, 1), (0, 1, 5), (1, 0, 2147483647), (0, 0, 0), (1, (-9223372036854775807), 9223372036854775807), (0, (-1), (-1))], [(0, (1, 0)), (2, (2, 0)), (4, (3, 0)), (6, (4, 0))], [(2, 0), (1, 0)], [(1, 0), (5, 0)], [(1, 67, (6, 0)), (1, 69, (11, 0)), (1, 68, (9, 0)), (1, 66, (6, 0))], [], [(3, 11, (-1)), (9, 2, 0), (2, 9, 0), (2, 9, 0), (6, 4, 0)], [(24, (3, 0), (11, 0), 12), (24, (2, 0), (9, 0), 10), (31, (5, 0), (0, 32), 7)], 0, 0))
set_option maxRecDepth 100000 in
set_option maxHeartbeats 4000000 in
def q9nd_X12_tryAll_p4_0_5 : q9ND := (122, ([(0, 0, 0), (2, 12, 0), (1, 0, 2147483647), (1, (-9223372036854775808), 9223372036854775807), (0, 4, 4), (0, 0, 0), (0, 4, 4), (0, 0, 1), (0, 1, 5), (1, 0, 9223372036854775807), (0, (-1), (-1))], [(0, (1, 0)), (2, (2, 0)), (4, (3, 0)), (6, (4, 0))], [(0, 0)], [(1, 0), (5, 0)], [(1, 69, (3, 0)), (1, 68, (2, 0)), (1, 67, (6, 0)), (1, 66, (6, 0))], [], [(2, 9, 0), (6, 4, 0)], [(24, (2, 0), (9, 0), 10), (31, (5, 0), (0, 32), 7)], 0, 0))
set_option maxRecDepth 100000 in
set_option maxHeartbeats 4000000 in
def q9nd_X12_tryAll_p4_0_6 : q9ND := (115, ([(0, 0, 0), (2, 12, 0), (1, 0, 2147483647), (1, (-9223372036854775808), 9223372036854775807), (0, 4, 4), (0, 0, 0), (0, 4, 4), (0, 0, 1), (0, 0, 0)], [(0, (1, 0)), (2, (2, 0)), (4, (3, 0)), (6, (4, 0))], [], [(1, 0), (5, 0)], [(1, 68, (2, 0)), (1, 67, (6, 0)), (1, 66, (6, 0))], [], [(6, 4, 0)], [(31, (5, 0), (0, 32), 7)], 0, 0))
def q9tn_X12_tryAll_p4_0_7 : List q9ND := []
def q9tn_X12_tryAll_p4_0_6 : List q9ND := q9nd_X12_tryAll_p4_0_6 :: q9tn_X12_tryAll_p4_0_7
def q9tn_X12_tryAll_p4_0_5 : List q9ND := q9nd_X12_tryAll_p4_0_5 :: q9tn_X12_tryAll_p4_0_6
def q9tn_X12_tryAll_p4_0_4 : List q9ND := q9nd_X12_tryAll_p4_0_4 :: q9tn_X12_tryAll_p4_0_5
def q9tn_X12_tryAll_p4_0_3 : List q9ND := q9nd_X12_tryAll_p4_0_3 :: q9tn_X12_tryAll_p4_0_4
def q9tn_X12_tryAll_p4_0_2 : List q9ND := q9nd_X12_tryAll_p4_0_2 :: q9tn_X12_tryAll_p4_0_3
def q9tn_X12_tryAll_p4_0_1 : List q9ND := q9nd_X12_tryAll_p4_0_1 :: q9tn_X12_tryAll_p4_0_2
def q9tn_X12_tryAll_p4_0_0 : List q9ND := q9nd_X12_tryAll_p4_0_0 :: q9tn_X12_tryAll_p4_0_1
set_option maxRecDepth 100000 in
set_option maxHeartbeats 4000000 in
theorem q9hn_X12_tryAll_p4_0_0 : q9chkE (q9step q9e_X12_tryAll_p4 [] [] q9mac_X12_tryAll_p4 (q9rtB q9i_X12_tryAll_p4) (q9iC q9i_X12_tryAll_p4)) q9cu_X12_tryAll_p4 (some q9cu_X12_tryAll_p4_0.2.2.2) q9tn_X12_tryAll_p4_0_1 17 q9nd_X12_tryAll_p4_0_0.1 q9nd_X12_tryAll_p4_0_0.2 = true := by decide +kernel
set_option maxRecDepth 100000 in
set_option maxHeartbeats 4000000 in
theorem q9hn_X12_tryAll_p4_0_1 : q9chkE (q9step q9e_X12_tryAll_p4 [] [] q9mac_X12_tryAll_p4 (q9rtB q9i_X12_tryAll_p4) (q9iC q9i_X12_tryAll_p4)) q9cu_X12_tryAll_p4 (some q9cu_X12_tryAll_p4_0.2.2.2) q9tn_X12_tryAll_p4_0_2 17 q9nd_X12_tryAll_p4_0_1.1 q9nd_X12_tryAll_p4_0_1.2 = true := by decide +kernel
set_option maxRecDepth 100000 in
set_option maxHeartbeats 4000000 in
theorem q9hn_X12_tryAll_p4_0_2 : q9chkE (q9step q9e_X12_tryAll_p4 [] [] q9mac_X12_tryAll_p4 (q9rtB q9i_X12_tryAll_p4) (q9iC q9i_X12_tryAll_p4)) q9cu_X12_tryAll_p4 (some q9cu_X12_tryAll_p4_0.2.2.2) q9tn_X12_tryAll_p4_0_3 17 q9nd_X12_tryAll_p4_0_2.1 q9nd_X12_tryAll_p4_0_2.2 = true := by decide +kernel
set_option maxRecDepth 100000 in
set_option maxHeartbeats 4000000 in
theorem q9hn_X12_tryAll_p4_0_3 : q9chkE (q9step q9e_X12_tryAll_p4 [] [] q9mac_X12_tryAll_p4 (q9rtB q9i_X12_tryAll_p4) (q9iC q9i_X12_tryAll_p4)) q9cu_X12_tryAll_p4 (some q9cu_X12_tryAll_p4_0.2.2.2) q9tn_X12_tryAll_p4_0_4 17 q9nd_X12_tryAll_p4_0_3.1 q9nd_X12_tryAll_p4_0_3.2 = true := by decide +kernel
set_option maxRecDepth 100000 in
set_option maxHeartbeats 4000000 in
theorem q9hn_X12_tryAll_p4_0_4 : q9chkE (q9step q9e_X12_tryAll_p4 [] [] q9mac_X12_tryAll_p4 (q9rtB q9i_X12_tryAll_p4) (q9iC q9i_X12_tryAll_p4)) q9cu_X12_tryAll_p4 (some q9cu_X12_tryAll_p4_0.2.2.2) q9tn_X12_tryAll_p4_0_5 17 q9nd_X12_tryAll_p4_0_4.1 q9nd_X12_tryAll_p4_0_4.2 = true := by decide +kernel
set_option maxRecDepth 100000 in
set_option maxHeartbeats 4000000 in
theorem q9hn_X12_tryAll_p4_0_5 : q9chkE (q9step q9e_X12_tryAll_p4 [] [] q9mac_X12_tryAll_p4 (q9rtB q9i_X12_tryAll_p4) (q9iC q9i_X12_tryAll_p4)) q9cu_X12_tryAll_p4 (some q9cu_X12_tryAll_p4_0.2.2.2) q9tn_X12_tryAll_p4_0_6 17 q9nd_X12_tryAll_p4_0_5.1 q9nd_X12_tryAll_p4_0_5.2 = true := by decide +kernel
set_option maxRecDepth 100000 in
set_option maxHeartbeats 4000000 in
theorem q9hn_X12_tryAll_p4_0_6 : q9chkE (q9step q9e_X12_tryAll_p4 [] [] q9mac_X12_tryAll_p4 (q9rtB q9i_X12_tryAll_p4) (q9iC q9i_X12_tryAll_p4)) q9cu_X12_tryAll_p4 (some q9cu_X12_tryAll_p4_0.2.2.2) q9tn_X12_tryAll_p4_0_7 17 q9nd_X12_tryAll_p4_0_6.1 q9nd_X12_tryAll_p4_0_6.2 = true := by decide +kernel
set_option maxRecDepth 100000 in
set_option maxHeartbeats 4000000 in
theorem q9hs_X12_tryAll_p4_0 : q9chkE (q9step q9e_X12_tryAll_p4 [] [] q9mac_X12_tryAll_p4 (q9rtB q9i_X12_tryAll_p4) (q9iC q9i_X12_tryAll_p4)) q9cu_X12_tryAll_p4 (some q9cu_X12_tryAll_p4_0.2.2.2) q9tn_X12_tryAll_p4_0_0 17 q9cu_X12_tryAll_p4_0.1 q9cu_X12_tryAll_p4_0.2.1 = true := by decide +kernel
set_option maxRecDepth 100000 in
set_option maxHeartbeats 4000000 in
theorem q9hr_X12_tryAll_p4_0 : q9chk (q9step q9e_X12_tryAll_p4 [] [] q9mac_X12_tryAll_p4 (q9rtB q9i_X12_tryAll_p4) (q9iC q9i_X12_tryAll_p4)) q9cu_X12_tryAll_p4 (some q9cu_X12_tryAll_p4_0.2.2.2) 136 q9cu_X12_tryAll_p4_0.1 q9cu_X12_tryAll_p4_0.2.1 = true := q9walkE (N := q9tn_X12_tryAll_p4_0_0) (f := 17) (n := 7) rfl (Nat.le_of_ble_eq_true rfl) ⟨q9hn_X12_tryAll_p4_0_0, q9hn_X12_tryAll_p4_0_1, q9hn_X12_tryAll_p4_0_2, q9hn_X12_tryAll_p4_0_3, q9hn_X12_tryAll_p4_0_4, q9hn_X12_tryAll_p4_0_5, q9hn_X12_tryAll_p4_0_6, trivial⟩ q9hs_X12_tryAll_p4_0
set_option maxRecDepth 100000 in
set_option maxHeartbeats 4000000 in
theorem q9hp_X12_tryAll_p4_0 : (q9chk (q9step q9e_X12_tryAll_p4 [] [] q9mac_X12_tryAll_p4 (q9rtB q9i_X12_tryAll_p4) (q9iC q9i_X12_tryAll_p4)) q9cu_X12_tryAll_p4 (some q9cu_X12_tryAll_p4_0.2.2.2) 136 q9cu_X12_tryAll_p4_0.1 q9cu_X12_tryAll_p4_0.2.1 && q9cu_X12_tryAll_p4_0.2.2.2.all (fun q => decide (q.1 = 0) || decide (q.2.1 < (q9tE q9cu_X12_tryAll_p4_0.2.1).length))) = true := by
  rw [q9hr_X12_tryAll_p4_0, Bool.true_and]
  decide +kernel
set_option maxRecDepth 100000 in
set_option maxHeartbeats 4000000 in
def q9nd_X12_tryAll_p4_1_0 : q9ND := (151, ([(0, 0, 0), (2, 12, 0), (0, 0, 3), (0, 0, 0), (0, 4, 4), (0, 0, 1), (2, 218, 0), (2, 214, 0), (0, 0, 11), (2, 219, 0)], [(0, (1, 0)), (6, (2, 0))], [(9, 0)], [(1, 0), (3, 0)], [(1, 75, (9, 0)), (1, 70, (7, 0)), (1, 74, (6, 0)), (1, 66, (4, 0))], [(6, (2, 0), (8, 0)), (7, (2, 0), (8, 0))], [(2, 4, (-1))], [(31, (3, 0), (0, 32), 5)], 0, 0))
set_option maxRecDepth 100000 in
set_option maxHeartbeats 4000000 in
def q9nd_X12_tryAll_p4_1_1 : q9ND := (175, ([(0, 0, 0), (2, 12, 0), (0, 0, 3), (0, 0, 0), (0, 4, 4), (0, 0, 1), (2, 218, 0), (2, 214, 0), (0, 0, 11), (2, 219, 0), (2, 215, 0), (0, 0, 2), (2, 220, 0), (2, 216, 0), (0, (-2147483648), 2147483647)], [(0, (1, 0)), (6, (2, 0))], [], [(1, 0), (3, 0)], [(1, 72, (13, 0)), (1, 76, (12, 0)), (1, 71, (10, 0)), (1, 75, (9, 0)), (1, 70, (7, 0)), (1, 74, (6, 0)), (1, 66, (4, 0))], [(12, (2, 0), (14, 0)), (13, (2, 0), (14, 0)), (9, (2, 0), (11, 0)), (10, (2, 0), (11, 0)), (6, (2, 0), (8, 0)), (7, (2, 0), (8, 0))], [(2, 4, (-1))], [(31, (3, 0), (0, 32), 5)], 0, 0))
def q9tn_X12_tryAll_p4_1_2 : List q9ND := []
def q9tn_X12_tryAll_p4_1_1 : List q9ND := q9nd_X12_tryAll_p4_1_1 :: q9tn_X12_tryAll_p4_1_2
def q9tn_X12_tryAll_p4_1_0 : List q9ND := q9nd_X12_tryAll_p4_1_0 :: q9tn_X12_tryAll_p4_1_1
set_option maxRecDepth 100000 in
set_option maxHeartbeats 4000000 in
theorem q9hn_X12_tryAll_p4_1_0 : q9chkE (q9step q9e_X12_tryAll_p4 [] [] q9mac_X12_tryAll_p4 (q9rtB q9i_X12_tryAll_p4) (q9iC q9i_X12_tryAll_p4)) q9cu_X12_tryAll_p4 (some q9cu_X12_tryAll_p4_1.2.2.2) q9tn_X12_tryAll_p4_1_1 17 q9nd_X12_tryAll_p4_1_0.1 q9nd_X12_tryAll_p4_1_0.2 = true := by decide +kernel
set_option maxRecDepth 100000 in
set_option maxHeartbeats 4000000 in
theorem q9hn_X12_tryAll_p4_1_1 : q9chkE (q9step q9e_X12_tryAll_p4 [] [] q9mac_X12_tryAll_p4 (q9rtB q9i_X12_tryAll_p4) (q9iC q9i_X12_tryAll_p4)) q9cu_X12_tryAll_p4 (some q9cu_X12_tryAll_p4_1.2.2.2) q9tn_X12_tryAll_p4_1_2 17 q9nd_X12_tryAll_p4_1_1.1 q9nd_X12_tryAll_p4_1_1.2 = true := by decide +kernel
set_option maxRecDepth 100000 in
set_option maxHeartbeats 4000000 in
theorem q9hs_X12_tryAll_p4_1 : q9chkE (q9step q9e_X12_tryAll_p4 [] [] q9mac_X12_tryAll_p4 (q9rtB q9i_X12_tryAll_p4) (q9iC q9i_X12_tryAll_p4)) q9cu_X12_tryAll_p4 (some q9cu_X12_tryAll_p4_1.2.2.2) q9tn_X12_tryAll_p4_1_0 17 q9cu_X12_tryAll_p4_1.1 q9cu_X12_tryAll_p4_1.2.1 = true := by decide +kernel
set_option maxRecDepth 100000 in
set_option maxHeartbeats 4000000 in
theorem q9hr_X12_tryAll_p4_1 : q9chk (q9step q9e_X12_tryAll_p4 [] [] q9mac_X12_tryAll_p4 (q9rtB q9i_X12_tryAll_p4) (q9iC q9i_X12_tryAll_p4)) q9cu_X12_tryAll_p4 (some q9cu_X12_tryAll_p4_1.2.2.2) 136 q9cu_X12_tryAll_p4_1.1 q9cu_X12_tryAll_p4_1.2.1 = true := q9walkE (N := q9tn_X12_tryAll_p4_1_0) (f := 17) (n := 2) rfl (Nat.le_of_ble_eq_true rfl) ⟨q9hn_X12_tryAll_p4_1_0, q9hn_X12_tryAll_p4_1_1, trivial⟩ q9hs_X12_tryAll_p4_1
set_option maxRecDepth 100000 in
set_option maxHeartbeats 4000000 in
theorem q9hp_X12_tryAll_p4_1 : (q9chk (q9step q9e_X12_tryAll_p4 [] [] q9mac_X12_tryAll_p4 (q9rtB q9i_X12_tryAll_p4) (q9iC q9i_X12_tryAll_p4)) q9cu_X12_tryAll_p4 (some q9cu_X12_tryAll_p4_1.2.2.2) 136 q9cu_X12_tryAll_p4_1.1 q9cu_X12_tryAll_p4_1.2.1 && q9cu_X12_tryAll_p4_1.2.2.2.all (fun q => decide (q.1 = 0) || decide (q.2.1 < (q9tE q9cu_X12_tryAll_p4_1.2.1).length))) = true := by
  rw [q9hr_X12_tryAll_p4_1, Bool.true_and]
  decide +kernel
set_option maxRecDepth 100000 in
set_option maxHeartbeats 4000000 in
theorem q9hr_X12_tryAll_p4_2 : q9chk (q9step q9e_X12_tryAll_p4 [] [] q9mac_X12_tryAll_p4 (q9rtB q9i_X12_tryAll_p4) (q9iC q9i_X12_tryAll_p4)) q9cu_X12_tryAll_p4 (some q9cu_X12_tryAll_p4_2.2.2.2) 136 q9cu_X12_tryAll_p4_2.1 q9cu_X12_tryAll_p4_2.2.1 = true := by decide +kernel
set_option maxRecDepth 100000 in
set_option maxHeartbeats 4000000 in
theorem q9hp_X12_tryAll_p4_2 : (q9chk (q9step q9e_X12_tryAll_p4 [] [] q9mac_X12_tryAll_p4 (q9rtB q9i_X12_tryAll_p4) (q9iC q9i_X12_tryAll_p4)) q9cu_X12_tryAll_p4 (some q9cu_X12_tryAll_p4_2.2.2.2) 136 q9cu_X12_tryAll_p4_2.1 q9cu_X12_tryAll_p4_2.2.1 && q9cu_X12_tryAll_p4_2.2.2.2.all (fun q => decide (q.1 = 0) || decide (q.2.1 < (q9tE q9cu_X12_tryAll_p4_2.2.1).length))) = true := by
  rw [q9hr_X12_tryAll_p4_2, Bool.true_and]
  decide +kernel
set_option maxRecDepth 100000 in
set_option maxHeartbeats 4000000 in
def q9nd_X12_tryAll_p4_3_0 : q9ND := (228, ([(0, 0, 0), (2, 12, 0), (0, (-2147483648), 2147483647), (0, 0, 11), (0, 0, 2), (0, 1, 12), (0, 4, 4), (0, 1, 1), (0, (-2147483648), 2147483647), (0, 1, 1)], [(0, (1, 0)), (1, (2, 0)), (2, (3, 0)), (3, (4, 0))], [], [(1, 0), (2, 0)], [(1, 66, (0, 5)), (1, 38, (5, 0))], [], [(3, 5, (-1))], [(5, (8, 0), (0, 1), 9), (9, (2, 0), (3, 0), 8), (31, (2, 0), (0, 32), 7)], 0, 0))
set_option maxRecDepth 100000 in
set_option maxHeartbeats 4000000 in
def q9nd_X12_tryAll_p4_3_1 : q9ND := (246, ([(0, 0, 0), (2, 12, 0), (0, (-2147483648), 2147483647), (0, 0, 11), (0, 0, 2), (0, 1, 12), (0, 4, 4), (0, 1, 1), (0, (-2147483648), 2147483647), (0, 1, 1), (0, (-2147483648), 2147483647), (0, (-2147483648), 2147483647), (0, (-2147483648), 2147483647), (0, 0, 0)], [(0, (1, 0)), (1, (2, 0)), (2, (3, 0)), (3, (4, 0))], [(0, 4), (1, 0)], [(1, 0), (2, 0)], [(1, 66, (0, 5)), (1, 66, (0, 5)), (1, 38, (5, 0))], [], [(13, 7, (-1)), (7, 13, 1), (3, 5, (-1))], [(31, (12, 0), (0, 32), 13), (5, (2, 0), (11, 0), 12), (7, (10, 0), (0, (-1)), 11), (8, (0, 1), (3, 0), 10), (5, (8, 0), (0, 1), 9), (9, (2, 0), (3, 0), 8), (31, (2, 0), (0, 32), 7)], 0, 0))
def q9tn_X12_tryAll_p4_3_2 : List q9ND := []
def q9tn_X12_tryAll_p4_3_1 : List q9ND := q9nd_X12_tryAll_p4_3_1 :: q9tn_X12_tryAll_p4_3_2
def q9tn_X12_tryAll_p4_3_0 : List q9ND := q9nd_X12_tryAll_p4_3_0 :: q9tn_X12_tryAll_p4_3_1
set_option maxRecDepth 100000 in
set_option maxHeartbeats 4000000 in
theorem q9hn_X12_tryAll_p4_3_0 : q9chkE (q9step q9e_X12_tryAll_p4 [] [] q9mac_X12_tryAll_p4 (q9rtB q9i_X12_tryAll_p4) (q9iC q9i_X12_tryAll_p4)) q9cu_X12_tryAll_p4 (some q9cu_X12_tryAll_p4_3.2.2.2) q9tn_X12_tryAll_p4_3_1 17 q9nd_X12_tryAll_p4_3_0.1 q9nd_X12_tryAll_p4_3_0.2 = true := by decide +kernel
set_option maxRecDepth 100000 in
set_option maxHeartbeats 4000000 in
theorem q9hn_X12_tryAll_p4_3_1 : q9chkE (q9step q9e_X12_tryAll_p4 [] [] q9mac_X12_tryAll_p4 (q9rtB q9i_X12_tryAll_p4) (q9iC q9i_X12_tryAll_p4)) q9cu_X12_tryAll_p4 (some q9cu_X12_tryAll_p4_3.2.2.2) q9tn_X12_tryAll_p4_3_2 17 q9nd_X12_tryAll_p4_3_1.1 q9nd_X12_tryAll_p4_3_1.2 = true := by decide +kernel
set_option maxRecDepth 100000 in
set_option maxHeartbeats 4000000 in
theorem q9hs_X12_tryAll_p4_3 : q9chkE (q9step q9e_X12_tryAll_p4 [] [] q9mac_X12_tryAll_p4 (q9rtB q9i_X12_tryAll_p4) (q9iC q9i_X12_tryAll_p4)) q9cu_X12_tryAll_p4 (some q9cu_X12_tryAll_p4_3.2.2.2) q9tn_X12_tryAll_p4_3_0 17 q9cu_X12_tryAll_p4_3.1 q9cu_X12_tryAll_p4_3.2.1 = true := by decide +kernel
set_option maxRecDepth 100000 in
set_option maxHeartbeats 4000000 in
theorem q9hr_X12_tryAll_p4_3 : q9chk (q9step q9e_X12_tryAll_p4 [] [] q9mac_X12_tryAll_p4 (q9rtB q9i_X12_tryAll_p4) (q9iC q9i_X12_tryAll_p4)) q9cu_X12_tryAll_p4 (some q9cu_X12_tryAll_p4_3.2.2.2) 136 q9cu_X12_tryAll_p4_3.1 q9cu_X12_tryAll_p4_3.2.1 = true := q9walkE (N := q9tn_X12_tryAll_p4_3_0) (f := 17) (n := 2) rfl (Nat.le_of_ble_eq_true rfl) ⟨q9hn_X12_tryAll_p4_3_0, q9hn_X12_tryAll_p4_3_1, trivial⟩ q9hs_X12_tryAll_p4_3
set_option maxRecDepth 100000 in
set_option maxHeartbeats 4000000 in
theorem q9hp_X12_tryAll_p4_3 : (q9chk (q9step q9e_X12_tryAll_p4 [] [] q9mac_X12_tryAll_p4 (q9rtB q9i_X12_tryAll_p4) (q9iC q9i_X12_tryAll_p4)) q9cu_X12_tryAll_p4 (some q9cu_X12_tryAll_p4_3.2.2.2) 136 q9cu_X12_tryAll_p4_3.1 q9cu_X12_tryAll_p4_3.2.1 && q9cu_X12_tryAll_p4_3.2.2.2.all (fun q => decide (q.1 = 0) || decide (q.2.1 < (q9tE q9cu_X12_tryAll_p4_3.2.1).length))) = true := by
  rw [q9hr_X12_tryAll_p4_3, Bool.true_and]
  decide +kernel
set_option maxRecDepth 100000 in
set_option maxHeartbeats 4000000 in
theorem q9hq_X12_tryAll_p4 : ∀ k ∈ q9cu_X12_tryAll_p4, (q9chk (q9step q9e_X12_tryAll_p4 [] [] q9mac_X12_tryAll_p4 (q9rtB q9i_X12_tryAll_p4) (q9iC q9i_X12_tryAll_p4)) q9cu_X12_tryAll_p4 (some k.2.2.2) 136 k.1 k.2.1 && k.2.2.2.all (fun q => decide (q.1 = 0) || decide (q.2.1 < (q9tE k.2.1).length))) = true := fun k hk => by
  rcases List.mem_cons.mp (show k ∈ q9cu_X12_tryAll_p4_0 :: [q9cu_X12_tryAll_p4_1, q9cu_X12_tryAll_p4_2, q9cu_X12_tryAll_p4_3] from hk) with rfl | hk
  · exact q9hp_X12_tryAll_p4_0
  rcases List.mem_cons.mp hk with rfl | hk
  · exact q9hp_X12_tryAll_p4_1
  rcases List.mem_cons.mp hk with rfl | hk
  · exact q9hp_X12_tryAll_p4_2
  rcases List.mem_cons.mp hk with rfl | hk
  · exact q9hp_X12_tryAll_p4_3
  exact absurd hk List.not_mem_nil
set_option maxRecDepth 100000 in
set_option maxHeartbeats 4000000 in
theorem q9c_X12_tryAll_p4 (l : Launch) (hst : l.stackTraces = false) : q9CON l q9TBL q9ALLW q9i_X12_tryAll_p4 := q9con_ofX (XP := fun _ _ => True) (mac := q9mac_X12_tryAll_p4) (q := q9i_X12_tryAll_p4) (n := q9e_X12_tryAll_p4) (K := []) (K2 := []) (cuts := q9cu_X12_tryAll_p4) (f := 136) hst (by decide +kernel) (fun h => absurd rfl h) ⟨q9goodA, q9fs_X12_ok, q9ps_X12_ok, (List.forall_mem_cons.mpr ⟨⟨⟨q9c_X12_puts_p4 l hst, q9lk_X12_498_X12_puts_p4⟩, rfl⟩, (List.forall_mem_cons.mpr ⟨⟨⟨q9c_X12_tryAll_p5 l hst, q9lk_X12_501_X12_tryAll_p5⟩, rfl⟩, (fun _ h => absurd h List.not_mem_nil)⟩)⟩), (fun _ h => absurd h List.not_mem_nil), q9kas_ok, (fun _ h => absurd h List.not_mem_nil), (fun _ h => absurd h List.not_mem_nil), (fun _ h => absurd h List.not_mem_nil)⟩ rfl rfl rfl (q9macx_rf (XP := fun _ _ => True) (q9macx_st (XP := fun _ _ => True) (cc := cX12_tryAll) (q9macx_none (XP := fun _ _ => True))) rfl [(222, [q9wT [(5, 0, (0, 0)), (0, 1, (0, 0)), (0, 2, (0, 0))] (fun th => q9bitR (q9gA th 1) (q9gA th 2))]), (236, [q9wT [(5, 0, (0, 0)), (0, 1, (0, 0)), (0, 2, (0, 0)), (1, 0, (0, 0))] (fun th => q9clrR (q9gA th 1) (q9gA th 2) (q9gA th 3))])] (List.forall_mem_cons.mpr ⟨(List.forall_mem_cons.mpr ⟨(q9wT_ok fun _ => q9bitR_ok _ _), (fun _ h => absurd h List.not_mem_nil)⟩), (List.forall_mem_cons.mpr ⟨(List.forall_mem_cons.mpr ⟨(q9wT_ok fun _ => q9clrR_ok _ _ _), (fun _ h => absurd h List.not_mem_nil)⟩), (fun _ h => absurd h List.not_mem_nil)⟩)⟩)) (q9conB_of q9hp_X12_tryAll_p4 q9hq_X12_tryAll_p4 (by decide +kernel))
set_option maxRecDepth 100000 in
theorem q9lk_X12_498_X12_puts_p3 : q9LKs q9ALLW RX12 (498, 0, 12, q9i_X12_puts_p3) := ⟨q9wk_X12_puts, ⟨by decide, by decide, by decide +kernel⟩, q9goodW _ (List.forall_mem_cons.mpr ⟨(q9inT10 217 rfl rfl), q9wv_X12_puts⟩), _, rfl, rfl⟩
set_option maxRecDepth 100000 in
theorem q9lk_X12_501_X12_tryAll_p4 : q9LKs q9ALLW RX12 (501, 0, 12, q9i_X12_tryAll_p4) := ⟨q9wk_X12_tryAll, ⟨by decide, by decide, by decide +kernel⟩, q9goodW _ (List.forall_mem_cons.mpr ⟨(q9inT10 213 rfl rfl), q9wv_X12_tryAll⟩), _, rfl, rfl⟩
def q9i_X12_tryAll_p3 : q9INST := (yX12_tryAll, cX12_tryAll, 7, none, (5, 98, 0, 0), (([(0, 0, 0), (2, 12, 0), (0, (-2147483648), 2147483647), (0, 3, 3), (0, 0, 2)], [(0, (1, 0)), (1, (2, 0))], [], [(1, 0), (2, 0)], [(1, 66, (3, 0))], [], [], [(31, (2, 0), (0, 32), 4)], 0, 0), [(5, 0, (0, 0)), (0, 0, (0, 0)), (0, 1, (0, 0)), (3, 1, (66, 0)), (131, 2, (0, 32))]), [(([(0, 0, 0), (2, 12, 0), (0, (-2147483648), 2147483647)], [], [], [(1, 0), (2, 0)], [(1, 66, (0, 3))], [], [], [], 0, 0), [(5, 0, (0, 0)), (2, 0, (0, 0)), (2, 1, (0, 0))])], [], [834, 835, 836, 837, 100214, 100215, 100216, 100217, 100218, 100219, 100220, 100221], [])
def q9e_X12_tryAll_p3 : q9EN := (q9TBL, q9fs_X12, q9ps_X12, [834, 835, 836, 837, 100214, 100215, 100216, 100217, 100218, 100219, 100220, 100221], [(498, 0, 12, q9i_X12_puts_p3), (501, 0, 12, q9i_X12_tryAll_p4)], [], (5, 98, 0, 0), 7, [], [], [])
set_option maxRecDepth 100000 in
set_option maxHeartbeats 4000000 in
def q9cu_X12_tryAll_p3_0 : q9CUT := (12, ([(0, 0, 0), (2, 12, 0), (1, 0, 2147483647), (1, (-9223372036854775808), 9223372036854775807), (0, 0, 3), (0, 0, 0), (0, 3, 3), (0, 0, 2)], [(0, (1, 0)), (2, (2, 0)), (4, (3, 0)), (6, (4, 0))], [], [(1, 0), (5, 0)], [(1, 66, (6, 0))], [], [], [(31, (5, 0), (0, 32), 7)], 0, 0), [(5, 0, (0, 0)), (0, 0, (0, 0)), (0, 2, (0, 0)), (0, 4, (0, 0)), (0, 6, (0, 0)), (2, 1, (0, 0)), (3, 1, (66, 0)), (131, 5, (0, 32))], [(0, 0, 99988), (2, 4, 3), (0, 0, 99988), (0, 0, 0), (0, 0, 0)])
set_option maxRecDepth 100000 in
set_option maxHeartbeats 4000000 in
def q9cu_X12_tryAll_p3_1 : q9CUT := (124, ([(0, 0, 0), (2, 12, 0), (0, 0, 3), (0, 0, 0), (0, 3, 3), (0, 0, 2)], [(0, (1, 0)), (6, (2, 0))], [], [(1, 0), (3, 0)], [(1, 66, (4, 0))], [], [], [(31, (3, 0), (0, 32), 5)], 0, 0), [(5, 0, (0, 0)), (0, 0, (0, 0)), (0, 6, (0, 0)), (2, 1, (0, 0)), (3, 1, (66, 0)), (131, 3, (0, 32))], [(0, 0, 99876), (2, 2, 3), (0, 0, 99876), (0, 0, 0), (0, 0, 0)])
set_option maxRecDepth 100000 in
set_option maxHeartbeats 4000000 in
def q9cu_X12_tryAll_p3_2 : q9CUT := (198, ([(0, 0, 0), (2, 12, 0), (0, (-2147483648), 2147483647), (0, 0, 12), (0, 3, 3), (0, 0, 2)], [(0, (1, 0)), (1, (2, 0)), (2, (3, 0))], [], [(1, 0), (2, 0)], [(1, 66, (4, 0))], [], [], [(31, (2, 0), (0, 32), 5)], 0, 0), [(5, 0, (0, 0)), (0, 0, (0, 0)), (0, 1, (0, 0)), (0, 2, (0, 0)), (3, 1, (66, 0)), (131, 2, (0, 32))], [(0, 0, 99802), (2, 3, 12), (0, 0, 99802), (0, 0, 0), (0, 0, 0)])
set_option maxRecDepth 100000 in
set_option maxHeartbeats 4000000 in
def q9cu_X12_tryAll_p3_3 : q9CUT := (208, ([(0, 0, 0), (2, 12, 0), (0, (-2147483648), 2147483647), (0, 0, 11), (0, 0, 3), (0, 1, 12), (0, 3, 3), (0, 0, 2)], [(0, (1, 0)), (1, (2, 0)), (2, (3, 0)), (3, (4, 0))], [], [(1, 0), (2, 0)], [(1, 38, (5, 0)), (1, 66, (6, 0))], [], [(3, 5, (-1))], [(31, (2, 0), (0, 32), 7)], 0, 0), [(5, 0, (0, 0)), (0, 0, (0, 0)), (0, 1, (0, 0)), (0, 2, (0, 0)), (0, 3, (0, 0)), (3, 1, (38, 0)), (3, 1, (66, 0)), (131, 2, (0, 32))], [(0, 0, 99802), (2, 3, 12), (0, 0, 99792), (2, 4, 3), (0, 0, 99792)])
def q9cu_X12_tryAll_p3 : List q9CUT := [q9cu_X12_tryAll_p3_0, q9cu_X12_tryAll_p3_1, q9cu_X12_tryAll_p3_2, q9cu_X12_tryAll_p3_3]
set_option maxRecDepth 100000 in
set_option maxHeartbeats 4000000 in
def q9mac_X12_tryAll_p3 : Nat → q9ST → Option (List (Nat × q9ST)) := q9rfM (q9stM q9e_X12_tryAll_p3 [] [] (fun _ _ => none) cX12_tryAll) [(222, [q9wT [(5, 0, (0, 0)), (0, 1, (0, 0)), (0, 2, (0, 0))] (fun th => q9bitR (q9gA th 1) (q9gA th 2))]), (236, [q9wT [(5, 0, (0, 0)), (0, 1, (0, 0)), (0, 2, (0, 0)), (1, 0, (0, 0))] (fun th => q9clrR (q9gA th 1) (q9gA th 2) (q9gA th 3))])]
set_option maxRecDepth 100000 in
set_option maxHeartbeats 4000000 in
theorem q9hp_X12_tryAll_p3 : q9chk (q9step q9e_X12_tryAll_p3 [] [] q9mac_X12_tryAll_p3 (q9rtB q9i_X12_tryAll_p3) (q9iC q9i_X12_tryAll_p3)) q9cu_X12_tryAll_p3 none 136 0 (q9iPre q9i_X12_tryAll_p3) = true := by decide +kernel
set_option maxRecDepth 100000 in
set_option maxHeartbeats 4000000 in
def q9nd_X12_tryAll_p3_0_0 : q9ND := (38, ([(0, 0, 0), (2, 12, 0), (1, 0, 2147483646), (1, (-9223372036854775808), 9223372036854775807), (0, 0, 2), (0, 0, 0), (0, 3, 3), (0, 0, 2), (2, 217, 0), (0, (-2147483648), 2147483647), (1, 1, 2147483647), (0, 1, 1)], [(0, (1, 0)), (2, (2, 0)), (4, (3, 0)), (6, (4, 0))], [(8, 0)], [(1, 0), (5, 0)], [(1, 73, (8, 0)), (1, 66, (6, 0))], [(8, (4, 0), (9, 0))], [(2, 10, (-1)), (4, 6, (-1))], [(24, (10, 0), (2, 0), 11), (11, (9, 0), (9, 0), 10), (31, (5, 0), (0, 32), 7)], 0, 0))
set_option maxRecDepth 100000 in
set_option maxHeartbeats 4000000 in
def q9nd_X12_tryAll_p3_0_1 : q9ND := (63, ([(0, 0, 0), (2, 12, 0), (1, 0, 2147483646), (1, (-9223372036854775808), 9223372036854775807), (0, 0, 2), (0, 0, 0), (0, 3, 3), (0, 0, 2), (2, 217, 0), (0, (-2147483648), 2147483647), (1, 1, 2147483647), (0, 1, 1), (1, (-9223372036854775808), 9223372036854775807)], [(6, (4, 1)), (4, (12, 0)), (2, (10, 0)), (0, (1, 0))], [], [(1, 0), (5, 0)], [(1, 73, (8, 0)), (1, 66, (6, 0))], [(8, (4, 0), (9, 0))], [(2, 10, (-1)), (4, 6, (-1))], [(20, (3, 0), (10, 0), 12), (24, (10, 0), (2, 0), 11), (11, (9, 0), (9, 0), 10), (31, (5, 0), (0, 32), 7)], 0, 0))
set_option maxRecDepth 100000 in
set_option maxHeartbeats 4000000 in
def q9nd_X12_tryAll_p3_0_2 : q9ND := (47, ([(0, 0, 0), (2, 12, 0), (1, 0, 2147483647), (1, (-9223372036854775808), 9223372036854775807), (0, 0, 2), (0, 0, 0), (0, 3, 3), (0, 0, 2), (2, 217, 0), (0, (-2147483648), 2147483647), (1, (-2147483648), 2147483647), (0, (-1), 0)], [(2, (2, 0)), (0, (1, 0)), (4, (3, 0)), (6, (4, 0))], [], [(1, 0), (5, 0)], [(1, 73, (8, 0)), (1, 66, (6, 0))], [(8, (4, 0), (9, 0))], [(10, 2, 0), (4, 6, (-1))], [(24, (10, 0), (2, 0), 11), (11, (9, 0), (9, 0), 10), (31, (5, 0), (0, 32), 7)], 0, 0))
set_option maxRecDepth 100000 in
set_option maxHeartbeats 4000000 in
def q9nd_X12_tryAll_p3_0_3 : q9ND := (84, ([(0, 0, 0), (2, 12, 0), (1, 0, 2147483647), (1, (-9223372036854775808), 9223372036854775807), (0, 3, 3), (0, 0, 0), (0, 3, 3), (0, 0, 2), (0, 1, 5), (1, 0, 9223372036854775807), (0, (-1), 0)], [(0, (1, 0)), (2, (2, 0)), (4, (3, 0)), (6, (4, 0))], [(1, 0), (2, 0)], [(1, 0), (5, 0)], [(1, 68, (9, 0)), (1, 67, (8, 0)), (1, 66, (6, 0))], [], [(2, 9, 0), (6, 4, 0)], [(24, (2, 0), (9, 0), 10), (31, (5, 0), (0, 32), 7)], 0, 0))
set_option maxRecDepth 100000 in
set_option maxHeartbeats 4000000 in
def q9nd_X12_tryAll_p3_0_4 : q9ND := (112, ([(0, 0, 0), (2, 12, 0), (1, 0, 2147483647), (1, (-9223372036854775808), 9223372036854775806), (0, 3, 3), (0, 0, 0), (0, 3, 3), (0, 0, 2), (0, 1, 5), (1, 0, 2147483647), (0, 0, 0), (1, (-9223372036854775807), 9223372036854775807), (0, (-1), (-1))], [(0, (1, 0)), (2, (2, 0)), (4, (3, 0)), (6, (4, 0))], [(2, 0), (1, 0)], [(1, 0), (5, 0)], [(1, 67, (6, 0)), (1, 69, (11, 0)), (1, 68, (9, 0)), (1, 66, (6, 0))], [], [(3, 11, (-1)), (9, 2, 0), (2, 9, 0), (2, 9, 0), (6, 4, 0)], [(24, (3, 0), (11, 0), 12), (24, (2, 0), (9, 0), 10), (31, (5, 0), (0, 32), 7)], 0, 0))
set_option maxRecDepth 100000 in
set_option maxHeartbeats 4000000 in
def q9nd_X12_tryAll_p3_0_5 : q9ND := (122, ([(0, 0, 0), (2, 12, 0), (1, 0, 2147483647), (1, (-9223372036854775808), 9223372036854775807), (0, 3, 3), (0, 0, 0), (0, 3, 3), (0, 0, 2), (0, 1, 5), (1, 0, 9223372036854775807), (0, (-1), (-1))], [(0, (1, 0)), (2, (2, 0)), (4, (3, 0)), (6, (4, 0))], [(0, 0)], [(1, 0), (5, 0)], [(1, 69, (3, 0)), (1, 68, (2, 0)), (1, 67, (6, 0)), (1, 66, (6, 0))], [], [(2, 9, 0), (6, 4, 0)], [(24, (2, 0), (9, 0), 10), (31, (5, 0), (0, 32), 7)], 0, 0))
set_option maxRecDepth 100000 in
set_option maxHeartbeats 4000000 in
def q9nd_X12_tryAll_p3_0_6 : q9ND := (115, ([(0, 0, 0), (2, 12, 0), (1, 0, 2147483647), (1, (-9223372036854775808), 9223372036854775807), (0, 3, 3), (0, 0, 0), (0, 3, 3), (0, 0, 2), (0, 0, 0)], [(0, (1, 0)), (2, (2, 0)), (4, (3, 0)), (6, (4, 0))], [], [(1, 0), (5, 0)], [(1, 68, (2, 0)), (1, 67, (6, 0)), (1, 66, (6, 0))], [], [(6, 4, 0)], [(31, (5, 0), (0, 32), 7)], 0, 0))
def q9tn_X12_tryAll_p3_0_7 : List q9ND := []
def q9tn_X12_tryAll_p3_0_6 : List q9ND := q9nd_X12_tryAll_p3_0_6 :: q9tn_X12_tryAll_p3_0_7
def q9tn_X12_tryAll_p3_0_5 : List q9ND := q9nd_X12_tryAll_p3_0_5 :: q9tn_X12_tryAll_p3_0_6
def q9tn_X12_tryAll_p3_0_4 : List q9ND := q9nd_X12_tryAll_p3_0_4 :: q9tn_X12_tryAll_p3_0_5
def q9tn_X12_tryAll_p3_0_3 : List q9ND := q9nd_X12_tryAll_p3_0_3 :: q9tn_X12_tryAll_p3_0_4
def q9tn_X12_tryAll_p3_0_2 : List q9ND := q9nd_X12_tryAll_p3_0_2 :: q9tn_X12_tryAll_p3_0_3
def q9tn_X12_tryAll_p3_0_1 : List q9ND := q9nd_X12_tryAll_p3_0_1 :: q9tn_X12_tryAll_p3_0_2
def q9tn_X12_tryAll_p3_0_0 : List q9ND := q9nd_X12_tryAll_p3_0_0 :: q9tn_X12_tryAll_p3_0_1
set_option maxRecDepth 100000 in
set_option maxHeartbeats 4000000 in
theorem q9hn_X12_tryAll_p3_0_0 : q9chkE (q9step q9e_X12_tryAll_p3 [] [] q9mac_X12_tryAll_p3 (q9rtB q9i_X12_tryAll_p3) (q9iC q9i_X12_tryAll_p3)) q9cu_X12_tryAll_p3 (some q9cu_X12_tryAll_p3_0.2.2.2) q9tn_X12_tryAll_p3_0_1 17 q9nd_X12_tryAll_p3_0_0.1 q9nd_X12_tryAll_p3_0_0.2 = true := by decide +kernel
set_option maxRecDepth 100000 in
set_option maxHeartbeats 4000000 in
theorem q9hn_X12_tryAll_p3_0_1 : q9chkE (q9step q9e_X12_tryAll_p3 [] [] q9mac_X12_tryAll_p3 (q9rtB q9i_X12_tryAll_p3) (q9iC q9i_X12_tryAll_p3)) q9cu_X12_tryAll_p3 (some q9cu_X12_tryAll_p3_0.2.2.2) q9tn_X12_tryAll_p3_0_2 17 q9nd_X12_tryAll_p3_0_1.1 q9nd_X12_tryAll_p3_0_1.2 = true := by decide +kernel
set_option maxRecDepth 100000 in
set_option maxHeartbeats 4000000 in
theorem q9hn_X12_tryAll_p3_0_2 : q9chkE (q9step q9e_X12_tryAll_p3 [] [] q9mac_X12_tryAll_p3 (q9rtB q9i_X12_tryAll_p3) (q9iC q9i_X12_tryAll_p3)) q9cu_X12_tryAll_p3 (some q9cu_X12_tryAll_p3_0.2.2.2) q9tn_X12_tryAll_p3_0_3 17 q9nd_X12_tryAll_p3_0_2.1 q9nd_X12_tryAll_p3_0_2.2 = true := by decide +kernel
set_option maxRecDepth 100000 in
set_option maxHeartbeats 4000000 in
theorem q9hn_X12_tryAll_p3_0_3 : q9chkE (q9step q9e_X12_tryAll_p3 [] [] q9mac_X12_tryAll_p3 (q9rtB q9i_X12_tryAll_p3) (q9iC q9i_X12_tryAll_p3)) q9cu_X12_tryAll_p3 (some q9cu_X12_tryAll_p3_0.2.2.2) q9tn_X12_tryAll_p3_0_4 17 q9nd_X12_tryAll_p3_0_3.1 q9nd_X12_tryAll_p3_0_3.2 = true := by decide +kernel
set_option maxRecDepth 100000 in
set_option maxHeartbeats 4000000 in
theorem q9hn_X12_tryAll_p3_0_4 : q9chkE (q9step q9e_X12_tryAll_p3 [] [] q9mac_X12_tryAll_p3 (q9rtB q9i_X12_tryAll_p3) (q9iC q9i_X12_tryAll_p3)) q9cu_X12_tryAll_p3 (some q9cu_X12_tryAll_p3_0.2.2.2) q9tn_X12_tryAll_p3_0_5 17 q9nd_X12_tryAll_p3_0_4.1 q9nd_X12_tryAll_p3_0_4.2 = true := by decide +kernel
set_option maxRecDepth 100000 in
set_option maxHeartbeats 4000000 in
theorem q9hn_X12_tryAll_p3_0_5 : q9chkE (q9step q9e_X12_tryAll_p3 [] [] q9mac_X12_tryAll_p3 (q9rtB q9i_X12_tryAll_p3) (q9iC q9i_X12_tryAll_p3)) q9cu_X12_tryAll_p3 (some q9cu_X12_tryAll_p3_0.2.2.2) q9tn_X12_tryAll_p3_0_6 17 q9nd_X12_tryAll_p3_0_5.1 q9nd_X12_tryAll_p3_0_5.2 = true := by decide +kernel
set_option maxRecDepth 100000 in
set_option maxHeartbeats 4000000 in
theorem q9hn_X12_tryAll_p3_0_6 : q9chkE (q9step q9e_X12_tryAll_p3 [] [] q9mac_X12_tryAll_p3 (q9rtB q9i_X12_tryAll_p3) (q9iC q9i_X12_tryAll_p3)) q9cu_X12_tryAll_p3 (some q9cu_X12_tryAll_p3_0.2.2.2) q9tn_X12_tryAll_p3_0_7 17 q9nd_X12_tryAll_p3_0_6.1 q9nd_X12_tryAll_p3_0_6.2 = true := by decide +kernel
set_option maxRecDepth 100000 in
set_option maxHeartbeats 4000000 in
theorem q9hs_X12_tryAll_p3_0 : q9chkE (q9step q9e_X12_tryAll_p3 [] [] q9mac_X12_tryAll_p3 (q9rtB q9i_X12_tryAll_p3) (q9iC q9i_X12_tryAll_p3)) q9cu_X12_tryAll_p3 (some q9cu_X12_tryAll_p3_0.2.2.2) q9tn_X12_tryAll_p3_0_0 17 q9cu_X12_tryAll_p3_0.1 q9cu_X12_tryAll_p3_0.2.1 = true := by decide +kernel
set_option maxRecDepth 100000 in
set_option maxHeartbeats 4000000 in
theorem q9hr_X12_tryAll_p3_0 : q9chk (q9step q9e_X12_tryAll_p3 [] [] q9mac_X12_tryAll_p3 (q9rtB q9i_X12_tryAll_p3) (q9iC q9i_X12_tryAll_p3)) q9cu_X12_tryAll_p3 (some q9cu_X12_tryAll_p3_0.2.2.2) 136 q9cu_X12_tryAll_p3_0.1 q9cu_X12_tryAll_p3_0.2.1 = true := q9walkE (N := q9tn_X12_tryAll_p3_0_0) (f := 17) (n := 7) rfl (Nat.le_of_ble_eq_true rfl) ⟨q9hn_X12_tryAll_p3_0_0, q9hn_X12_tryAll_p3_0_1, q9hn_X12_tryAll_p3_0_2, q9hn_X12_tryAll_p3_0_3, q9hn_X12_tryAll_p3_0_4, q9hn_X12_tryAll_p3_0_5, q9hn_X12_tryAll_p3_0_6, trivial⟩ q9hs_X12_tryAll_p3_0
set_option maxRecDepth 100000 in
set_option maxHeartbeats 4000000 in
theorem q9hp_X12_tryAll_p3_0 : (q9chk (q9step q9e_X12_tryAll_p3 [] [] q9mac_X12_tryAll_p3 (q9rtB q9i_X12_tryAll_p3) (q9iC q9i_X12_tryAll_p3)) q9cu_X12_tryAll_p3 (some q9cu_X12_tryAll_p3_0.2.2.2) 136 q9cu_X12_tryAll_p3_0.1 q9cu_X12_tryAll_p3_0.2.1 && q9cu_X12_tryAll_p3_0.2.2.2.all (fun q => decide (q.1 = 0) || decide (q.2.1 < (q9tE q9cu_X12_tryAll_p3_0.2.1).length))) = true := by
  rw [q9hr_X12_tryAll_p3_0, Bool.true_and]
  decide +kernel
set_option maxRecDepth 100000 in
set_option maxHeartbeats 4000000 in
def q9nd_X12_tryAll_p3_1_0 : q9ND := (151, ([(0, 0, 0), (2, 12, 0), (0, 0, 2), (0, 0, 0), (0, 3, 3), (0, 0, 2), (2, 218, 0), (2, 214, 0), (0, 0, 11), (2, 219, 0)], [(0, (1, 0)), (6, (2, 0))], [(9, 0)], [(1, 0), (3, 0)], [(1, 75, (9, 0)), (1, 70, (7, 0)), (1, 74, (6, 0)), (1, 66, (4, 0))], [(6, (2, 0), (8, 0)), (7, (2, 0), (8, 0))], [(2, 4, (-1))], [(31, (3, 0), (0, 32), 5)], 0, 0))
set_option maxRecDepth 100000 in
set_option maxHeartbeats 4000000 in
def q9nd_X12_tryAll_p3_1_1 : q9ND := (175, ([(0, 0, 0), (2, 12, 0), (0, 0, 2), (0, 0, 0), (0, 3, 3), (0, 0, 2), (2, 218, 0), (2, 214, 0), (0, 0, 11), (2, 219, 0), (2, 215, 0), (0, 0, 2), (2, 220, 0), (2, 216, 0), (0, (-2147483648), 2147483647)], [(0, (1, 0)), (6, (2, 0))], [], [(1, 0), (3, 0)], [(1, 72, (13, 0)), (1, 76, (12, 0)), (1, 71, (10, 0)), (1, 75, (9, 0)), (1, 70, (7, 0)), (1, 74, (6, 0)), (1, 66, (4, 0))], [(12, (2, 0), (14, 0)), (13, (2, 0), (14, 0)), (9, (2, 0), (11, 0)), (10, (2, 0), (11, 0)), (6, (2, 0), (8, 0)), (7, (2, 0), (8, 0))], [(2, 4, (-1))], [(31, (3, 0), (0, 32), 5)], 0, 0))
def q9tn_X12_tryAll_p3_1_2 : List q9ND := []
def q9tn_X12_tryAll_p3_1_1 : List q9ND := q9nd_X12_tryAll_p3_1_1 :: q9tn_X12_tryAll_p3_1_2
def q9tn_X12_tryAll_p3_1_0 : List q9ND := q9nd_X12_tryAll_p3_1_0 :: q9tn_X12_tryAll_p3_1_1
set_option maxRecDepth 100000 in
set_option maxHeartbeats 4000000 in
theorem q9hn_X12_tryAll_p3_1_0 : q9chkE (q9step q9e_X12_tryAll_p3 [] [] q9mac_X12_tryAll_p3 (q9rtB q9i_X12_tryAll_p3) (q9iC q9i_X12_tryAll_p3)) q9cu_X12_tryAll_p3 (some q9cu_X12_tryAll_p3_1.2.2.2) q9tn_X12_tryAll_p3_1_1 17 q9nd_X12_tryAll_p3_1_0.1 q9nd_X12_tryAll_p3_1_0.2 = true := by decide +kernel
set_option maxRecDepth 100000 in
set_option maxHeartbeats 4000000 in
theorem q9hn_X12_tryAll_p3_1_1 : q9chkE (q9step q9e_X12_tryAll_p3 [] [] q9mac_X12_tryAll_p3 (q9rtB q9i_X12_tryAll_p3) (q9iC q9i_X12_tryAll_p3)) q9cu_X12_tryAll_p3 (some q9cu_X12_tryAll_p3_1.2.2.2) q9tn_X12_tryAll_p3_1_2 17 q9nd_X12_tryAll_p3_1_1.1 q9nd_X12_tryAll_p3_1_1.2 = true := by decide +kernel
set_option maxRecDepth 100000 in
set_option maxHeartbeats 4000000 in
theorem q9hs_X12_tryAll_p3_1 : q9chkE (q9step q9e_X12_tryAll_p3 [] [] q9mac_X12_tryAll_p3 (q9rtB q9i_X12_tryAll_p3) (q9iC q9i_X12_tryAll_p3)) q9cu_X12_tryAll_p3 (some q9cu_X12_tryAll_p3_1.2.2.2) q9tn_X12_tryAll_p3_1_0 17 q9cu_X12_tryAll_p3_1.1 q9cu_X12_tryAll_p3_1.2.1 = true := by decide +kernel
set_option maxRecDepth 100000 in
set_option maxHeartbeats 4000000 in
theorem q9hr_X12_tryAll_p3_1 : q9chk (q9step q9e_X12_tryAll_p3 [] [] q9mac_X12_tryAll_p3 (q9rtB q9i_X12_tryAll_p3) (q9iC q9i_X12_tryAll_p3)) q9cu_X12_tryAll_p3 (some q9cu_X12_tryAll_p3_1.2.2.2) 136 q9cu_X12_tryAll_p3_1.1 q9cu_X12_tryAll_p3_1.2.1 = true := q9walkE (N := q9tn_X12_tryAll_p3_1_0) (f := 17) (n := 2) rfl (Nat.le_of_ble_eq_true rfl) ⟨q9hn_X12_tryAll_p3_1_0, q9hn_X12_tryAll_p3_1_1, trivial⟩ q9hs_X12_tryAll_p3_1
set_option maxRecDepth 100000 in
set_option maxHeartbeats 4000000 in
theorem q9hp_X12_tryAll_p3_1 : (q9chk (q9step q9e_X12_tryAll_p3 [] [] q9mac_X12_tryAll_p3 (q9rtB q9i_X12_tryAll_p3) (q9iC q9i_X12_tryAll_p3)) q9cu_X12_tryAll_p3 (some q9cu_X12_tryAll_p3_1.2.2.2) 136 q9cu_X12_tryAll_p3_1.1 q9cu_X12_tryAll_p3_1.2.1 && q9cu_X12_tryAll_p3_1.2.2.2.all (fun q => decide (q.1 = 0) || decide (q.2.1 < (q9tE q9cu_X12_tryAll_p3_1.2.1).length))) = true := by
  rw [q9hr_X12_tryAll_p3_1, Bool.true_and]
  decide +kernel
set_option maxRecDepth 100000 in
set_option maxHeartbeats 4000000 in
theorem q9hr_X12_tryAll_p3_2 : q9chk (q9step q9e_X12_tryAll_p3 [] [] q9mac_X12_tryAll_p3 (q9rtB q9i_X12_tryAll_p3) (q9iC q9i_X12_tryAll_p3)) q9cu_X12_tryAll_p3 (some q9cu_X12_tryAll_p3_2.2.2.2) 136 q9cu_X12_tryAll_p3_2.1 q9cu_X12_tryAll_p3_2.2.1 = true := by decide +kernel
set_option maxRecDepth 100000 in
set_option maxHeartbeats 4000000 in
theorem q9hp_X12_tryAll_p3_2 : (q9chk (q9step q9e_X12_tryAll_p3 [] [] q9mac_X12_tryAll_p3 (q9rtB q9i_X12_tryAll_p3) (q9iC q9i_X12_tryAll_p3)) q9cu_X12_tryAll_p3 (some q9cu_X12_tryAll_p3_2.2.2.2) 136 q9cu_X12_tryAll_p3_2.1 q9cu_X12_tryAll_p3_2.2.1 && q9cu_X12_tryAll_p3_2.2.2.2.all (fun q => decide (q.1 = 0) || decide (q.2.1 < (q9tE q9cu_X12_tryAll_p3_2.2.1).length))) = true := by
  rw [q9hr_X12_tryAll_p3_2, Bool.true_and]
  decide +kernel
set_option maxRecDepth 100000 in
set_option maxHeartbeats 4000000 in
def q9nd_X12_tryAll_p3_3_0 : q9ND := (228, ([(0, 0, 0), (2, 12, 0), (0, (-2147483648), 2147483647), (0, 0, 11), (0, 0, 2), (0, 1, 12), (0, 3, 3), (0, 1, 2), (0, (-2147483648), 2147483647), (0, 1, 1)], [(0, (1, 0)), (1, (2, 0)), (2, (3, 0)), (3, (4, 0))], [], [(1, 0), (2, 0)], [(1, 66, (0, 4)), (1, 38, (5, 0))], [], [(3, 5, (-1))], [(5, (8, 0), (0, 1), 9), (9, (2, 0), (3, 0), 8), (31, (2, 0), (0, 32), 7)], 0, 0))
set_option maxRecDepth 100000 in
set_option maxHeartbeats 4000000 in
def q9nd_X12_tryAll_p3_3_1 : q9ND := (246, ([(0, 0, 0), (2, 12, 0), (0, (-2147483648), 2147483647), (0, 0, 11), (0, 0, 2), (0, 1, 12), (0, 3, 3), (0, 1, 2), (0, (-2147483648), 2147483647), (0, 1, 1), (0, (-2147483648), 2147483647), (0, (-2147483648), 2147483647), (0, (-2147483648), 2147483647), (0, 0, 1)], [(0, (1, 0)), (1, (2, 0)), (2, (3, 0)), (3, (4, 0))], [(0, 3), (1, 0)], [(1, 0), (2, 0)], [(1, 66, (0, 4)), (1, 38, (5, 0))], [], [(13, 7, (-1)), (7, 13, 1), (3, 5, (-1))], [(31, (12, 0), (0, 32), 13), (5, (2, 0), (11, 0), 12), (7, (10, 0), (0, (-1)), 11), (8, (0, 1), (3, 0), 10), (5, (8, 0), (0, 1), 9), (9, (2, 0), (3, 0), 8), (31, (2, 0), (0, 32), 7)], 0, 0))
def q9tn_X12_tryAll_p3_3_2 : List q9ND := []
def q9tn_X12_tryAll_p3_3_1 : List q9ND := q9nd_X12_tryAll_p3_3_1 :: q9tn_X12_tryAll_p3_3_2
def q9tn_X12_tryAll_p3_3_0 : List q9ND := q9nd_X12_tryAll_p3_3_0 :: q9tn_X12_tryAll_p3_3_1
set_option maxRecDepth 100000 in
set_option maxHeartbeats 4000000 in
theorem q9hn_X12_tryAll_p3_3_0 : q9chkE (q9step q9e_X12_tryAll_p3 [] [] q9mac_X12_tryAll_p3 (q9rtB q9i_X12_tryAll_p3) (q9iC q9i_X12_tryAll_p3)) q9cu_X12_tryAll_p3 (some q9cu_X12_tryAll_p3_3.2.2.2) q9tn_X12_tryAll_p3_3_1 17 q9nd_X12_tryAll_p3_3_0.1 q9nd_X12_tryAll_p3_3_0.2 = true := by decide +kernel
set_option maxRecDepth 100000 in
set_option maxHeartbeats 4000000 in
theorem q9hn_X12_tryAll_p3_3_1 : q9chkE (q9step q9e_X12_tryAll_p3 [] [] q9mac_X12_tryAll_p3 (q9rtB q9i_X12_tryAll_p3) (q9iC q9i_X12_tryAll_p3)) q9cu_X12_tryAll_p3 (some q9cu_X12_tryAll_p3_3.2.2.2) q9tn_X12_tryAll_p3_3_2 17 q9nd_X12_tryAll_p3_3_1.1 q9nd_X12_tryAll_p3_3_1.2 = true := by decide +kernel
set_option maxRecDepth 100000 in
set_option maxHeartbeats 4000000 in
theorem q9hs_X12_tryAll_p3_3 : q9chkE (q9step q9e_X12_tryAll_p3 [] [] q9mac_X12_tryAll_p3 (q9rtB q9i_X12_tryAll_p3) (q9iC q9i_X12_tryAll_p3)) q9cu_X12_tryAll_p3 (some q9cu_X12_tryAll_p3_3.2.2.2) q9tn_X12_tryAll_p3_3_0 17 q9cu_X12_tryAll_p3_3.1 q9cu_X12_tryAll_p3_3.2.1 = true := by decide +kernel
set_option maxRecDepth 100000 in
set_option maxHeartbeats 4000000 in
theorem q9hr_X12_tryAll_p3_3 : q9chk (q9step q9e_X12_tryAll_p3 [] [] q9mac_X12_tryAll_p3 (q9rtB q9i_X12_tryAll_p3) (q9iC q9i_X12_tryAll_p3)) q9cu_X12_tryAll_p3 (some q9cu_X12_tryAll_p3_3.2.2.2) 136 q9cu_X12_tryAll_p3_3.1 q9cu_X12_tryAll_p3_3.2.1 = true := q9walkE (N := q9tn_X12_tryAll_p3_3_0) (f := 17) (n := 2) rfl (Nat.le_of_ble_eq_true rfl) ⟨q9hn_X12_tryAll_p3_3_0, q9hn_X12_tryAll_p3_3_1, trivial⟩ q9hs_X12_tryAll_p3_3
set_option maxRecDepth 100000 in
set_option maxHeartbeats 4000000 in
theorem q9hp_X12_tryAll_p3_3 : (q9chk (q9step q9e_X12_tryAll_p3 [] [] q9mac_X12_tryAll_p3 (q9rtB q9i_X12_tryAll_p3) (q9iC q9i_X12_tryAll_p3)) q9cu_X12_tryAll_p3 (some q9cu_X12_tryAll_p3_3.2.2.2) 136 q9cu_X12_tryAll_p3_3.1 q9cu_X12_tryAll_p3_3.2.1 && q9cu_X12_tryAll_p3_3.2.2.2.all (fun q => decide (q.1 = 0) || decide (q.2.1 < (q9tE q9cu_X12_tryAll_p3_3.2.1).length))) = true := by
  rw [q9hr_X12_tryAll_p3_3, Bool.true_and]
  decide +kernel
set_option maxRecDepth 100000 in
set_option maxHeartbeats 4000000 in
theorem q9hq_X12_tryAll_p3 : ∀ k ∈ q9cu_X12_tryAll_p3, (q9chk (q9step q9e_X12_tryAll_p3 [] [] q9mac_X12_tryAll_p3 (q9rtB q9i_X12_tryAll_p3) (q9iC q9i_X12_tryAll_p3)) q9cu_X12_tryAll_p3 (some k.2.2.2) 136 k.1 k.2.1 && k.2.2.2.all (fun q => decide (q.1 = 0) || decide (q.2.1 < (q9tE k.2.1).length))) = true := fun k hk => by
  rcases List.mem_cons.mp (show k ∈ q9cu_X12_tryAll_p3_0 :: [q9cu_X12_tryAll_p3_1, q9cu_X12_tryAll_p3_2, q9cu_X12_tryAll_p3_3] from hk) with rfl | hk
  · exact q9hp_X12_tryAll_p3_0
  rcases List.mem_cons.mp hk with rfl | hk
  · exact q9hp_X12_tryAll_p3_1
  rcases List.mem_cons.mp hk with rfl | hk
  · exact q9hp_X12_tryAll_p3_2
  rcases List.mem_cons.mp hk with rfl | hk
  · exact q9hp_X12_tryAll_p3_3
  exact absurd hk List.not_mem_nil
set_option maxRecDepth 100000 in
set_option maxHeartbeats 4000000 in
theorem q9c_X12_tryAll_p3 (l : Launch) (hst : l.stackTraces = false) : q9CON l q9TBL q9ALLW q9i_X12_tryAll_p3 := q9con_ofX (XP := fun _ _ => True) (mac := q9mac_X12_tryAll_p3) (q := q9i_X12_tryAll_p3) (n := q9e_X12_tryAll_p3) (K := []) (K2 := []) (cuts := q9cu_X12_tryAll_p3) (f := 136) hst (by decide +kernel) (fun h => absurd rfl h) ⟨q9goodA, q9fs_X12_ok, q9ps_X12_ok, (List.forall_mem_cons.mpr ⟨⟨⟨q9c_X12_puts_p3 l hst, q9lk_X12_498_X12_puts_p3⟩, rfl⟩, (List.forall_mem_cons.mpr ⟨⟨⟨q9c_X12_tryAll_p4 l hst, q9lk_X12_501_X12_tryAll_p4⟩, rfl⟩, (fun _ h => absurd h List.not_mem_nil)⟩)⟩), (fun _ h => absurd h List.not_mem_nil), q9kas_ok, (fun _ h => absurd h List.not_mem_nil), (fun _ h => absurd h List.not_mem_nil), (fun _ h => absurd h List.not_mem_nil)⟩ rfl rfl rfl (q9macx_rf (XP := fun _ _ => True) (q9macx_st (XP := fun _ _ => True) (cc := cX12_tryAll) (q9macx_none (XP := fun _ _ => True))) rfl [(222, [q9wT [(5, 0, (0, 0)), (0, 1, (0, 0)), (0, 2, (0, 0))] (fun th => q9bitR (q9gA th 1) (q9gA th 2))]), (236, [q9wT [(5, 0, (0, 0)), (0, 1, (0, 0)), (0, 2, (0, 0)), (1, 0, (0, 0))] (fun th => q9clrR (q9gA th 1) (q9gA th 2) (q9gA th 3))])] (List.forall_mem_cons.mpr ⟨(List.forall_mem_cons.mpr ⟨(q9wT_ok fun _ => q9bitR_ok _ _), (fun _ h => absurd h List.not_mem_nil)⟩), (List.forall_mem_cons.mpr ⟨(List.forall_mem_cons.mpr ⟨(q9wT_ok fun _ => q9clrR_ok _ _ _), (fun _ h => absurd h List.not_mem_nil)⟩), (fun _ h => absurd h List.not_mem_nil)⟩)⟩)) (q9conB_of q9hp_X12_tryAll_p3 q9hq_X12_tryAll_p3 (by decide +kernel))
set_option maxRecDepth 100000 in
theorem q9lk_X12_498_X12_puts_p2 : q9LKs q9ALLW RX12 (498, 0, 12, q9i_X12_puts_p2) := ⟨q9wk_X12_puts, ⟨by decide, by decide, by decide +kernel⟩, q9goodW _ (List.forall_mem_cons.mpr ⟨(q9inT10 217 rfl rfl), q9wv_X12_puts⟩), _, rfl, rfl⟩
set_option maxRecDepth 100000 in
theorem q9lk_X12_501_X12_tryAll_p3 : q9LKs q9ALLW RX12 (501, 0, 12, q9i_X12_tryAll_p3) := ⟨q9wk_X12_tryAll, ⟨by decide, by decide, by decide +kernel⟩, q9goodW _ (List.forall_mem_cons.mpr ⟨(q9inT10 213 rfl rfl), q9wv_X12_tryAll⟩), _, rfl, rfl⟩
def q9i_X12_tryAll_p2 : q9INST := (yX12_tryAll, cX12_tryAll, 7, none, (6, 124, 0, 0), (([(0, 0, 0), (2, 12, 0), (0, (-2147483648), 2147483647), (0, 2, 2), (0, 0, 3)], [(0, (1, 0)), (1, (2, 0))], [], [(1, 0), (2, 0)], [(1, 66, (3, 0))], [], [], [(31, (2, 0), (0, 32), 4)], 0, 0), [(5, 0, (0, 0)), (0, 0, (0, 0)), (0, 1, (0, 0)), (3, 1, (66, 0)), (131, 2, (0, 32))]), [(([(0, 0, 0), (2, 12, 0), (0, (-2147483648), 2147483647)], [], [], [(1, 0), (2, 0)], [(1, 66, (0, 2))], [], [], [], 0, 0), [(5, 0, (0, 0)), (2, 0, (0, 0)), (2, 1, (0, 0))])], [], [834, 835, 836, 837, 100214, 100215, 100216, 100217, 100218, 100219, 100220, 100221], [])
def q9e_X12_tryAll_p2 : q9EN := (q9TBL, q9fs_X12, q9ps_X12, [834, 835, 836, 837, 100214, 100215, 100216, 100217, 100218, 100219, 100220, 100221], [(498, 0, 12, q9i_X12_puts_p2), (501, 0, 12, q9i_X12_tryAll_p3)], [], (6, 124, 0, 0), 7, [], [], [])
set_option maxRecDepth 100000 in
set_option maxHeartbeats 4000000 in
def q9cu_X12_tryAll_p2_0 : q9CUT := (12, ([(0, 0, 0), (2, 12, 0), (1, 0, 2147483647), (1, (-9223372036854775808), 9223372036854775807), (0, 0, 2), (0, 0, 0), (0, 2, 2), (0, 0, 3)], [(0, (1, 0)), (2, (2, 0)), (4, (3, 0)), (6, (4, 0))], [], [(1, 0), (5, 0)], [(1, 66, (6, 0))], [], [], [(31, (5, 0), (0, 32), 7)], 0, 0), [(5, 0, (0, 0)), (0, 0, (0, 0)), (0, 2, (0, 0)), (0, 4, (0, 0)), (0, 6, (0, 0)), (2, 1, (0, 0)), (3, 1, (66, 0)), (131, 5, (0, 32))], [(0, 0, 99988), (2, 4, 2), (0, 0, 99988), (0, 0, 0), (0, 0, 0)])
set_option maxRecDepth 100000 in
set_option maxHeartbeats 4000000 in
def q9cu_X12_tryAll_p2_1 : q9CUT := (124, ([(0, 0, 0), (2, 12, 0), (0, 0, 2), (0, 0, 0), (0, 2, 2), (0, 0, 3)], [(0, (1, 0)), (6, (2, 0))], [], [(1, 0), (3, 0)], [(1, 66, (4, 0))], [], [], [(31, (3, 0), (0, 32), 5)], 0, 0), [(5, 0, (0, 0)), (0, 0, (0, 0)), (0, 6, (0, 0)), (2, 1, (0, 0)), (3, 1, (66, 0)), (131, 3, (0, 32))], [(0, 0, 99876), (2, 2, 2), (0, 0, 99876), (0, 0, 0), (0, 0, 0)])
set_option maxRecDepth 100000 in
set_option maxHeartbeats 4000000 in
def q9cu_X12_tryAll_p2_2 : q9CUT := (198, ([(0, 0, 0), (2, 12, 0), (0, (-2147483648), 2147483647), (0, 0, 12), (0, 2, 2), (0, 0, 3)], [(0, (1, 0)), (1, (2, 0)), (2, (3, 0))], [], [(1, 0), (2, 0)], [(1, 66, (4, 0))], [], [], [(31, (2, 0), (0, 32), 5)], 0, 0), [(5, 0, (0, 0)), (0, 0, (0, 0)), (0, 1, (0, 0)), (0, 2, (0, 0)), (3, 1, (66, 0)), (131, 2, (0, 32))], [(0, 0, 99802), (2, 3, 12), (0, 0, 99802), (0, 0, 0), (0, 0, 0)])
set_option maxRecDepth 100000 in
set_option maxHeartbeats 4000000 in
def q9cu_X12_tryAll_p2_3 : q9CUT := (208, ([(0, 0, 0), (2, 12, 0), (0, (-2147483648), 2147483647), (0, 0, 11), (0, 0, 3), (0, 1, 12), (0, 2, 2), (0, 0, 3)], [(0, (1, 0)), (1, (2, 0)), (2, (3, 0)), (3, (4, 0))], [], [(1, 0), (2, 0)], [(1, 38, (5, 0)), (1, 66, (6, 0))], [], [(3, 5, (-1))], [(31, (2, 0), (0, 32), 7)], 0, 0), [(5, 0, (0, 0)), (0, 0, (0, 0)), (0, 1, (0, 0)), (0, 2, (0, 0)), (0, 3, (0, 0)), (3, 1, (38, 0)), (3, 1, (66, 0)), (131, 2, (0, 32))], [(0, 0, 99802), (2, 3, 12), (0, 0, 99792), (2, 4, 3), (0, 0, 99792)])
def q9cu_X12_tryAll_p2 : List q9CUT := [q9cu_X12_tryAll_p2_0, q9cu_X12_tryAll_p2_1, q9cu_X12_tryAll_p2_2, q9cu_X12_tryAll_p2_3]
set_option maxRecDepth 100000 in
set_option maxHeartbeats 4000000 in
def q9mac_X12_tryAll_p2 : Nat → q9ST → Option (List (Nat × q9ST)) := q9rfM (q9stM q9e_X12_tryAll_p2 [] [] (fun _ _ => none) cX12_tryAll) [(222, [q9wT [(5, 0, (0, 0)), (0, 1, (0, 0)), (0, 2, (0, 0))] (fun th => q9bitR (q9gA th 1) (q9gA th 2))]), (236, [q9wT [(5, 0, (0, 0)), (0, 1, (0, 0)), (0, 2, (0, 0)), (1, 0, (0, 0))] (fun th => q9clrR (q9gA th 1) (q9gA th 2) (q9gA th 3))])]
set_option maxRecDepth 100000 in
set_option maxHeartbeats 4000000 in
theorem q9hp_X12_tryAll_p2 : q9chk (q9step q9e_X12_tryAll_p2 [] [] q9mac_X12_tryAll_p2 (q9rtB q9i_X12_tryAll_p2) (q9iC q9i_X12_tryAll_p2)) q9cu_X12_tryAll_p2 none 136 0 (q9iPre q9i_X12_tryAll_p2) = true := by decide +kernel
set_option maxRecDepth 100000 in
set_option maxHeartbeats 4000000 in
def q9nd_X12_tryAll_p2_0_0 : q9ND := (38, ([(0, 0, 0), (2, 12, 0), (1, 0, 2147483646), (1, (-9223372036854775808), 9223372036854775807), (0, 0, 1), (0, 0, 0), (0, 2, 2), (0, 0, 3), (2, 217, 0), (0, (-2147483648), 2147483647), (1, 1, 2147483647), (0, 1, 1)], [(0, (1, 0)), (2, (2, 0)), (4, (3, 0)), (6, (4, 0))], [(8, 0)], [(1, 0), (5, 0)], [(1, 73, (8, 0)), (1, 66, (6, 0))], [(8, (4, 0), (9, 0))], [(2, 10, (-1)), (4, 6, (-1))], [(24, (10, 0), (2, 0), 11), (11, (9, 0), (9, 0), 10), (31, (5, 0), (0, 32), 7)], 0, 0))
set_option maxRecDepth 100000 in
set_option maxHeartbeats 4000000 in
def q9nd_X12_tryAll_p2_0_1 : q9ND := (63, ([(0, 0, 0), (2, 12, 0), (1, 0, 2147483646), (1, (-9223372036854775808), 9223372036854775807), (0, 0, 1), (0, 0, 0), (0, 2, 2), (0, 0, 3), (2, 217, 0), (0, (-2147483648), 2147483647), (1, 1, 2147483647), (0, 1, 1), (1, (-9223372036854775808), 9223372036854775807)], [(6, (4, 1)), (4, (12, 0)), (2, (10, 0)), (0, (1, 0))], [], [(1, 0), (5, 0)], [(1, 73, (8, 0)), (1, 66, (6, 0))], [(8, (4, 0), (9, 0))], [(2, 10, (-1)), (4, 6, (-1))], [(20, (3, 0), (10, 0), 12), (24, (10, 0), (2, 0), 11), (11, (9, 0), (9, 0), 10), (31, (5, 0), (0, 32), 7)], 0, 0))
set_option maxRecDepth 100000 in
set_option maxHeartbeats 4000000 in
def q9nd_X12_tryAll_p2_0_2 : q9ND := (47, ([(0, 0, 0), (2, 12, 0), (1, 0, 2147483647), (1, (-9223372036854775808), 9223372036854775807), (0, 0, 1), (0, 0, 0), (0, 2, 2), (0, 0, 3), (2, 217, 0), (0, (-2147483648), 2147483647), (1, (-2147483648), 2147483647), (0, (-1), 0)], [(2, (2, 0)), (0, (1, 0)), (4, (3, 0)), (6, (4, 0))], [], [(1, 0), (5, 0)], [(1, 73, (8, 0)), (1, 66, (6, 0))], [(8, (4, 0), (9, 0))], [(10, 2, 0), (4, 6, (-1))], [(24, (10, 0), (2, 0), 11), (11, (9, 0), (9, 0), 10), (31, (5, 0), (0, 32), 7)], 0, 0))
set_option maxRecDepth 100000 in
set_option maxHeartbeats 4000000 in
def q9nd_X12_tryAll_p2_0_3 : q9ND := (84, ([(0, 0, 0), (2, 12, 0), (1, 0, 2147483647), (1, (-9223372036854775808), 9223372036854775807), (0, 2, 2), (0, 0, 0), (0, 2, 2), (0, 0, 3), (0, 1, 5), (1, 0, 9223372036854775807), (0, (-1), 0)], [(0, (1, 0)), (2, (2, 0)), (4, (3, 0)), (6, (4, 0))], [(1, 0), (2, 0)], [(1, 0), (5, 0)], [(1, 68, (9, 0)), (1, 67, (8, 0)), (1, 66, (6, 0))], [], [(2, 9, 0), (6, 4, 0)], [(24, (2, 0), (9, 0), 10), (31, (5, 0), (0, 32), 7)], 0, 0))
set_option maxRecDepth 100000 in
set_option maxHeartbeats 4000000 in
def q9nd_X12_tryAll_p2_0_4 : q9ND := (112, ([(0, 0, 0), (2, 12, 0), (1, 0, 2147483647), (1, (-9223372036854775808), 9223372036854775806), (0, 2, 2), (0, 0, 0), (0, 2, 2), (0, 0, 3), (0, 1, 5), (1, 0, 2147483647), (0, 0, 0), (1, (-9223372036854775807), 9223372036854775807), (0, (-1), (-1))], [(0, (1, 0)), (2, (2, 0)), (4, (3, 0)), (6, (4, 0))], [(2, 0), (1, 0)], [(1, 0), (5, 0)], [(1, 67, (6, 0)), (1, 69, (11, 0)), (1, 68, (9, 0)), (1, 66, (6, 0))], [], [(3, 11, (-1)), (9, 2, 0), (2, 9, 0), (2, 9, 0), (6, 4, 0)], [(24, (3, 0), (11, 0), 12), (24, (2, 0), (9, 0), 10), (31, (5, 0), (0, 32), 7)], 0, 0))
set_option maxRecDepth 100000 in
set_option maxHeartbeats 4000000 in
def q9nd_X12_tryAll_p2_0_5 : q9ND := (122, ([(0, 0, 0), (2, 12, 0), (1, 0, 2147483647), (1, (-9223372036854775808), 9223372036854775807), (0, 2, 2), (0, 0, 0), (0, 2, 2), (0, 0, 3), (0, 1, 5), (1, 0, 9223372036854775807), (0, (-1), (-1))], [(0, (1, 0)), (2, (2, 0)), (4, (3, 0)), (6, (4, 0))], [(0, 0)], [(1, 0), (5, 0)], [(1, 69, (3, 0)), (1, 68, (2, 0)), (1, 67, (6, 0)), (1, 66, (6, 0))], [], [(2, 9, 0), (6, 4, 0)], [(24, (2, 0), (9, 0), 10), (31, (5, 0), (0, 32), 7)], 0, 0))
set_option maxRecDepth 100000 in
set_option maxHeartbeats 4000000 in
def q9nd_X12_tryAll_p2_0_6 : q9ND := (115, ([(0, 0, 0), (2, 12, 0), (1, 0, 2147483647), (1, (-9223372036854775808), 9223372036854775807), (0, 2, 2), (0, 0, 0), (0, 2, 2), (0, 0, 3), (0, 0, 0)], [(0, (1, 0)), (2, (2, 0)), (4, (3, 0)), (6, (4, 0))], [], [(1, 0), (5, 0)], [(1, 68, (2, 0)), (1, 67, (6, 0)), (1, 66, (6, 0))], [], [(6, 4, 0)], [(31, (5, 0), (0, 32), 7)], 0, 0))
def q9tn_X12_tryAll_p2_0_7 : List q9ND := []
def q9tn_X12_tryAll_p2_0_6 : List q9ND := q9nd_X12_tryAll_p2_0_6 :: q9tn_X12_tryAll_p2_0_7
def q9tn_X12_tryAll_p2_0_5 : List q9ND := q9nd_X12_tryAll_p2_0_5 :: q9tn_X12_tryAll_p2_0_6
def q9tn_X12_tryAll_p2_0_4 : List q9ND := q9nd_X12_tryAll_p2_0_4 :: q9tn_X12_tryAll_p2_0_5
def q9tn_X12_tryAll_p2_0_3 : List q9ND := q9nd_X12_tryAll_p2_0_3 :: q9tn_X12_tryAll_p2_0_4
def q9tn_X12_tryAll_p2_0_2 : List q9ND := q9nd_X12_tryAll_p2_0_2 :: q9tn_X12_tryAll_p2_0_3
def q9tn_X12_tryAll_p2_0_1 : List q9ND := q9nd_X12_tryAll_p2_0_1 :: q9tn_X12_tryAll_p2_0_2
def q9tn_X12_tryAll_p2_0_0 : List q9ND := q9nd_X12_tryAll_p2_0_0 :: q9tn_X12_tryAll_p2_0_1
set_option maxRecDepth 100000 in
set_option maxHeartbeats 4000000 in
theorem q9hn_X12_tryAll_p2_0_0 : q9chkE (q9step q9e_X12_tryAll_p2 [] [] q9mac_X12_tryAll_p2 (q9rtB q9i_X12_tryAll_p2) (q9iC q9i_X12_tryAll_p2)) q9cu_X12_tryAll_p2 (some q9cu_X12_tryAll_p2_0.2.2.2) q9tn_X12_tryAll_p2_0_1 17 q9nd_X12_tryAll_p2_0_0.1 q9nd_X12_tryAll_p2_0_0.2 = true := by decide +kernel
set_option maxRecDepth 100000 in
set_option maxHeartbeats 4000000 in
theorem q9hn_X12_tryAll_p2_0_1 : q9chkE (q9step q9e_X12_tryAll_p2 [] [] q9mac_X12_tryAll_p2 (q9rtB q9i_X12_tryAll_p2) (q9iC q9i_X12_tryAll_p2)) q9cu_X12_tryAll_p2 (some q9cu_X12_tryAll_p2_0.2.2.2) q9tn_X12_tryAll_p2_0_2 17 q9nd_X12_tryAll_p2_0_1.1 q9nd_X12_tryAll_p2_0_1.2 = true := by decide +kernel
set_option maxRecDepth 100000 in
set_option maxHeartbeats 4000000 in
theorem q9hn_X12_tryAll_p2_0_2 : q9chkE (q9step q9e_X12_tryAll_p2 [] [] q9mac_X12_tryAll_p2 (q9rtB q9i_X12_tryAll_p2) (q9iC q9i_X12_tryAll_p2)) q9cu_X12_tryAll_p2 (some q9cu_X12_tryAll_p2_0.2.2.2) q9tn_X12_tryAll_p2_0_3 17 q9nd_X12_tryAll_p2_0_2.1 q9nd_X12_tryAll_p2_0_2.2 = true := by decide +kernel
set_option maxRecDepth 100000 in
set_option maxHeartbeats 4000000 in
theorem q9hn_X12_tryAll_p2_0_3 : q9chkE (q9step q9e_X12_tryAll_p2 [] [] q9mac_X12_tryAll_p2 (q9rtB q9i_X12_tryAll_p2) (q9iC q9i_X12_tryAll_p2)) q9cu_X12_tryAll_p2 (some q9cu_X12_tryAll_p2_0.2.2.2) q9tn_X12_tryAll_p2_0_4 17 q9nd_X12_tryAll_p2_0_3.1 q9nd_X12_tryAll_p2_0_3.2 = true := by decide +kernel
set_option maxRecDepth 100000 in
set_option maxHeartbeats 4000000 in
theorem q9hn_X12_tryAll_p2_0_4 : q9chkE (q9step q9e_X12_tryAll_p2 [] [] q9mac_X12_tryAll_p2 (q9rtB q9i_X12_tryAll_p2) (q9iC q9i_X12_tryAll_p2)) q9cu_X12_tryAll_p2 (some q9cu_X12_tryAll_p2_0.2.2.2) q9tn_X12_tryAll_p2_0_5 17 q9nd_X12_tryAll_p2_0_4.1 q9nd_X12_tryAll_p2_0_4.2 = true := by decide +kernel
set_option maxRecDepth 100000 in
set_option maxHeartbeats 4000000 in
theorem q9hn_X12_tryAll_p2_0_5 : q9chkE (q9step q9e_X12_tryAll_p2 [] [] q9mac_X12_tryAll_p2 (q9rtB q9i_X12_tryAll_p2) (q9iC q9i_X12_tryAll_p2)) q9cu_X12_tryAll_p2 (some q9cu_X12_tryAll_p2_0.2.2.2) q9tn_X12_tryAll_p2_0_6 17 q9nd_X12_tryAll_p2_0_5.1 q9nd_X12_tryAll_p2_0_5.2 = true := by decide +kernel
set_option maxRecDepth 100000 in
set_option maxHeartbeats 4000000 in
theorem q9hn_X12_tryAll_p2_0_6 : q9chkE (q9step q9e_X12_tryAll_p2 [] [] q9mac_X12_tryAll_p2 (q9rtB q9i_X12_tryAll_p2) (q9iC q9i_X12_tryAll_p2)) q9cu_X12_tryAll_p2 (some q9cu_X12_tryAll_p2_0.2.2.2) q9tn_X12_tryAll_p2_0_7 17 q9nd_X12_tryAll_p2_0_6.1 q9nd_X12_tryAll_p2_0_6.2 = true := by decide +kernel
set_option maxRecDepth 100000 in
set_option maxHeartbeats 4000000 in
theorem q9hs_X12_tryAll_p2_0 : q9chkE (q9step q9e_X12_tryAll_p2 [] [] q9mac_X12_tryAll_p2 (q9rtB q9i_X12_tryAll_p2) (q9iC q9i_X12_tryAll_p2)) q9cu_X12_tryAll_p2 (some q9cu_X12_tryAll_p2_0.2.2.2) q9tn_X12_tryAll_p2_0_0 17 q9cu_X12_tryAll_p2_0.1 q9cu_X12_tryAll_p2_0.2.1 = true := by decide +kernel
set_option maxRecDepth 100000 in
set_option maxHeartbeats 4000000 in
theorem q9hr_X12_tryAll_p2_0 : q9chk (q9step q9e_X12_tryAll_p2 [] [] q9mac_X12_tryAll_p2 (q9rtB q9i_X12_tryAll_p2) (q9iC q9i_X12_tryAll_p2)) q9cu_X12_tryAll_p2 (some q9cu_X12_tryAll_p2_0.2.2.2) 136 q9cu_X12_tryAll_p2_0.1 q9cu_X12_tryAll_p2_0.2.1 = true := q9walkE (N := q9tn_X12_tryAll_p2_0_0) (f := 17) (n := 7) rfl (Nat.le_of_ble_eq_true rfl) ⟨q9hn_X12_tryAll_p2_0_0, q9hn_X12_tryAll_p2_0_1, q9hn_X12_tryAll_p2_0_2, q9hn_X12_tryAll_p2_0_3, q9hn_X12_tryAll_p2_0_4, q9hn_X12_tryAll_p2_0_5, q9hn_X12_tryAll_p2_0_6, trivial⟩ q9hs_X12_tryAll_p2_0
set_option maxRecDepth 100000 in
set_option maxHeartbeats 4000000 in
theorem q9hp_X12_tryAll_p2_0 : (q9chk (q9step q9e_X12_tryAll_p2 [] [] q9mac_X12_tryAll_p2 (q9rtB q9i_X12_tryAll_p2) (q9iC q9i_X12_tryAll_p2)) q9cu_X12_tryAll_p2 (some q9cu_X12_tryAll_p2_0.2.2.2) 136 q9cu_X12_tryAll_p2_0.1 q9cu_X12_tryAll_p2_0.2.1 && q9cu_X12_tryAll_p2_0.2.2.2.all (fun q => decide (q.1 = 0) || decide (q.2.1 < (q9tE q9cu_X12_tryAll_p2_0.2.1).length))) = true := by
  rw [q9hr_X12_tryAll_p2_0, Bool.true_and]
  decide +kernel
set_option maxRecDepth 100000 in
set_option maxHeartbeats 4000000 in
def q9nd_X12_tryAll_p2_1_0 : q9ND := (151, ([(0, 0, 0), (2, 12, 0), (0, 0, 1), (0, 0, 0), (0, 2, 2), (0, 0, 3), (2, 218, 0), (2, 214, 0), (0, 0, 11), (2, 219, 0)], [(0, (1, 0)), (6, (2, 0))], [(9, 0)], [(1, 0), (3, 0)], [(1, 75, (9, 0)), (1, 70, (7, 0)), (1, 74, (6, 0)), (1, 66, (4, 0))], [(6, (2, 0), (8, 0)), (7, (2, 0), (8, 0))], [(2, 4, (-1))], [(31, (3, 0), (0, 32), 5)], 0, 0))
set_option maxRecDepth 100000 in
set_option maxHeartbeats 4000000 in
def q9nd_X12_tryAll_p2_1_1 : q9ND := (175, ([(0, 0, 0), (2, 12, 0), (0, 0, 1), (0, 0, 0), (0, 2, 2), (0, 0, 3), (2, 218, 0), (2, 214, 0), (0, 0, 11), (2, 219, 0), (2, 215, 0), (0, 0, 2), (2, 220, 0), (2, 216, 0), (0, (-2147483648), 2147483647)], [(0, (1, 0)), (6, (2, 0))], [], [(1, 0), (3, 0)], [(1, 72, (13, 0)), (1, 76, (12, 0)), (1, 71, (10, 0)), (1, 75, (9, 0)), (1, 70, (7, 0)), (1, 74, (6, 0)), (1, 66, (4, 0))], [(12, (2, 0), (14, 0)), (13, (2, 0), (14, 0)), (9, (2, 0), (11, 0)), (10, (2, 0), (11, 0)), (6, (2, 0), (8, 0)), (7, (2, 0), (8, 0))], [(2, 4, (-1))], [(31, (3, 0), (0, 32), 5)], 0, 0))
def q9tn_X12_tryAll_p2_1_2 : List q9ND := []
def q9tn_X12_tryAll_p2_1_1 : List q9ND := q9nd_X12_tryAll_p2_1_1 :: q9tn_X12_tryAll_p2_1_2
def q9tn_X12_tryAll_p2_1_0 : List q9ND := q9nd_X12_tryAll_p2_1_0 :: q9tn_X12_tryAll_p2_1_1
set_option maxRecDepth 100000 in
set_option maxHeartbeats 4000000 in
theorem q9hn_X12_tryAll_p2_1_0 : q9chkE (q9step q9e_X12_tryAll_p2 [] [] q9mac_X12_tryAll_p2 (q9rtB q9i_X12_tryAll_p2) (q9iC q9i_X12_tryAll_p2)) q9cu_X12_tryAll_p2 (some q9cu_X12_tryAll_p2_1.2.2.2) q9tn_X12_tryAll_p2_1_1 17 q9nd_X12_tryAll_p2_1_0.1 q9nd_X12_tryAll_p2_1_0.2 = true := by decide +kernel
set_option maxRecDepth 100000 in
set_option maxHeartbeats 4000000 in
theorem q9hn_X12_tryAll_p2_1_1 : q9chkE (q9step q9e_X12_tryAll_p2 [] [] q9mac_X12_tryAll_p2 (q9rtB q9i_X12_tryAll_p2) (q9iC q9i_X12_tryAll_p2)) q9cu_X12_tryAll_p2 (some q9cu_X12_tryAll_p2_1.2.2.2) q9tn_X12_tryAll_p2_1_2 17 q9nd_X12_tryAll_p2_1_1.1 q9nd_X12_tryAll_p2_1_1.2 = true := by decide +kernel
set_option maxRecDepth 100000 in
set_option maxHeartbeats 4000000 in
theorem q9hs_X12_tryAll_p2_1 : q9chkE (q9step q9e_X12_tryAll_p2 [] [] q9mac_X12_tryAll_p2 (q9rtB q9i_X12_tryAll_p2) (q9iC q9i_X12_tryAll_p2)) q9cu_X12_tryAll_p2 (some q9cu_X12_tryAll_p2_1.2.2.2) q9tn_X12_tryAll_p2_1_0 17 q9cu_X12_tryAll_p2_1.1 q9cu_X12_tryAll_p2_1.2.1 = true := by decide +kernel
set_option maxRecDepth 100000 in
set_option maxHeartbeats 4000000 in
theorem q9hr_X12_tryAll_p2_1 : q9chk (q9step q9e_X12_tryAll_p2 [] [] q9mac_X12_tryAll_p2 (q9rtB q9i_X12_tryAll_p2) (q9iC q9i_X12_tryAll_p2)) q9cu_X12_tryAll_p2 (some q9cu_X12_tryAll_p2_1.2.2.2) 136 q9cu_X12_tryAll_p2_1.1 q9cu_X12_tryAll_p2_1.2.1 = true := q9walkE (N := q9tn_X12_tryAll_p2_1_0) (f := 17) (n := 2) rfl (Nat.le_of_ble_eq_true rfl) ⟨q9hn_X12_tryAll_p2_1_0, q9hn_X12_tryAll_p2_1_1, trivial⟩ q9hs_X12_tryAll_p2_1
set_option maxRecDepth 100000 in
set_option maxHeartbeats 4000000 in
theorem q9hp_X12_tryAll_p2_1 : (q9chk (q9step q9e_X12_tryAll_p2 [] [] q9mac_X12_tryAll_p2 (q9rtB q9i_X12_tryAll_p2) (q9iC q9i_X12_tryAll_p2)) q9cu_X12_tryAll_p2 (some q9cu_X12_tryAll_p2_1.2.2.2) 136 q9cu_X12_tryAll_p2_1.1 q9cu_X12_tryAll_p2_1.2.1 && q9cu_X12_tryAll_p2_1.2.2.2.all (fun q => decide (q.1 = 0) || decide (q.2.1 < (q9tE q9cu_X12_tryAll_p2_1.2.1).length))) = true := by
  rw [q9hr_X12_tryAll_p2_1, Bool.true_and]
  decide +kernel
set_option maxRecDepth 100000 in
set_option maxHeartbeats 4000000 in
theorem q9hr_X12_tryAll_p2_2 : q9chk (q9step q9e_X12_tryAll_p2 [] [] q9mac_X12_tryAll_p2 (q9rtB q9i_X12_tryAll_p2) (q9iC q9i_X12_tryAll_p2)) q9cu_X12_tryAll_p2 (some q9cu_X12_tryAll_p2_2.2.2.2) 136 q9cu_X12_tryAll_p2_2.1 q9cu_X12_tryAll_p2_2.2.1 = true := by decide +kernel
set_option maxRecDepth 100000 in
set_option maxHeartbeats 4000000 in
theorem q9hp_X12_tryAll_p2_2 : (q9chk (q9step q9e_X12_tryAll_p2 [] [] q9mac_X12_tryAll_p2 (q9rtB q9i_X12_tryAll_p2) (q9iC q9i_X12_tryAll_p2)) q9cu_X12_tryAll_p2 (some q9cu_X12_tryAll_p2_2.2.2.2) 136 q9cu_X12_tryAll_p2_2.1 q9cu_X12_tryAll_p2_2.2.1 && q9cu_X12_tryAll_p2_2.2.2.2.all (fun q => decide (q.1 = 0) || decide (q.2.1 < (q9tE q9cu_X12_tryAll_p2_2.2.1).length))) = true := by
  rw [q9hr_X12_tryAll_p2_2, Bool.true_and]
  decide +kernel
set_option maxRecDepth 100000 in
set_option maxHeartbeats 4000000 in
def q9nd_X12_tryAll_p2_3_0 : q9ND := (228, ([(0, 0, 0), (2, 12, 0), (0, (-2147483648), 2147483647), (0, 0, 11), (0, 0, 2), (0, 1, 12), (0, 2, 2), (0, 1, 3), (0, (-2147483648), 2147483647), (0, 1, 1)], [(0, (1, 0)), (1, (2, 0)), (2, (3, 0)), (3, (4, 0))], [], [(1, 0), (2, 0)], [(1, 66, (0, 3)), (1, 38, (5, 0))], [], [(3, 5, (-1))], [(5, (8, 0), (0, 1), 9), (9, (2, 0), (3, 0), 8), (31, (2, 0), (0, 32), 7)], 0, 0))
set_option maxRecDepth 100000 in
set_option maxHeartbeats 4000000 in
def q9nd_X12_tryAll_p2_3_1 : q9ND := (246, ([(0, 0, 0), (2, 12, 0), (0, (-2147483648), 2147483647), (0, 0, 11), (0, 0, 2), (0, 1, 12), (0, 2, 2), (0, 1, 3), (0, (-2147483648), 2147483647), (0, 1, 1), (0, (-2147483648), 2147483647), (0, (-2147483648), 2147483647), (0, (-2147483648), 2147483647), (0, 0, 2)], [(0, (1, 0)), (1, (2, 0)), (2, (3, 0)), (3, (4, 0))], [(0, 2), (1, 0)], [(1, 0), (2, 0)], [(1, 66, (0, 3)), (1, 38, (5, 0))], [], [(13, 7, (-1)), (7, 13, 1), (3, 5, (-1))], [(31, (12, 0), (0, 32), 13), (5, (2, 0), (11, 0), 12), (7, (10, 0), (0, (-1)), 11), (8, (0, 1), (3, 0), 10), (5, (8, 0), (0, 1), 9), (9, (2, 0), (3, 0), 8), (31, (2, 0), (0, 32), 7)], 0, 0))
def q9tn_X12_tryAll_p2_3_2 : List q9ND := []
def q9tn_X12_tryAll_p2_3_1 : List q9ND := q9nd_X12_tryAll_p2_3_1 :: q9tn_X12_tryAll_p2_3_2
def q9tn_X12_tryAll_p2_3_0 : List q9ND := q9nd_X12_tryAll_p2_3_0 :: q9tn_X12_tryAll_p2_3_1
set_option maxRecDepth 100000 in
set_option maxHeartbeats 4000000 in
theorem q9hn_X12_tryAll_p2_3_0 : q9chkE (q9step q9e_X12_tryAll_p2 [] [] q9mac_X12_tryAll_p2 (q9rtB q9i_X12_tryAll_p2) (q9iC q9i_X12_tryAll_p2)) q9cu_X12_tryAll_p2 (some q9cu_X12_tryAll_p2_3.2.2.2) q9tn_X12_tryAll_p2_3_1 17 q9nd_X12_tryAll_p2_3_0.1 q9nd_X12_tryAll_p2_3_0.2 = true := by decide +kernel
set_option maxRecDepth 100000 in
set_option maxHeartbeats 4000000 in
theorem q9hn_X12_tryAll_p2_3_1 : q9chkE (q9step q9e_X12_tryAll_p2 [] [] q9mac_X12_tryAll_p2 (q9rtB q9i_X12_tryAll_p2) (q9iC q9i_X12_tryAll_p2)) q9cu_X12_tryAll_p2 (some q9cu_X12_tryAll_p2_3.2.2.2) q9tn_X12_tryAll_p2_3_2 17 q9nd_X12_tryAll_p2_3_1.1 q9nd_X12_tryAll_p2_3_1.2 = true := by decide +kernel
set_option maxRecDepth 100000 in
set_option maxHeartbeats 4000000 in
theorem q9hs_X12_tryAll_p2_3 : q9chkE (q9step q9e_X12_tryAll_p2 [] [] q9mac_X12_tryAll_p2 (q9rtB q9i_X12_tryAll_p2) (q9iC q9i_X12_tryAll_p2)) q9cu_X12_tryAll_p2 (some q9cu_X12_tryAll_p2_3.2.2.2) q9tn_X12_tryAll_p2_3_0 17 q9cu_X12_tryAll_p2_3.1 q9cu_X12_tryAll_p2_3.2.1 = true := by decide +kernel
set_option maxRecDepth 100000 in
set_option maxHeartbeats 4000000 in
theorem q9hr_X12_tryAll_p2_3 : q9chk (q9step q9e_X12_tryAll_p2 [] [] q9mac_X12_tryAll_p2 (q9rtB q9i_X12_tryAll_p2) (q9iC q9i_X12_tryAll_p2)) q9cu_X12_tryAll_p2 (some q9cu_X12_tryAll_p2_3.2.2.2) 136 q9cu_X12_tryAll_p2_3.1 q9cu_X12_tryAll_p2_3.2.1 = true := q9walkE (N := q9tn_X12_tryAll_p2_3_0) (f := 17) (n := 2) rfl (Nat.le_of_ble_eq_true rfl) ⟨q9hn_X12_tryAll_p2_3_0, q9hn_X12_tryAll_p2_3_1, trivial⟩ q9hs_X12_tryAll_p2_3
set_option maxRecDepth 100000 in
set_option maxHeartbeats 4000000 in
theorem q9hp_X12_tryAll_p2_3 : (q9chk (q9step q9e_X12_tryAll_p2 [] [] q9mac_X12_tryAll_p2 (q9rtB q9i_X12_tryAll_p2) (q9iC q9i_X12_tryAll_p2)) q9cu_X12_tryAll_p2 (some q9cu_X12_tryAll_p2_3.2.2.2) 136 q9cu_X12_tryAll_p2_3.1 q9cu_X12_tryAll_p2_3.2.1 && q9cu_X12_tryAll_p2_3.2.2.2.all (fun q => decide (q.1 = 0) || decide (q.2.1 < (q9tE q9cu_X12_tryAll_p2_3.2.1).length))) = true := by
  rw [q9hr_X12_tryAll_p2_3, Bool.true_and]
  decide +kernel
set_option maxRecDepth 100000 in
set_option maxHeartbeats 4000000 in
theorem q9hq_X12_tryAll_p2 : ∀ k ∈ q9cu_X12_tryAll_p2, (q9chk (q9step q9e_X12_tryAll_p2 [] [] q9mac_X12_tryAll_p2 (q9rtB q9i_X12_tryAll_p2) (q9iC q9i_X12_tryAll_p2)) q9cu_X12_tryAll_p2 (some k.2.2.2) 136 k.1 k.2.1 && k.2.2.2.all (fun q => decide (q.1 = 0) || decide (q.2.1 < (q9tE k.2.1).length))) = true := fun k hk => by
  rcases List.mem_cons.mp (show k ∈ q9cu_X12_tryAll_p2_0 :: [q9cu_X12_tryAll_p2_1, q9cu_X12_tryAll_p2_2, q9cu_X12_tryAll_p2_3] from hk) with rfl | hk
  · exact q9hp_X12_tryAll_p2_0
  rcases List.mem_cons.mp hk with rfl | hk
  · exact q9hp_X12_tryAll_p2_1
  rcases List.mem_cons.mp hk with rfl | hk
  · exact q9hp_X12_tryAll_p2_2
  rcases List.mem_cons.mp hk with rfl | hk
  · exact q9hp_X12_tryAll_p2_3
  exact absurd hk List.not_mem_nil
set_option maxRecDepth 100000 in
set_option maxHeartbeats 4000000 in
theorem q9c_X12_tryAll_p2 (l : Launch) (hst : l.stackTraces = false) : q9CON l q9TBL q9ALLW q9i_X12_tryAll_p2 := q9con_ofX (XP := fun _ _ => True) (mac := q9mac_X12_tryAll_p2) (q := q9i_X12_tryAll_p2) (n := q9e_X12_tryAll_p2) (K := []) (K2 := []) (cuts := q9cu_X12_tryAll_p2) (f := 136) hst (by decide +kernel) (fun h => absurd rfl h) ⟨q9goodA, q9fs_X12_ok, q9ps_X12_ok, (List.forall_mem_cons.mpr ⟨⟨⟨q9c_X12_puts_p2 l hst, q9lk_X12_498_X12_puts_p2⟩, rfl⟩, (List.forall_mem_cons.mpr ⟨⟨⟨q9c_X12_tryAll_p3 l hst, q9lk_X12_501_X12_tryAll_p3⟩, rfl⟩, (fun _ h => absurd h List.not_mem_nil)⟩)⟩), (fun _ h => absurd h List.not_mem_nil), q9kas_ok, (fun _ h => absurd h List.not_mem_nil), (fun _ h => absurd h List.not_mem_nil), (fun _ h => absurd h List.not_mem_nil)⟩ rfl rfl rfl (q9macx_rf (XP := fun _ _ => True) (q9macx_st (XP := fun _ _ => True) (cc := cX12_tryAll) (q9macx_none (XP := fun _ _ => True))) rfl [(222, [q9wT [(5, 0, (0, 0)), (0, 1, (0, 0)), (0, 2, (0, 0))] (fun th => q9bitR (q9gA th 1) (q9gA th 2))]), (236, [q9wT [(5, 0, (0, 0)), (0, 1, (0, 0)), (0, 2, (0, 0)), (1, 0, (0, 0))] (fun th => q9clrR (q9gA th 1) (q9gA th 2) (q9gA th 3))])] (List.forall_mem_cons.mpr ⟨(List.forall_mem_cons.mpr ⟨(q9wT_ok fun _ => q9bitR_ok _ _), (fun _ h => absurd h List.not_mem_nil)⟩), (List.forall_mem_cons.mpr ⟨(List.forall_mem_cons.mpr ⟨(q9wT_ok fun _ => q9clrR_ok _ _ _), (fun _ h => absurd h List.not_mem_nil)⟩), (fun _ h => absurd h List.not_mem_nil)⟩)⟩)) (q9conB_of q9hp_X12_tryAll_p2 q9hq_X12_tryAll_p2 (by decide +kernel))
set_option maxRecDepth 100000 in
theorem q9lk_X12_498_X12_puts_p1 : q9LKs q9ALLW RX12 (498, 0, 12, q9i_X12_puts_p1) := ⟨q9wk_X12_puts, ⟨by decide, by decide, by decide +kernel⟩, q9goodW _ (List.forall_mem_cons.mpr ⟨(q9inT10 217 rfl rfl), q9wv_X12_puts⟩), _, rfl, rfl⟩
set_option maxRecDepth 100000 in
theorem q9lk_X12_501_X12_tryAll_p2 : q9LKs q9ALLW RX12 (501, 0, 12, q9i_X12_tryAll_p2) := ⟨q9wk_X12_tryAll, ⟨by decide, by decide, by decide +kernel⟩, q9goodW _ (List.forall_mem_cons.mpr ⟨(q9inT10 213 rfl rfl), q9wv_X12_tryAll⟩), _, rfl, rfl⟩
def q9i_X12_tryAll_p1 : q9INST := (yX12_tryAll, cX12_tryAll, 7, none, (7, 150, 0, 0), (([(0, 0, 0), (2, 12, 0), (0, (-2147483648), 2147483647), (0, 1, 1), (0, 0, 4)], [(0, (1, 0)), (1, (2, 0))], [], [(1, 0), (2, 0)], [(1, 66, (3, 0))], [], [], [(31, (2, 0), (0, 32), 4)], 0, 0), [(5, 0, (0, 0)), (0, 0, (0, 0)), (0, 1, (0, 0)), (3, 1, (66, 0)), (131, 2, (0, 32))]), [(([(0, 0, 0), (2, 12, 0), (0, (-2147483648), 2147483647)], [], [], [(1, 0), (2, 0)], [(1, 66, (0, 1))], [], [], [], 0, 0), [(5, 0, (0, 0)), (2, 0, (0, 0)), (2, 1, (0, 0))])], [], [834, 835, 836, 837, 100214, 100215, 100216, 100217, 100218, 100219, 100220, 100221], [])
def q9e_X12_tryAll_p1 : q9EN := (q9TBL, q9fs_X12, q9ps_X12, [834, 835, 836, 837, 100214, 100215, 100216, 100217, 100218, 100219, 100220, 100221], [(498, 0, 12, q9i_X12_puts_p1), (501, 0, 12, q9i_X12_tryAll_p2)], [], (7, 150, 0, 0), 7, [], [], [])
set_option maxRecDepth 100000 in
set_option maxHeartbeats 4000000 in
def q9cu_X12_tryAll_p1_0 : q9CUT := (12, ([(0, 0, 0), (2, 12, 0), (1, 0, 2147483647), (1, (-9223372036854775808), 9223372036854775807), (0, 0, 1), (0, 0, 0), (0, 1, 1), (0, 0, 4)], [(0, (1, 0)), (2, (2, 0)), (4, (3, 0)), (6, (4, 0))], [], [(1, 0), (5, 0)], [(1, 66, (6, 0))], [], [], [(31, (5, 0), (0, 32), 7)], 0, 0), [(5, 0, (0, 0)), (0, 0, (0, 0)), (0, 2, (0, 0)), (0, 4, (0, 0)), (0, 6, (0, 0)), (2, 1, (0, 0)), (3, 1, (66, 0)), (131, 5, (0, 32))], [(0, 0, 99988), (2, 4, 1), (0, 0, 99988), (0, 0, 0), (0, 0, 0)])
set_option maxRecDepth 100000 in
set_option maxHeartbeats 4000000 in
def q9cu_X12_tryAll_p1_1 : q9CUT := (124, ([(0, 0, 0), (2, 12, 0), (0, 0, 1), (0, 0, 0), (0, 1, 1), (0, 0, 4)], [(0, (1, 0)), (6, (2, 0))], [], [(1, 0), (3, 0)], [(1, 66, (4, 0))], [], [], [(31, (3, 0), (0, 32), 5)], 0, 0), [(5, 0, (0, 0)), (0, 0, (0, 0)), (0, 6, (0, 0)), (2, 1, (0, 0)), (3, 1, (66, 0)), (131, 3, (0, 32))], [(0, 0, 99876), (2, 2, 1), (0, 0, 99876), (0, 0, 0), (0, 0, 0)])
set_option maxRecDepth 100000 in
set_option maxHeartbeats 4000000 in
def q9cu_X12_tryAll_p1_2 : q9CUT := (198, ([(0, 0, 0), (2, 12, 0), (0, (-2147483648), 2147483647), (0, 0, 12), (0, 1, 1), (0, 0, 4)], [(0, (1, 0)), (1, (2, 0)), (2, (3, 0))], [], [(1, 0), (2, 0)], [(1, 66, (4, 0))], [], [], [(31, (2, 0), (0, 32), 5)], 0, 0), [(5, 0, (0, 0)), (0, 0, (0, 0)), (0, 1, (0, 0)), (0, 2, (0, 0)), (3, 1, (66, 0)), (131, 2, (0, 32))], [(0, 0, 99802), (2, 3, 12), (0, 0, 99802), (0, 0, 0), (0, 0, 0)])
set_option maxRecDepth 100000 in
set_option maxHeartbeats 4000000 in
def q9cu_X12_tryAll_p1_3 : q9CUT := (208, ([(0, 0, 0), (2, 12, 0), (0, (-2147483648), 2147483647), (0, 0, 11), (0, 0, 3), (0, 1, 12), (0, 1, 1), (0, 0, 4)], [(0, (1, 0)), (1, (2, 0)), (2, (3, 0)), (3, (4, 0))], [], [(1, 0), (2, 0)], [(1, 38, (5, 0)), (1, 66, (6, 0))], [], [(3, 5, (-1))], [(31, (2, 0), (0, 32), 7)], 0, 0), [(5, 0, (0, 0)), (0, 0, (0, 0)), (0, 1, (0, 0)), (0, 2, (0, 0)), (0, 3, (0, 0)), (3, 1, (38, 0)), (3, 1, (66, 0)), (131, 2, (0, 32))], [(0, 0, 99802), (2, 3, 12), (0, 0, 99792), (2, 4, 3), (0, 0, 99792)])
def q9cu_X12_tryAll_p1 : List q9CUT := [q9cu_X12_tryAll_p1_0, q9cu_X12_tryAll_p1_1, q9cu_X12_tryAll_p1_2, q9cu_X12_tryAll_p1_3]
set_option maxRecDepth 100000 in
set_option maxHeartbeats 4000000 in
def q9mac_X12_tryAll_p1 : Nat → q9ST → Option (List (Nat × q9ST)) := q9rfM (q9stM q9e_X12_tryAll_p1 [] [] (fun _ _ => none) cX12_tryAll) [(222, [q9wT [(5, 0, (0, 0)), (0, 1, (0, 0)), (0, 2, (0, 0))] (fun th => q9bitR (q9gA th 1) (q9gA th 2))]), (236, [q9wT [(5, 0, (0, 0)), (0, 1, (0, 0)), (0, 2, (0, 0)), (1, 0, (0, 0))] (fun th => q9clrR (q9gA th 1) (q9gA th 2) (q9gA th 3))])]
set_option maxRecDepth 100000 in
set_option maxHeartbeats 4000000 in
theorem q9hp_X12_tryAll_p1 : q9chk (q9step q9e_X12_tryAll_p1 [] [] q9mac_X12_tryAll_p1 (q9rtB q9i_X12_tryAll_p1) (q9iC q9i_X12_tryAll_p1)) q9cu_X12_tryAll_p1 none 136 0 (q9iPre q9i_X12_tryAll_p1) = true := by decide +kernel
set_option maxRecDepth 100000 in
set_option maxHeartbeats 4000000 in
def q9nd_X12_tryAll_p1_0_0 : q9ND := (38, ([(0, 0, 0), (2, 12, 0), (1, 0, 2147483646), (1, (-9223372036854775808), 9223372036854775807), (0, 0, 0), (0, 0, 0), (0, 1, 1), (0, 0, 4), (2, 217, 0), (0, (-2147483648), 2147483647), (1, 1, 2147483647), (0, 1, 1)], [(0, (1, 0)), (2, (2, 0)), (4, (3, 0)), (6, (4, 0))], [(8, 0)], [(1, 0), (5, 0)], [(1, 73, (8, 0)), (1, 66, (6, 0))], [(8, (4, 0), (9, 0))], [(2, 10, (-1)), (4, 6, (-1))], [(24, (10, 0), (2, 0), 11), (11, (9, 0), (9, 0), 10), (31, (5, 0), (0, 32), 7)], 0, 0))
set_option maxRecDepth 100000 in
set_option maxHeartbeats 4000000 in
def q9nd_X12_tryAll_p1_0_1 : q9ND := (63, ([(0, 0, 0), (2, 12, 0), (1, 0, 2147483646), (1, (-9223372036854775808), 9223372036854775807), (0, 0, 0), (0, 0, 0), (0, 1, 1), (0, 0, 4), (2, 217, 0), (0, (-2147483648), 2147483647), (1, 1, 2147483647), (0, 1, 1), (1, (-9223372036854775808), 9223372036854775807)], [(6, (4, 1)), (4, (12, 0)), (2, (10, 0)), (0, (1, 0))], [], [(1, 0), (5, 0)], [(1, 73, (8, 0)), (1, 66, (6, 0))], [(8, (4, 0), (9, 0))], [(2, 10, (-1)), (4, 6, (-1))], [(20, (3, 0), (10, 0), 12), (24, (10, 0), (2, 0), 11), (11, (9, 0), (9, 0), 10), (31, (5, 0), (0, 32), 7)], 0, 0))
set_option maxRecDepth 100000 in
set_option maxHeartbeats 4000000 in
def q9nd_X12_tryAll_p1_0_2 : q9ND := (47, ([(0, 0, 0), (2, 12, 0), (1, 0, 2147483647), (1, (-9223372036854775808), 9223372036854775807), (0, 0, 0), (0, 0, 0), (0, 1, 1), (0, 0, 4), (2, 217, 0), (0, (-2147483648), 2147483647), (1, (-2147483648), 2147483647), (0, (-1), 0)], [(2, (2, 0)), (0, (1, 0)), (4, (3, 0)), (6, (4, 0))], [], [(1, 0), (5, 0)], [(1, 73, (8, 0)), (1, 66, (6, 0))], [(8, (4, 0), (9, 0))], [(10, 2, 0), (4, 6, (-1))], [(24, (10, 0), (2, 0), 11), (11, (9, 0), (9, 0), 10), (31, (5, 0), (0, 32), 7)], 0, 0))
set_option maxRecDepth 100000 in
set_option maxHeartbeats 4000000 in
def q9nd_X12_tryAll_p1_0_3 : q9ND := (84, ([(0, 0, 0), (2, 12, 0), (1, 0, 2147483647), (1, (-9223372036854775808), 9223372036854775807), (0, 1, 1), (0, 0, 0), (0, 1, 1), (0, 0, 4), (0, 1, 5), (1, 0, 9223372036854775807), (0, (-1), 0)], [(0, (1, 0)), (2, (2, 0)), (4, (3, 0)), (6, (4, 0))], [(1, 0), (2, 0)], [(1, 0), (5, 0)], [(1, 68, (9, 0)), (1, 67, (8, 0)), (1, 66, (6, 0))], [], [(2, 9, 0), (6, 4, 0)], [(24, (2, 0), (9, 0), 10), (31, (5, 0), (0, 32), 7)], 0, 0))
set_option maxRecDepth 100000 in
set_option maxHeartbeats 4000000 in
def q9nd_X12_tryAll_p1_0_4 : q9ND := (112, ([(0, 0, 0), (2, 12, 0), (1, 0, 2147483647), (1, (-9223372036854775808), 9223372036854775806), (0, 1, 1), (0, 0, 0), (0, 1, 1), (0, 0, 4), (0, 1, 5), (1, 0, 2147483647), (0, 0, 0), (1, (-9223372036854775807), 9223372036854775807), (0, (-1), (-1))], [(0, (1, 0)), (2, (2, 0)), (4, (3, 0)), (6, (4, 0))], [(2, 0), (1, 0)], [(1, 0), (5, 0)], [(1, 67, (6, 0)), (1, 69, (11, 0)), (1, 68, (9, 0)), (1, 66, (6, 0))], [], [(3, 11, (-1)), (9, 2, 0), (2, 9, 0), (2, 9, 0), (6, 4, 0)], [(24, (3, 0), (11, 0), 12), (24, (2, 0), (9, 0), 10), (31, (5, 0), (0, 32), 7)], 0, 0))
set_option maxRecDepth 100000 in
set_option maxHeartbeats 4000000 in
def q9nd_X12_tryAll_p1_0_5 : q9ND := (122, ([(0, 0, 0), (2, 12, 0), (1, 0, 2147483647), (1, (-9223372036854775808), 9223372036854775807), (0, 1, 1), (0, 0, 0), (0, 1, 1), (0, 0, 4), (0, 1, 5), (1, 0, 9223372036854775807), (0, (-1), (-1))], [(0, (1, 0)), (2, (2, 0)), (4, (3, 0)), (6, (4, 0))], [(0, 0)], [(1, 0), (5, 0)], [(1, 69, (3, 0)), (1, 68, (2, 0)), (1, 67, (6, 0)), (1, 66, (6, 0))], [], [(2, 9, 0), (6, 4, 0)], [(24, (2, 0), (9, 0), 10), (31, (5, 0), (0, 32), 7)], 0, 0))
set_option maxRecDepth 100000 in
set_option maxHeartbeats 4000000 in
def q9nd_X12_tryAll_p1_0_6 : q9ND := (115, ([(0, 0, 0), (2, 12, 0), (1, 0, 2147483647), (1, (-9223372036854775808), 9223372036854775807), (0, 1, 1), (0, 0, 0), (0, 1, 1), (0, 0, 4), (0, 0, 0)], [(0, (1, 0)), (2, (2, 0)), (4, (3, 0)), (6, (4, 0))], [], [(1, 0), (5, 0)], [(1, 68, (2, 0)), (1, 67, (6, 0)), (1, 66, (6, 0))], [], [(6, 4, 0)], [(31, (5, 0), (0, 32), 7)], 0, 0))
def q9tn_X12_tryAll_p1_0_7 : List q9ND := []
def q9tn_X12_tryAll_p1_0_6 : List q9ND := q9nd_X12_tryAll_p1_0_6 :: q9tn_X12_tryAll_p1_0_7
def q9tn_X12_tryAll_p1_0_5 : List q9ND := q9nd_X12_tryAll_p1_0_5 :: q9tn_X12_tryAll_p1_0_6
def q9tn_X12_tryAll_p1_0_4 : List q9ND := q9nd_X12_tryAll_p1_0_4 :: q9tn_X12_tryAll_p1_0_5
def q9tn_X12_tryAll_p1_0_3 : List q9ND := q9nd_X12_tryAll_p1_0_3 :: q9tn_X12_tryAll_p1_0_4
def q9tn_X12_tryAll_p1_0_2 : List q9ND := q9nd_X12_tryAll_p1_0_2 :: q9tn_X12_tryAll_p1_0_3
def q9tn_X12_tryAll_p1_0_1 : List q9ND := q9nd_X12_tryAll_p1_0_1 :: q9tn_X12_tryAll_p1_0_2
def q9tn_X12_tryAll_p1_0_0 : List q9ND := q9nd_X12_tryAll_p1_0_0 :: q9tn_X12_tryAll_p1_0_1
set_option maxRecDepth 100000 in
set_option maxHeartbeats 4000000 in
theorem q9hn_X12_tryAll_p1_0_0 : q9chkE (q9step q9e_X12_tryAll_p1 [] [] q9mac_X12_tryAll_p1 (q9rtB q9i_X12_tryAll_p1) (q9iC q9i_X12_tryAll_p1)) q9cu_X12_tryAll_p1 (some q9cu_X12_tryAll_p1_0.2.2.2) q9tn_X12_tryAll_p1_0_1 17 q9nd_X12_tryAll_p1_0_0.1 q9nd_X12_tryAll_p1_0_0.2 = true := by decide +kernel
set_option maxRecDepth 100000 in
set_option maxHeartbeats 4000000 in
theorem q9hn_X12_tryAll_p1_0_1 : q9chkE (q9step q9e_X12_tryAll_p1 [] [] q9mac_X12_tryAll_p1 (q9rtB q9i_X12_tryAll_p1) (q9iC q9i_X12_tryAll_p1)) q9cu_X12_tryAll_p1 (some q9cu_X12_tryAll_p1_0.2.2.2) q9tn_X12_tryAll_p1_0_2 17 q9nd_X12_tryAll_p1_0_1.1 q9nd_X12_tryAll_p1_0_1.2 = true := by decide +kernel
set_option maxRecDepth 100000 in
set_option maxHeartbeats 4000000 in
theorem q9hn_X12_tryAll_p1_0_2 : q9chkE (q9step q9e_X12_tryAll_p1 [] [] q9mac_X12_tryAll_p1 (q9rtB q9i_X12_tryAll_p1) (q9iC q9i_X12_tryAll_p1)) q9cu_X12_tryAll_p1 (some q9cu_X12_tryAll_p1_0.2.2.2) q9tn_X12_tryAll_p1_0_3 17 q9nd_X12_tryAll_p1_0_2.1 q9nd_X12_tryAll_p1_0_2.2 = true := by decide +kernel
set_option maxRecDepth 100000 in
set_option maxHeartbeats 4000000 in
theorem q9hn_X12_tryAll_p1_0_3 : q9chkE (q9step q9e_X12_tryAll_p1 [] [] q9mac_X12_tryAll_p1 (q9rtB q9i_X12_tryAll_p1) (q9iC q9i_X12_tryAll_p1)) q9cu_X12_tryAll_p1 (some q9cu_X12_tryAll_p1_0.2.2.2) q9tn_X12_tryAll_p1_0_4 17 q9nd_X12_tryAll_p1_0_3.1 q9nd_X12_tryAll_p1_0_3.2 = true := by decide +kernel
set_option maxRecDepth 100000 in
set_option maxHeartbeats 4000000 in
theorem q9hn_X12_tryAll_p1_0_4 : q9chkE (q9step q9e_X12_tryAll_p1 [] [] q9mac_X12_tryAll_p1 (q9rtB q9i_X12_tryAll_p1) (q9iC q9i_X12_tryAll_p1)) q9cu_X12_tryAll_p1 (some q9cu_X12_tryAll_p1_0.2.2.2) q9tn_X12_tryAll_p1_0_5 17 q9nd_X12_tryAll_p1_0_4.1 q9nd_X12_tryAll_p1_0_4.2 = true := by decide +kernel
set_option maxRecDepth 100000 in
set_option maxHeartbeats 4000000 in
theorem q9hn_X12_tryAll_p1_0_5 : q9chkE (q9step q9e_X12_tryAll_p1 [] [] q9mac_X12_tryAll_p1 (q9rtB q9i_X12_tryAll_p1) (q9iC q9i_X12_tryAll_p1)) q9cu_X12_tryAll_p1 (some q9cu_X12_tryAll_p1_0.2.2.2) q9tn_X12_tryAll_p1_0_6 17 q9nd_X12_tryAll_p1_0_5.1 q9nd_X12_tryAll_p1_0_5.2 = true := by decide +kernel
set_option maxRecDepth 100000 in
set_option maxHeartbeats 4000000 in
theorem q9hn_X12_tryAll_p1_0_6 : q9chkE (q9step q9e_X12_tryAll_p1 [] [] q9mac_X12_tryAll_p1 (q9rtB q9i_X12_tryAll_p1) (q9iC q9i_X12_tryAll_p1)) q9cu_X12_tryAll_p1 (some q9cu_X12_tryAll_p1_0.2.2.2) q9tn_X12_tryAll_p1_0_7 17 q9nd_X12_tryAll_p1_0_6.1 q9nd_X12_tryAll_p1_0_6.2 = true := by decide +kernel
set_option maxRecDepth 100000 in
set_option maxHeartbeats 4000000 in
theorem q9hs_X12_tryAll_p1_0 : q9chkE (q9step q9e_X12_tryAll_p1 [] [] q9mac_X12_tryAll_p1 (q9rtB q9i_X12_tryAll_p1) (q9iC q9i_X12_tryAll_p1)) q9cu_X12_tryAll_p1 (some q9cu_X12_tryAll_p1_0.2.2.2) q9tn_X12_tryAll_p1_0_0 17 q9cu_X12_tryAll_p1_0.1 q9cu_X12_tryAll_p1_0.2.1 = true := by decide +kernel
set_option maxRecDepth 100000 in
set_option maxHeartbeats 4000000 in
theorem q9hr_X12_tryAll_p1_0 : q9chk (q9step q9e_X12_tryAll_p1 [] [] q9mac_X12_tryAll_p1 (q9rtB q9i_X12_tryAll_p1) (q9iC q9i_X12_tryAll_p1)) q9cu_X12_tryAll_p1 (some q9cu_X12_tryAll_p1_0.2.2.2) 136 q9cu_X12_tryAll_p1_0.1 q9cu_X12_tryAll_p1_0.2.1 = true := q9walkE (N := q9tn_X12_tryAll_p1_0_0) (f := 17) (n := 7) rfl (Nat.le_of_ble_eq_true rfl) ⟨q9hn_X12_tryAll_p1_0_0, q9hn_X12_tryAll_p1_0_1, q9hn_X12_tryAll_p1_0_2, q9hn_X12_tryAll_p1_0_3, q9hn_X12_tryAll_p1_0_4, q9hn_X12_tryAll_p1_0_5, q9hn_X12_tryAll_p1_0_6, trivial⟩ q9hs_X12_tryAll_p1_0
set_option maxRecDepth 100000 in
set_option maxHeartbeats 4000000 in
theorem q9hp_X12_tryAll_p1_0 : (q9chk (q9step q9e_X12_tryAll_p1 [] [] q9mac_X12_tryAll_p1 (q9rtB q9i_X12_tryAll_p1) (q9iC q9i_X12_tryAll_p1)) q9cu_X12_tryAll_p1 (some q9cu_X12_tryAll_p1_0.2.2.2) 136 q9cu_X12_tryAll_p1_0.1 q9cu_X12_tryAll_p1_0.2.1 && q9cu_X12_tryAll_p1_0.2.2.2.all (fun q => decide (q.1 = 0) || decide (q.2.1 < (q9tE q9cu_X12_tryAll_p1_0.2.1).length))) = true := by
  rw [q9hr_X12_tryAll_p1_0, Bool.true_and]
  decide +kernel
set_option maxRecDepth 100000 in
set_option maxHeartbeats 4000000 in
def q9nd_X12_tryAll_p1_1_0 : q9ND := (151, ([(0, 0, 0), (2, 12, 0), (0, 0, 0), (0, 0, 0), (0, 1, 1), (0, 0, 4), (2, 218, 0), (2, 214, 0), (0, 0, 11), (2, 219, 0)], [(0, (1, 0)), (6, (2, 0))], [(9, 0)], [(1, 0), (3, 0)], [(1, 75, (9, 0)), (1, 70, (7, 0)), (1, 74, (6, 0)), (1, 66, (4, 0))], [(6, (2, 0), (8, 0)), (7, (2, 0), (8, 0))], [(2, 4, (-1))], [(31, (3, 0), (0, 32), 5)], 0, 0))
set_option maxRecDepth 100000 in
set_option maxHeartbeats 4000000 in
def q9nd_X12_tryAll_p1_1_1 : q9ND := (175, ([(0, 0, 0), (2, 12, 0), (0, 0, 0), (0, 0, 0), (0, 1, 1), (0, 0, 4), (2, 218, 0), (2, 214, 0), (0, 0, 11), (2, 219, 0), (2, 215, 0), (0, 0, 2), (2, 220, 0), (2, 216, 0), (0, (-2147483648), 2147483647)], [(0, (1, 0)), (6, (2, 0))], [], [(1, 0), (3, 0)], [(1, 72, (13, 0)), (1, 76, (12, 0)), (1, 71, (10, 0)), (1, 75, (9, 0)), (1, 70, (7, 0)), (1, 74, (6, 0)), (1, 66, (4, 0))], [(12, (2, 0), (14, 0)), (13, (2, 0), (14, 0)), (9, (2, 0), (11, 0)), (10, (2, 0), (11, 0)), (6, (2, 0), (8, 0)), (7, (2, 0), (8, 0))], [(2, 4, (-1))], [(31, (3, 0), (0, 32), 5)], 0, 0))
def q9tn_X12_tryAll_p1_1_2 : List q9ND := []
def q9tn_X12_tryAll_p1_1_1 : List q9ND := q9nd_X12_tryAll_p1_1_1 :: q9tn_X12_tryAll_p1_1_2
def q9tn_X12_tryAll_p1_1_0 : List q9ND := q9nd_X12_tryAll_p1_1_0 :: q9tn_X12_tryAll_p1_1_1
set_option maxRecDepth 100000 in
set_option maxHeartbeats 4000000 in
theorem q9hn_X12_tryAll_p1_1_0 : q9chkE (q9step q9e_X12_tryAll_p1 [] [] q9mac_X12_tryAll_p1 (q9rtB q9i_X12_tryAll_p1) (q9iC q9i_X12_tryAll_p1)) q9cu_X12_tryAll_p1 (some q9cu_X12_tryAll_p1_1.2.2.2) q9tn_X12_tryAll_p1_1_1 17 q9nd_X12_tryAll_p1_1_0.1 q9nd_X12_tryAll_p1_1_0.2 = true := by decide +kernel
set_option maxRecDepth 100000 in
set_option maxHeartbeats 4000000 in
theorem q9hn_X12_tryAll_p1_1_1 : q9chkE (q9step q9e_X12_tryAll_p1 [] [] q9mac_X12_tryAll_p1 (q9rtB q9i_X12_tryAll_p1) (q9iC q9i_X12_tryAll_p1)) q9cu_X12_tryAll_p1 (some q9cu_X12_tryAll_p1_1.2.2.2) q9tn_X12_tryAll_p1_1_2 17 q9nd_X12_tryAll_p1_1_1.1 q9nd_X12_tryAll_p1_1_1.2 = true := by decide +kernel
set_option maxRecDepth 100000 in
set_option maxHeartbeats 4000000 in
theorem q9hs_X12_tryAll_p1_1 : q9chkE (q9step q9e_X12_tryAll_p1 [] [] q9mac_X12_tryAll_p1 (q9rtB q9i_X12_tryAll_p1) (q9iC q9i_X12_tryAll_p1)) q9cu_X12_tryAll_p1 (some q9cu_X12_tryAll_p1_1.2.2.2) q9tn_X12_tryAll_p1_1_0 17 q9cu_X12_tryAll_p1_1.1 q9cu_X12_tryAll_p1_1.2.1 = true := by decide +kernel
set_option maxRecDepth 100000 in
set_option maxHeartbeats 4000000 in
theorem q9hr_X12_tryAll_p1_1 : q9chk (q9step q9e_X12_tryAll_p1 [] [] q9mac_X12_tryAll_p1 (q9rtB q9i_X12_tryAll_p1) (q9iC q9i_X12_tryAll_p1)) q9cu_X12_tryAll_p1 (some q9cu_X12_tryAll_p1_1.2.2.2) 136 q9cu_X12_tryAll_p1_1.1 q9cu_X12_tryAll_p1_1.2.1 = true := q9walkE (N := q9tn_X12_tryAll_p1_1_0) (f := 17) (n := 2) rfl (Nat.le_of_ble_eq_true rfl) ⟨q9hn_X12_tryAll_p1_1_0, q9hn_X12_tryAll_p1_1_1, trivial⟩ q9hs_X12_tryAll_p1_1
set_option maxRecDepth 100000 in
set_option maxHeartbeats 4000000 in
theorem q9hp_X12_tryAll_p1_1 : (q9chk (q9step q9e_X12_tryAll_p1 [] [] q9mac_X12_tryAll_p1 (q9rtB q9i_X12_tryAll_p1) (q9iC q9i_X12_tryAll_p1)) q9cu_X12_tryAll_p1 (some q9cu_X12_tryAll_p1_1.2.2.2) 136 q9cu_X12_tryAll_p1_1.1 q9cu_X12_tryAll_p1_1.2.1 && q9cu_X12_tryAll_p1_1.2.2.2.all (fun q => decide (q.1 = 0) || decide (q.2.1 < (q9tE q9cu_X12_tryAll_p1_1.2.1).length))) = true := by
  rw [q9hr_X12_tryAll_p1_1, Bool.true_and]
  decide +kernel
set_option maxRecDepth 100000 in
set_option maxHeartbeats 4000000 in
theorem q9hr_X12_tryAll_p1_2 : q9chk (q9step q9e_X12_tryAll_p1 [] [] q9mac_X12_tryAll_p1 (q9rtB q9i_X12_tryAll_p1) (q9iC q9i_X12_tryAll_p1)) q9cu_X12_tryAll_p1 (some q9cu_X12_tryAll_p1_2.2.2.2) 136 q9cu_X12_tryAll_p1_2.1 q9cu_X12_tryAll_p1_2.2.1 = true := by decide +kernel
set_option maxRecDepth 100000 in
set_option maxHeartbeats 4000000 in
theorem q9hp_X12_tryAll_p1_2 : (q9chk (q9step q9e_X12_tryAll_p1 [] [] q9mac_X12_tryAll_p1 (q9rtB q9i_X12_tryAll_p1) (q9iC q9i_X12_tryAll_p1)) q9cu_X12_tryAll_p1 (some q9cu_X12_tryAll_p1_2.2.2.2) 136 q9cu_X12_tryAll_p1_2.1 q9cu_X12_tryAll_p1_2.2.1 && q9cu_X12_tryAll_p1_2.2.2.2.all (fun q => decide (q.1 = 0) || decide (q.2.1 < (q9tE q9cu_X12_tryAll_p1_2.2.1).length))) = true := by
  rw [q9hr_X12_tryAll_p1_2, Bool.true_and]
  decide +kernel
set_option maxRecDepth 100000 in
set_option maxHeartbeats 4000000 in
def q9nd_X12_tryAll_p1_3_0 : q9ND := (228, ([(0, 0, 0), (2, 12, 0), (0, (-2147483648), 2147483647), (0, 0, 11), (0, 0, 2), (0, 1, 12), (0, 1, 1), (0, 1, 4), (0, (-2147483648), 2147483647), (0, 1, 1)], [(0, (1, 0)), (1, (2, 0)), (2, (3, 0)), (3, (4, 0))], [], [(1, 0), (2, 0)], [(1, 66, (0, 2)), (1, 38, (5, 0))], [], [(3, 5, (-1))], [(5, (8, 0), (0, 1), 9), (9, (2, 0), (3, 0), 8), (31, (2, 0), (0, 32), 7)], 0, 0))
set_option maxRecDepth 100000 in
set_option maxHeartbeats 4000000 in
def q9nd_X12_tryAll_p1_3_1 : q9ND := (246, ([(0, 0, 0), (2, 12, 0), (0, (-2147483648), 2147483647), (0, 0, 11), (0, 0, 2), (0, 1, 12), (0, 1, 1), (0, 1, 4), (0, (-2147483648), 2147483647), (0, 1, 1), (0, (-2147483648), 2147483647), (0, (-2147483648), 2147483647), (0, (-2147483648), 2147483647), (0, 0, 3)], [(0, (1, 0)), (1, (2, 0)), (2, (3, 0)), (3, (4, 0))], [(0, 1), (1, 0)], [(1, 0), (2, 0)], [(1, 66, (0, 2)), (1, 38, (5, 0))], [], [(13, 7, (-1)), (7, 13, 1), (3, 5, (-1))], [(31, (12, 0), (0, 32), 13), (5, (2, 0), (11, 0), 12), (7, (10, 0), (0, (-1)), 11), (8, (0, 1), (3, 0), 10), (5, (8, 0), (0, 1), 9), (9, (2, 0), (3, 0), 8), (31, (2, 0), (0, 32), 7)], 0, 0))
def q9tn_X12_tryAll_p1_3_2 : List q9ND := []
def q9tn_X12_tryAll_p1_3_1 : List q9ND := q9nd_X12_tryAll_p1_3_1 :: q9tn_X12_tryAll_p1_3_2
def q9tn_X12_tryAll_p1_3_0 : List q9ND := q9nd_X12_tryAll_p1_3_0 :: q9tn_X12_tryAll_p1_3_1
set_option maxRecDepth 100000 in
set_option maxHeartbeats 4000000 in
theorem q9hn_X12_tryAll_p1_3_0 : q9chkE (q9step q9e_X12_tryAll_p1 [] [] q9mac_X12_tryAll_p1 (q9rtB q9i_X12_tryAll_p1) (q9iC q9i_X12_tryAll_p1)) q9cu_X12_tryAll_p1 (some q9cu_X12_tryAll_p1_3.2.2.2) q9tn_X12_tryAll_p1_3_1 17 q9nd_X12_tryAll_p1_3_0.1 q9nd_X12_tryAll_p1_3_0.2 = true := by decide +kernel
set_option maxRecDepth 100000 in
set_option maxHeartbeats 4000000 in
theorem q9hn_X12_tryAll_p1_3_1 : q9chkE (q9step q9e_X12_tryAll_p1 [] [] q9mac_X12_tryAll_p1 (q9rtB q9i_X12_tryAll_p1) (q9iC q9i_X12_tryAll_p1)) q9cu_X12_tryAll_p1 (some q9cu_X12_tryAll_p1_3.2.2.2) q9tn_X12_tryAll_p1_3_2 17 q9nd_X12_tryAll_p1_3_1.1 q9nd_X12_tryAll_p1_3_1.2 = true := by decide +kernel
set_option maxRecDepth 100000 in
set_option maxHeartbeats 4000000 in
theorem q9hs_X12_tryAll_p1_3 : q9chkE (q9step q9e_X12_tryAll_p1 [] [] q9mac_X12_tryAll_p1 (q9rtB q9i_X12_tryAll_p1) (q9iC q9i_X12_tryAll_p1)) q9cu_X12_tryAll_p1 (some q9cu_X12_tryAll_p1_3.2.2.2) q9tn_X12_tryAll_p1_3_0 17 q9cu_X12_tryAll_p1_3.1 q9cu_X12_tryAll_p1_3.2.1 = true := by decide +kernel
set_option maxRecDepth 100000 in
set_option maxHeartbeats 4000000 in
theorem q9hr_X12_tryAll_p1_3 : q9chk (q9step q9e_X12_tryAll_p1 [] [] q9mac_X12_tryAll_p1 (q9rtB q9i_X12_tryAll_p1) (q9iC q9i_X12_tryAll_p1)) q9cu_X12_tryAll_p1 (some q9cu_X12_tryAll_p1_3.2.2.2) 136 q9cu_X12_tryAll_p1_3.1 q9cu_X12_tryAll_p1_3.2.1 = true := q9walkE (N := q9tn_X12_tryAll_p1_3_0) (f := 17) (n := 2) rfl (Nat.le_of_ble_eq_true rfl) ⟨q9hn_X12_tryAll_p1_3_0, q9hn_X12_tryAll_p1_3_1, trivial⟩ q9hs_X12_tryAll_p1_3
set_option maxRecDepth 100000 in
set_option maxHeartbeats 4000000 in
theorem q9hp_X12_tryAll_p1_3 : (q9chk (q9step q9e_X12_tryAll_p1 [] [] q9mac_X12_tryAll_p1 (q9rtB q9i_X12_tryAll_p1) (q9iC q9i_X12_tryAll_p1)) q9cu_X12_tryAll_p1 (some q9cu_X12_tryAll_p1_3.2.2.2) 136 q9cu_X12_tryAll_p1_3.1 q9cu_X12_tryAll_p1_3.2.1 && q9cu_X12_tryAll_p1_3.2.2.2.all (fun q => decide (q.1 = 0) || decide (q.2.1 < (q9tE q9cu_X12_tryAll_p1_3.2.1).length))) = true := by
  rw [q9hr_X12_tryAll_p1_3, Bool.true_and]
  decide +kernel
set_option maxRecDepth 100000 in
set_option maxHeartbeats 4000000 in
theorem q9hq_X12_tryAll_p1 : ∀ k ∈ q9cu_X12_tryAll_p1, (q9chk (q9step q9e_X12_tryAll_p1 [] [] q9mac_X12_tryAll_p1 (q9rtB q9i_X12_tryAll_p1) (q9iC q9i_X12_tryAll_p1)) q9cu_X12_tryAll_p1 (some k.2.2.2) 136 k.1 k.2.1 && k.2.2.2.all (fun q => decide (q.1 = 0) || decide (q.2.1 < (q9tE k.2.1).length))) = true := fun k hk => by
  rcases List.mem_cons.mp (show k ∈ q9cu_X12_tryAll_p1_0 :: [q9cu_X12_tryAll_p1_1, q9cu_X12_tryAll_p1_2, q9cu_X12_tryAll_p1_3] from hk) with rfl | hk
  · exact q9hp_X12_tryAll_p1_0
  rcases List.mem_cons.mp hk with rfl | hk
  · exact q9hp_X12_tryAll_p1_1
  rcases List.mem_cons.mp hk with rfl | hk
  · exact q9hp_X12_tryAll_p1_2
  rcases List.mem_cons.mp hk with rfl | hk
  · exact q9hp_X12_tryAll_p1_3
  exact absurd hk List.not_mem_nil
set_option maxRecDepth 100000 in
set_option maxHeartbeats 4000000 in
theorem q9c_X12_tryAll_p1 (l : Launch) (hst : l.stackTraces = false) : q9CON l q9TBL q9ALLW q9i_X12_tryAll_p1 := q9con_ofX (XP := fun _ _ => True) (mac := q9mac_X12_tryAll_p1) (q := q9i_X12_tryAll_p1) (n := q9e_X12_tryAll_p1) (K := []) (K2 := []) (cuts := q9cu_X12_tryAll_p1) (f := 136) hst (by decide +kernel) (fun h => absurd rfl h) ⟨q9goodA, q9fs_X12_ok, q9ps_X12_ok, (List.forall_mem_cons.mpr ⟨⟨⟨q9c_X12_puts_p1 l hst, q9lk_X12_498_X12_puts_p1⟩, rfl⟩, (List.forall_mem_cons.mpr ⟨⟨⟨q9c_X12_tryAll_p2 l hst, q9lk_X12_501_X12_tryAll_p2⟩, rfl⟩, (fun _ h => absurd h List.not_mem_nil)⟩)⟩), (fun _ h => absurd h List.not_mem_nil), q9kas_ok, (fun _ h => absurd h List.not_mem_nil), (fun _ h => absurd h List.not_mem_nil), (fun _ h => absurd h List.not_mem_nil)⟩ rfl rfl rfl (q9macx_rf (XP := fun _ _ => True) (q9macx_st (XP := fun _ _ => True) (cc := cX12_tryAll) (q9macx_none (XP := fun _ _ => True))) rfl [(222, [q9wT [(5, 0, (0, 0)), (0, 1, (0, 0)), (0, 2, (0, 0))] (fun th => q9bitR (q9gA th 1) (q9gA th 2))]), (236, [q9wT [(5, 0, (0, 0)), (0, 1, (0, 0)), (0, 2, (0, 0)), (1, 0, (0, 0))] (fun th => q9clrR (q9gA th 1) (q9gA th 2) (q9gA th 3))])] (List.forall_mem_cons.mpr ⟨(List.forall_mem_cons.mpr ⟨(q9wT_ok fun _ => q9bitR_ok _ _), (fun _ h => absurd h List.not_mem_nil)⟩), (List.forall_mem_cons.mpr ⟨(List.forall_mem_cons.mpr ⟨(q9wT_ok fun _ => q9clrR_ok _ _ _), (fun _ h => absurd h List.not_mem_nil)⟩), (fun _ h => absurd h List.not_mem_nil)⟩)⟩)) (q9conB_of q9hp_X12_tryAll_p1 q9hq_X12_tryAll_p1 (by decide +kernel))
set_option maxRecDepth 100000 in
theorem q9lk_X12_498_X12_puts_p0 : q9LKs q9ALLW RX12 (498, 0, 12, q9i_X12_puts_p0) := ⟨q9wk_X12_puts, ⟨by decide, by decide, by decide +kernel⟩, q9goodW _ (List.forall_mem_cons.mpr ⟨(q9inT10 217 rfl rfl), q9wv_X12_puts⟩), _, rfl, rfl⟩
set_option maxRecDepth 100000 in
theorem q9lk_X12_501_X12_tryAll_p1 : q9LKs q9ALLW RX12 (501, 0, 12, q9i_X12_tryAll_p1) := ⟨q9wk_X12_tryAll, ⟨by decide, by decide, by decide +kernel⟩, q9goodW _ (List.forall_mem_cons.mpr ⟨(q9inT10 213 rfl rfl), q9wv_X12_tryAll⟩), _, rfl, rfl⟩
def q9i_X12_tryAll_p0 : q9INST := (yX12_tryAll, cX12_tryAll, 7, none, (8, 176, 0, 0), (([(0, 0, 0), (2, 12, 0), (0, (-2147483648), 2147483647), (0, 0, 0), (0, 0, 5)], [(0, (1, 0)), (1, (2, 0))], [], [(1, 0), (2, 0)], [(1, 66, (3, 0))], [], [], [(31, (2, 0), (0, 32), 4)], 0, 0), [(5, 0, (0, 0)), (0, 0, (0, 0)), (0, 1, (0, 0)), (3, 1, (66, 0)), (131, 2, (0, 32))]), [(([(0, 0, 0), (2, 12, 0), (0, (-2147483648), 2147483647)], [], [], [(1, 0), (2, 0)], [(1, 66, (0, 0))], [], [], [], 0, 0), [(5, 0, (0, 0)), (2, 0, (0, 0)), (2, 1, (0, 0))])], [], [834, 835, 836, 837, 100214, 100215, 100216, 100217, 100218, 100219, 100220, 100221], [])
def q9e_X12_tryAll_p0 : q9EN := (q9TBL, q9fs_X12, q9ps_X12, [834, 835, 836, 837, 100214, 100215, 100216, 100217, 100218, 100219, 100220, 100221], [(498, 0, 12, q9i_X12_puts_p0), (501, 0, 12, q9i_X12_tryAll_p1)], [], (8, 176, 0, 0), 7, [], [], [])
set_option maxRecDepth 100000 in
set_option maxHeartbeats 4000000 in
def q9cu_X12_tryAll_p0_0 : q9CUT := (12, ([(0, 0, 0), (2, 12, 0), (1, 0, 0), (1, 0, 0), (0, 0, 0), (0, 0, 0), (0, 0, 0), (0, 0, 5)], [(0, (1, 0)), (2, (2, 0)), (4, (3, 0)), (6, (4, 0))], [], [(1, 0), (5, 0)], [(1, 66, (6, 0))], [], [], [(31, (5, 0), (0, 32), 7)], 0, 0), [(5, 0, (0, 0)), (0, 0, (0, 0)), (0, 2, (0, 0)), (0, 4, (0, 0)), (0, 6, (0, 0)), (2, 1, (0, 0)), (3, 1, (66, 0)), (131, 5, (0, 32))], [(0, 0, 99988), (2, 4, 0), (0, 0, 99988), (0, 0, 0), (0, 0, 0)])
set_option maxRecDepth 100000 in
set_option maxHeartbeats 4000000 in
def q9cu_X12_tryAll_p0_1 : q9CUT := (124, ([(0, 0, 0), (2, 12, 0), (0, 0, 0), (0, 0, 0), (0, 0, 0), (0, 0, 5)], [(0, (1, 0)), (6, (2, 0))], [], [(1, 0), (3, 0)], [(1, 66, (4, 0))], [], [], [(31, (3, 0), (0, 32), 5)], 0, 0), [(5, 0, (0, 0)), (0, 0, (0, 0)), (0, 6, (0, 0)), (2, 1, (0, 0)), (3, 1, (66, 0)), (131, 3, (0, 32))], [(0, 0, 99876), (2, 2, 0), (0, 0, 99876), (0, 0, 0), (0, 0, 0)])
set_option maxRecDepth 100000 in
set_option maxHeartbeats 4000000 in
def q9cu_X12_tryAll_p0_2 : q9CUT := (198, ([(0, 0, 0), (2, 12, 0), (0, (-2147483648), 2147483647), (0, 0, 12), (0, 0, 0), (0, 0, 5)], [(0, (1, 0)), (1, (2, 0)), (2, (3, 0))], [], [(1, 0), (2, 0)], [(1, 66, (4, 0))], [], [], [(31, (2, 0), (0, 32), 5)], 0, 0), [(5, 0, (0, 0)), (0, 0, (0, 0)), (0, 1, (0, 0)), (0, 2, (0, 0)), (3, 1, (66, 0)), (131, 2, (0, 32))], [(0, 0, 99802), (2, 3, 12), (0, 0, 99802), (0, 0, 0), (0, 0, 0)])
set_option maxRecDepth 100000 in
set_option maxHeartbeats 4000000 in
def q9cu_X12_tryAll_p0_3 : q9CUT := (208, ([(0, 0, 0), (2, 12, 0), (0, (-2147483648), 2147483647), (0, 0, 11), (0, 0, 3), (0, 1, 12), (0, 0, 0), (0, 0, 5)], [(0, (1, 0)), (1, (2, 0)), (2, (3, 0)), (3, (4, 0))], [], [(1, 0), (2, 0)], [(1, 38, (5, 0)), (1, 66, (6, 0))], [], [(3, 5, (-1))], [(31, (2, 0), (0, 32), 7)], 0, 0), [(5, 0, (0, 0)), (0, 0, (0, 0)), (0, 1, (0, 0)), (0, 2, (0, 0)), (0, 3, (0, 0)), (3, 1, (38, 0)), (3, 1, (66, 0)), (131, 2, (0, 32))], [(0, 0, 99802), (2, 3, 12), (0, 0, 99792), (2, 4, 3), (0, 0, 99792)])
def q9cu_X12_tryAll_p0 : List q9CUT := [q9cu_X12_tryAll_p0_0, q9cu_X12_tryAll_p0_1, q9cu_X12_tryAll_p0_2, q9cu_X12_tryAll_p0_3]
set_option maxRecDepth 100000 in
set_option maxHeartbeats 4000000 in
def q9mac_X12_tryAll_p0 : Nat → q9ST → Option (List (Nat × q9ST)) := q9rfM (q9stM q9e_X12_tryAll_p0 [] [] (fun _ _ => none) cX12_tryAll) [(222, [q9wT [(5, 0, (0, 0)), (0, 1, (0, 0)), (0, 2, (0, 0))] (fun th => q9bitR (q9gA th 1) (q9gA th 2))]), (236, [q9wT [(5, 0, (0, 0)), (0, 1, (0, 0)), (0, 2, (0, 0)), (1, 0, (0, 0))] (fun th => q9clrR (q9gA th 1) (q9gA th 2) (q9gA th 3))])]
set_option maxRecDepth 100000 in
set_option maxHeartbeats 4000000 in
theorem q9hp_X12_tryAll_p0 : q9chk (q9step q9e_X12_tryAll_p0 [] [] q9mac_X12_tryAll_p0 (q9rtB q9i_X12_tryAll_p0) (q9iC q9i_X12_tryAll_p0)) q9cu_X12_tryAll_p0 none 85 0 (q9iPre q9i_X12_tryAll_p0) = true := by decide +kernel
set_option maxRecDepth 100000 in
set_option maxHeartbeats 4000000 in
def q9nd_X12_tryAll_p0_0_0 : q9ND := (84, ([(0, 0, 0), (2, 12, 0), (1, 0, 0), (1, 0, 0), (0, 0, 0), (0, 0, 0), (0, 0, 0), (0, 0, 5), (0, 1, 5), (1, 0, 9223372036854775807), (0, (-1), 0)], [(0, (1, 0)), (2, (2, 0)), (4, (3, 0)), (6, (4, 0))], [(1, 0), (2, 0)], [(1, 0), (5, 0)], [(1, 68, (9, 0)), (1, 67, (8, 0)), (1, 66, (6, 0))], [], [(2, 9, 0), (6, 4, 0)], [(24, (2, 0), (9, 0), 10), (31, (5, 0), (0, 32), 7)], 0, 0))
set_option maxRecDepth 100000 in
set_option maxHeartbeats 4000000 in
def q9nd_X12_tryAll_p0_0_1 : q9ND := (112, ([(0, 0, 0), (2, 12, 0), (1, 0, 0), (1, 0, 0), (0, 0, 0), (0, 0, 0), (0, 0, 0), (0, 0, 5), (0, 1, 5), (1, 0, 0), (0, 0, 0), (1, 1, 9223372036854775807), (0, (-1), (-1))], [(0, (1, 0)), (2, (2, 0)), (4, (3, 0)), (6, (4, 0))], [(2, 0), (1, 0)], [(1, 0), (5, 0)], [(1, 67, (6, 0)), (1, 69, (11, 0)), (1, 68, (9, 0)), (1, 66, (6, 0))], [], [(3, 11, (-1)), (9, 2, 0), (2, 9, 0), (2, 9, 0), (6, 4, 0)], [(24, (3, 0), (11, 0), 12), (24, (2, 0), (9, 0), 10), (31, (5, 0), (0, 32), 7)], 0, 0))
set_option maxRecDepth 100000 in
set_option maxHeartbeats 4000000 in
def q9nd_X12_tryAll_p0_0_2 : q9ND := (122, ([(0, 0, 0), (2, 12, 0), (1, 0, 0), (1, 0, 0), (0, 0, 0), (0, 0, 0), (0, 0, 0), (0, 0, 5), (0, 1, 5), (1, 0, 9223372036854775807), (0, (-1), (-1))], [(0, (1, 0)), (2, (2, 0)), (4, (3, 0)), (6, (4, 0))], [(0, 0)], [(1, 0), (5, 0)], [(1, 69, (3, 0)), (1, 68, (2, 0)), (1, 67, (6, 0)), (1, 66, (6, 0))], [], [(2, 9, 0), (6, 4, 0)], [(24, (2, 0), (9, 0), 10), (31, (5, 0), (0, 32), 7)], 0, 0))
set_option maxRecDepth 100000 in
set_option maxHeartbeats 4000000 in
def q9nd_X12_tryAll_p0_0_3 : q9ND := (115, ([(0, 0, 0), (2, 12, 0), (1, 0, 0), (1, 0, 0), (0, 0, 0), (0, 0, 0), (0, 0, 0), (0, 0, 5), (0, 0, 0)], [(0, (1, 0)), (2, (2, 0)), (4, (3, 0)), (6, (4, 0))], [], [(1, 0), (5, 0)], [(1, 68, (2, 0)), (1, 67, (6, 0)), (1, 66, (6, 0))], [], [(6, 4, 0)], [(31, (5, 0), (0, 32), 7)], 0, 0))
def q9tn_X12_tryAll_p0_0_4 : List q9ND := []
def q9tn_X12_tryAll_p0_0_3 : List q9ND := q9nd_X12_tryAll_p0_0_3 :: q9tn_X12_tryAll_p0_0_4
def q9tn_X12_tryAll_p0_0_2 : List q9ND := q9nd_X12_tryAll_p0_0_2 :: q9tn_X12_tryAll_p0_0_3
def q9tn_X12_tryAll_p0_0_1 : List q9ND := q9nd_X12_tryAll_p0_0_1 :: q9tn_X12_tryAll_p0_0_2
def q9tn_X12_tryAll_p0_0_0 : List q9ND := q9nd_X12_tryAll_p0_0_0 :: q9tn_X12_tryAll_p0_0_1
set_option maxRecDepth 100000 in
set_option maxHeartbeats 4000000 in
theorem q9hn_X12_tryAll_p0_0_0 : q9chkE (q9step q9e_X12_tryAll_p0 [] [] q9mac_X12_tryAll_p0 (q9rtB q9i_X12_tryAll_p0) (q9iC q9i_X12_tryAll_p0)) q9cu_X12_tryAll_p0 (some q9cu_X12_tryAll_p0_0.2.2.2) q9tn_X12_tryAll_p0_0_1 17 q9nd_X12_tryAll_p0_0_0.1 q9nd_X12_tryAll_p0_0_0.2 = true := by decide +kernel
set_option maxRecDepth 100000 in
set_option maxHeartbeats 4000000 in
theorem q9hn_X12_tryAll_p0_0_1 : q9chkE (q9step q9e_X12_tryAll_p0 [] [] q9mac_X12_tryAll_p0 (q9rtB q9i_X12_tryAll_p0) (q9iC q9i_X12_tryAll_p0)) q9cu_X12_tryAll_p0 (some q9cu_X12_tryAll_p0_0.2.2.2) q9tn_X12_tryAll_p0_0_2 17 q9nd_X12_tryAll_p0_0_1.1 q9nd_X12_tryAll_p0_0_1.2 = true := by decide +kernel
set_option maxRecDepth 100000 in
set_option maxHeartbeats 4000000 in
theorem q9hn_X12_tryAll_p0_0_2 : q9chkE (q9step q9e_X12_tryAll_p0 [] [] q9mac_X12_tryAll_p0 (q9rtB q9i_X12_tryAll_p0) (q9iC q9i_X12_tryAll_p0)) q9cu_X12_tryAll_p0 (some q9cu_X12_tryAll_p0_0.2.2.2) q9tn_X12_tryAll_p0_0_3 17 q9nd_X12_tryAll_p0_0_2.1 q9nd_X12_tryAll_p0_0_2.2 = true := by decide +kernel
set_option maxRecDepth 100000 in
set_option maxHeartbeats 4000000 in
theorem q9hn_X12_tryAll_p0_0_3 : q9chkE (q9step q9e_X12_tryAll_p0 [] [] q9mac_X12_tryAll_p0 (q9rtB q9i_X12_tryAll_p0) (q9iC q9i_X12_tryAll_p0)) q9cu_X12_tryAll_p0 (some q9cu_X12_tryAll_p0_0.2.2.2) q9tn_X12_tryAll_p0_0_4 17 q9nd_X12_tryAll_p0_0_3.1 q9nd_X12_tryAll_p0_0_3.2 = true := by decide +kernel
set_option maxRecDepth 100000 in
set_option maxHeartbeats 4000000 in
theorem q9hs_X12_tryAll_p0_0 : q9chkE (q9step q9e_X12_tryAll_p0 [] [] q9mac_X12_tryAll_p0 (q9rtB q9i_X12_tryAll_p0) (q9iC q9i_X12_tryAll_p0)) q9cu_X12_tryAll_p0 (some q9cu_X12_tryAll_p0_0.2.2.2) q9tn_X12_tryAll_p0_0_0 17 q9cu_X12_tryAll_p0_0.1 q9cu_X12_tryAll_p0_0.2.1 = true := by decide +kernel
set_option maxRecDepth 100000 in
set_option maxHeartbeats 4000000 in
theorem q9hr_X12_tryAll_p0_0 : q9chk (q9step q9e_X12_tryAll_p0 [] [] q9mac_X12_tryAll_p0 (q9rtB q9i_X12_tryAll_p0) (q9iC q9i_X12_tryAll_p0)) q9cu_X12_tryAll_p0 (some q9cu_X12_tryAll_p0_0.2.2.2) 85 q9cu_X12_tryAll_p0_0.1 q9cu_X12_tryAll_p0_0.2.1 = true := q9walkE (N := q9tn_X12_tryAll_p0_0_0) (f := 17) (n := 4) rfl (Nat.le_of_ble_eq_true rfl) ⟨q9hn_X12_tryAll_p0_0_0, q9hn_X12_tryAll_p0_0_1, q9hn_X12_tryAll_p0_0_2, q9hn_X12_tryAll_p0_0_3, trivial⟩ q9hs_X12_tryAll_p0_0
set_option maxRecDepth 100000 in
set_option maxHeartbeats 4000000 in
theorem q9hp_X12_tryAll_p0_0 : (q9chk (q9step q9e_X12_tryAll_p0 [] [] q9mac_X12_tryAll_p0 (q9rtB q9i_X12_tryAll_p0) (q9iC q9i_X12_tryAll_p0)) q9cu_X12_tryAll_p0 (some q9cu_X12_tryAll_p0_0.2.2.2) 85 q9cu_X12_tryAll_p0_0.1 q9cu_X12_tryAll_p0_0.2.1 && q9cu_X12_tryAll_p0_0.2.2.2.all (fun q => decide (q.1 = 0) || decide (q.2.1 < (q9tE q9cu_X12_tryAll_p0_0.2.1).length))) = true := by
  rw [q9hr_X12_tryAll_p0_0, Bool.true_and]
  decide +kernel
set_option maxRecDepth 100000 in
set_option maxHeartbeats 4000000 in
theorem q9hr_X12_tryAll_p0_1 : q9chk (q9step q9e_X12_tryAll_p0 [] [] q9mac_X12_tryAll_p0 (q9rtB q9i_X12_tryAll_p0) (q9iC q9i_X12_tryAll_p0)) q9cu_X12_tryAll_p0 (some q9cu_X12_tryAll_p0_1.2.2.2) 85 q9cu_X12_tryAll_p0_1.1 q9cu_X12_tryAll_p0_1.2.1 = true := by decide +kernel
set_option maxRecDepth 100000 in
set_option maxHeartbeats 4000000 in
theorem q9hp_X12_tryAll_p0_1 : (q9chk (q9step q9e_X12_tryAll_p0 [] [] q9mac_X12_tryAll_p0 (q9rtB q9i_X12_tryAll_p0) (q9iC q9i_X12_tryAll_p0)) q9cu_X12_tryAll_p0 (some q9cu_X12_tryAll_p0_1.2.2.2) 85 q9cu_X12_tryAll_p0_1.1 q9cu_X12_tryAll_p0_1.2.1 && q9cu_X12_tryAll_p0_1.2.2.2.all (fun q => decide (q.1 = 0) || decide (q.2.1 < (q9tE q9cu_X12_tryAll_p0_1.2.1).length))) = true := by
  rw [q9hr_X12_tryAll_p0_1, Bool.true_and]
  decide +kernel
set_option maxRecDepth 100000 in
set_option maxHeartbeats 4000000 in
theorem q9hr_X12_tryAll_p0_2 : q9chk (q9step q9e_X12_tryAll_p0 [] [] q9mac_X12_tryAll_p0 (q9rtB q9i_X12_tryAll_p0) (q9iC q9i_X12_tryAll_p0)) q9cu_X12_tryAll_p0 (some q9cu_X12_tryAll_p0_2.2.2.2) 85 q9cu_X12_tryAll_p0_2.1 q9cu_X12_tryAll_p0_2.2.1 = true := by decide +kernel
set_option maxRecDepth 100000 in
set_option maxHeartbeats 4000000 in
theorem q9hp_X12_tryAll_p0_2 : (q9chk (q9step q9e_X12_tryAll_p0 [] [] q9mac_X12_tryAll_p0 (q9rtB q9i_X12_tryAll_p0) (q9iC q9i_X12_tryAll_p0)) q9cu_X12_tryAll_p0 (some q9cu_X12_tryAll_p0_2.2.2.2) 85 q9cu_X12_tryAll_p0_2.1 q9cu_X12_tryAll_p0_2.2.1 && q9cu_X12_tryAll_p0_2.2.2.2.all (fun q => decide (q.1 = 0) || decide (q.2.1 < (q9tE q9cu_X12_tryAll_p0_2.2.1).length))) = true := by
  rw [q9hr_X12_tryAll_p0_2, Bool.true_and]
  decide +kernel
set_option maxRecDepth 100000 in
set_option maxHeartbeats 4000000 in
def q9nd_X12_tryAll_p0_3_0 : q9ND := (228, ([(0, 0, 0), (2, 12, 0), (0, (-2147483648), 2147483647), (0, 0, 11), (0, 0, 2), (0, 1, 12), (0, 0, 0), (0, 1, 5), (0, (-2147483648), 2147483647), (0, 1, 1)], [(0, (1, 0)), (1, (2, 0)), (2, (3, 0)), (3, (4, 0))], [], [(1, 0), (2, 0)], [(1, 66, (0, 1)), (1, 38, (5, 0))], [], [(3, 5, (-1))], [(5, (8, 0), (0, 1), 9), (9, (2, 0), (3, 0), 8), (31, (2, 0), (0, 32), 7)], 0, 0))
set_option maxRecDepth 100000 in
set_option maxHeartbeats 4000000 in
def q9nd_X12_tryAll_p0_3_1 : q9ND := (246, ([(0, 0, 0), (2, 12, 0), (0, (-2147483648), 2147483647), (0, 0, 11), (0, 0, 2), (0, 1, 12), (0, 0, 0), (0, 1, 5), (0, (-2147483648), 2147483647), (0, 1, 1), (0, (-2147483648), 2147483647), (0, (-2147483648), 2147483647), (0, (-2147483648), 2147483647), (0, 0, 4)], [(0, (1, 0)), (1, (2, 0)), (2, (3, 0)), (3, (4, 0))], [(0, 0), (1, 0)], [(1, 0), (2, 0)], [(1, 66, (0, 1)), (1, 38, (5, 0))], [], [(13, 7, (-1)), (7, 13, 1), (3, 5, (-1))], [(31, (12, 0), (0, 32), 13), (5, (2, 0), (11, 0), 12), (7, (10, 0), (0, (-1)), 11), (8, (0, 1), (3, 0), 10), (5, (8, 0), (0, 1), 9), (9, (2, 0), (3, 0), 8), (31, (2, 0), (0, 32), 7)], 0, 0))
def q9tn_X12_tryAll_p0_3_2 : List q9ND := []
def q9tn_X12_tryAll_p0_3_1 : List q9ND := q9nd_X12_tryAll_p0_3_1 :: q9tn_X12_tryAll_p0_3_2
def q9tn_X12_tryAll_p0_3_0 : List q9ND := q9nd_X12_tryAll_p0_3_0 :: q9tn_X12_tryAll_p0_3_1
set_option maxRecDepth 100000 in
set_option maxHeartbeats 4000000 in
theorem q9hn_X12_tryAll_p0_3_0 : q9chkE (q9step q9e_X12_tryAll_p0 [] [] q9mac_X12_tryAll_p0 (q9rtB q9i_X12_tryAll_p0) (q9iC q9i_X12_tryAll_p0)) q9cu_X12_tryAll_p0 (some q9cu_X12_tryAll_p0_3.2.2.2) q9tn_X12_tryAll_p0_3_1 17 q9nd_X12_tryAll_p0_3_0.1 q9nd_X12_tryAll_p0_3_0.2 = true := by decide +kernel
set_option maxRecDepth 100000 in
set_option maxHeartbeats 4000000 in
theorem q9hn_X12_tryAll_p0_3_1 : q9chkE (q9step q9e_X12_tryAll_p0 [] [] q9mac_X12_tryAll_p0 (q9rtB q9i_X12_tryAll_p0) (q9iC q9i_X12_tryAll_p0)) q9cu_X12_tryAll_p0 (some q9cu_X12_tryAll_p0_3.2.2.2) q9tn_X12_tryAll_p0_3_2 17 q9nd_X12_tryAll_p0_3_1.1 q9nd_X12_tryAll_p0_3_1.2 = true := by decide +kernel
set_option maxRecDepth 100000 in
set_option maxHeartbeats 4000000 in
theorem q9hs_X12_tryAll_p0_3 : q9chkE (q9step q9e_X12_tryAll_p0 [] [] q9mac_X12_tryAll_p0 (q9rtB q9i_X12_tryAll_p0) (q9iC q9i_X12_tryAll_p0)) q9cu_X12_tryAll_p0 (some q9cu_X12_tryAll_p0_3.2.2.2) q9tn_X12_tryAll_p0_3_0 17 q9cu_X12_tryAll_p0_3.1 q9cu_X12_tryAll_p0_3.2.1 = true := by decide +kernel
set_option maxRecDepth 100000 in
set_option maxHeartbeats 4000000 in
theorem q9hr_X12_tryAll_p0_3 : q9chk (q9step q9e_X12_tryAll_p0 [] [] q9mac_X12_tryAll_p0 (q9rtB q9i_X12_tryAll_p0) (q9iC q9i_X12_tryAll_p0)) q9cu_X12_tryAll_p0 (some q9cu_X12_tryAll_p0_3.2.2.2) 85 q9cu_X12_tryAll_p0_3.1 q9cu_X12_tryAll_p0_3.2.1 = true := q9walkE (N := q9tn_X12_tryAll_p0_3_0) (f := 17) (n := 2) rfl (Nat.le_of_ble_eq_true rfl) ⟨q9hn_X12_tryAll_p0_3_0, q9hn_X12_tryAll_p0_3_1, trivial⟩ q9hs_X12_tryAll_p0_3
set_option maxRecDepth 100000 in
set_option maxHeartbeats 4000000 in
theorem q9hp_X12_tryAll_p0_3 : (q9chk (q9step q9e_X12_tryAll_p0 [] [] q9mac_X12_tryAll_p0 (q9rtB q9i_X12_tryAll_p0) (q9iC q9i_X12_tryAll_p0)) q9cu_X12_tryAll_p0 (some q9cu_X12_tryAll_p0_3.2.2.2) 85 q9cu_X12_tryAll_p0_3.1 q9cu_X12_tryAll_p0_3.2.1 && q9cu_X12_tryAll_p0_3.2.2.2.all (fun q => decide (q.1 = 0) || decide (q.2.1 < (q9tE q9cu_X12_tryAll_p0_3.2.1).length))) = true := by
  rw [q9hr_X12_tryAll_p0_3, Bool.true_and]
  decide +kernel
set_option maxRecDepth 100000 in
set_option maxHeartbeats 4000000 in
theorem q9hq_X12_tryAll_p0 : ∀ k ∈ q9cu_X12_tryAll_p0, (q9chk (q9step q9e_X12_tryAll_p0 [] [] q9mac_X12_tryAll_p0 (q9rtB q9i_X12_tryAll_p0) (q9iC q9i_X12_tryAll_p0)) q9cu_X12_tryAll_p0 (some k.2.2.2) 85 k.1 k.2.1 && k.2.2.2.all (fun q => decide (q.1 = 0) || decide (q.2.1 < (q9tE k.2.1).length))) = true := fun k hk => by
  rcases List.mem_cons.mp (show k ∈ q9cu_X12_tryAll_p0_0 :: [q9cu_X12_tryAll_p0_1, q9cu_X12_tryAll_p0_2, q9cu_X12_tryAll_p0_3] from hk) with rfl | hk
  · exact q9hp_X12_tryAll_p0_0
  rcases List.mem_cons.mp hk with rfl | hk
  · exact q9hp_X12_tryAll_p0_1
  rcases List.mem_cons.mp hk with rfl | hk
  · exact q9hp_X12_tryAll_p0_2
  rcases List.mem_cons.mp hk with rfl | hk
  · exact q9hp_X12_tryAll_p0_3
  exact absurd hk List.not_mem_nil
set_option maxRecDepth 100000 in
set_option maxHeartbeats 4000000 in
theorem q9c_X12_tryAll_p0 (l : Launch) (hst : l.stackTraces = false) : q9CON l q9TBL q9ALLW q9i_X12_tryAll_p0 := q9con_ofX (XP := fun _ _ => True) (mac := q9mac_X12_tryAll_p0) (q := q9i_X12_tryAll_p0) (n := q9e_X12_tryAll_p0) (K := []) (K2 := []) (cuts := q9cu_X12_tryAll_p0) (f := 85) hst (by decide +kernel) (fun h => absurd rfl h) ⟨q9goodA, q9fs_X12_ok, q9ps_X12_ok, (List.forall_mem_cons.mpr ⟨⟨⟨q9c_X12_puts_p0 l hst, q9lk_X12_498_X12_puts_p0⟩, rfl⟩, (List.forall_mem_cons.mpr ⟨⟨⟨q9c_X12_tryAll_p1 l hst, q9lk_X12_501_X12_tryAll_p1⟩, rfl⟩, (fun _ h => absurd h List.not_mem_nil)⟩)⟩), (fun _ h => absurd h List.not_mem_nil), q9kas_ok, (fun _ h => absurd h List.not_mem_nil), (fun _ h => absurd h List.not_mem_nil), (fun _ h => absurd h List.not_mem_nil)⟩ rfl rfl rfl (q9macx_rf (XP := fun _ _ => True) (q9macx_st (XP := fun _ _ => True) (cc := cX12_tryAll) (q9macx_none (XP := fun _ _ => True))) rfl [(222, [q9wT [(5, 0, (0, 0)), (0, 1, (0, 0)), (0, 2, (0, 0))] (fun th => q9bitR (q9gA th 1) (q9gA th 2))]), (236, [q9wT [(5, 0, (0, 0)), (0, 1, (0, 0)), (0, 2, (0, 0)), (1, 0, (0, 0))] (fun th => q9clrR (q9gA th 1) (q9gA th 2) (q9gA th 3))])] (List.forall_mem_cons.mpr ⟨(List.forall_mem_cons.mpr ⟨(q9wT_ok fun _ => q9bitR_ok _ _), (fun _ h => absurd h List.not_mem_nil)⟩), (List.forall_mem_cons.mpr ⟨(List.forall_mem_cons.mpr ⟨(q9wT_ok fun _ => q9clrR_ok _ _ _), (fun _ h => absurd h List.not_mem_nil)⟩), (fun _ h => absurd h List.not_mem_nil)⟩)⟩)) (q9conB_of q9hp_X12_tryAll_p0 q9hq_X12_tryAll_p0 (by decide +kernel))
set_option maxRecDepth 100000 in
theorem q9lk_X12_501_X12_tryAll_p0 : q9LKs q9ALLW RX12 (501, 0, 12, q9i_X12_tryAll_p0) := ⟨q9wk_X12_tryAll, ⟨by decide, by decide, by decide +kernel⟩, q9goodW _ (List.forall_mem_cons.mpr ⟨(q9inT10 213 rfl rfl), q9wv_X12_tryAll⟩), _, rfl, rfl⟩
def q9i_X12_best : q9INST := (yX12_best, cX12_best, 6, (some .int), (9, 202, 0, 0), (([(0, 0, 0), (2, 12, 0), (0, (-2147483648), 2147483647), (0, (-2147483648), 2147483647), (0, (-2147483648), 2147483647)], [(0, (1, 0)), (1, (2, 0)), (2, (3, 0)), (3, (4, 0))], [], [(1, 0), (2, 0), (3, 0), (4, 0)], [], [], [], [], 0, 0), [(5, 0, (0, 0)), (0, 0, (0, 0)), (0, 1, (0, 0)), (0, 2, (0, 0)), (0, 3, (0, 0))]), [(([(0, 0, 0), (2, 12, 0), (0, (-2147483648), 2147483647), (0, (-2147483648), 2147483647), (0, (-2147483648), 2147483647), (0, (-2147483648), 2147483647)], [], [(5, 0)], [(1, 0), (2, 0), (3, 0), (4, 0)], [], [], [], [], 0, 0), [(5, 0, (0, 0)), (2, 0, (0, 0)), (2, 1, (0, 0)), (2, 2, (0, 0)), (2, 3, (0, 0)), (1, 0, (0, 0))])], [], [768, 834, 835, 836, 837, 100214, 100215, 100216, 100217, 100218, 100219, 100220, 100221], [])
def q9e_X12_best : q9EN := (q9TBL, q9fs_X12, q9ps_X12, [768, 834, 835, 836, 837, 100214, 100215, 100216, 100217, 100218, 100219, 100220, 100221], [(271, 0, 12, q9i_X12_may), (501, 0, 12, q9i_X12_tryAll_p0)], [(267, 1, 0, q9i_X12_within)], (9, 202, 0, 0), 6, [], [], [])
set_option maxRecDepth 100000 in
set_option maxHeartbeats 4000000 in
def q9cu_X12_best_0 : q9CUT := (11, ([(0, 0, 0), (2, 12, 0), (0, (-2147483648), 2147483647), (0, (-2147483648), 2147483647), (0, (-2147483648), 2147483647), (0, 0, 0), (0, 0, 0)], [(0, (1, 0)), (1, (2, 0)), (2, (3, 0)), (3, (4, 0)), (4, (5, 0)), (5, (6, 0))], [], [(1, 0), (2, 0), (3, 0), (4, 0)], [], [], [], [], 0, 0), [(5, 0, (0, 0)), (0, 0, (0, 0)), (0, 1, (0, 0)), (0, 2, (0, 0)), (0, 3, (0, 0)), (0, 4, (0, 0)), (0, 5, (0, 0))], [(0, 0, 99989), (2, 6, 12), (0, 0, 99989)])
set_option maxRecDepth 100000 in
set_option maxHeartbeats 4000000 in
def q9cu_X12_best_1 : q9CUT := (11, ([(0, 0, 0), (2, 12, 0), (0, (-2147483648), 2147483647), (0, (-2147483648), 2147483647), (0, (-2147483648), 2147483647), (0, 0, 12), (0, 1, 12), (0, 1, 12)], [(0, (1, 0)), (1, (2, 0)), (2, (3, 0)), (3, (4, 0)), (4, (5, 0)), (5, (6, 0))], [], [(1, 0), (2, 0), (3, 0), (4, 0)], [(1, 38, (7, 0))], [], [(6, 7, 0)], [(31, (2, 0), (6, 0), 5)], 0, 0), [(5, 0, (0, 0)), (0, 0, (0, 0)), (0, 1, (0, 0)), (0, 2, (0, 0)), (0, 3, (0, 0)), (0, 4, (0, 0)), (0, 5, (0, 0)), (3, 1, (38, 0))], [(0, 0, 99989), (2, 6, 12), (0, 0, 99989)])
def q9cu_X12_best : List q9CUT := [q9cu_X12_best_0, q9cu_X12_best_1]
set_option maxRecDepth 100000 in
set_option maxHeartbeats 4000000 in
def q9mac_X12_best : Nat → q9ST → Option (List (Nat × q9ST)) := q9rfM (q9stM q9e_X12_best [] [] (fun _ _ => none) cX12_best) [(29, [q9wT [(5, 0, (0, 0)), (0, 1, (0, 0)), (0, 5, (0, 0)), (0, 4, (0, 0)), (1, 0, (0, 0))] (fun th => q9cntR (q9gA th 1) (q9gA th 2) (q9gA th 3) (q9gA th 4))]), (96, [q9wT [(5, 0, (0, 0)), (0, 1, (0, 0)), (0, 5, (0, 0))] (fun th => q9totR (q9gA th 1) (q9gA th 2))])]
set_option maxRecDepth 100000 in
set_option maxHeartbeats 4000000 in
theorem q9hp_X12_best : q9chk (q9step q9e_X12_best [] [] q9mac_X12_best (q9rtB q9i_X12_best) (q9iC q9i_X12_best)) q9cu_X12_best none 187 0 (q9iPre q9i_X12_best) = true := by decide +kernel
set_option maxRecDepth 100000 in
set_option maxHeartbeats 4000000 in
def q9nd_X12_best_0_0 : q9ND := (54, ([(0, 0, 0), (2, 12, 0), (0, 1, 2147483647), (0, (-2147483648), 2147483647), (0, (-2147483648), 2147483647), (0, 0, 0), (0, 0, 0), (0, 0, 0), (0, 0, 0)], [(0, (1, 0)), (1, (2, 0)), (2, (3, 0)), (3, (4, 0)), (4, (5, 0)), (5, (6, 0))], [(0, 1), (5, 0), (1, 0)], [(1, 0), (2, 0), (3, 0), (4, 0)], [(1, 38, (7, 0))], [], [(7, 6, 0)], [(9, (2, 0), (7, 0), 8)], 0, 0))
set_option maxRecDepth 100000 in
set_option maxHeartbeats 4000000 in
def q9nd_X12_best_0_1 : q9ND := (76, ([(0, 0, 0), (2, 12, 0), (0, 1, 2147483647), (0, (-2147483648), 2147483647), (0, (-2147483648), 2147483647), (0, 0, 0), (0, 0, 0), (0, 0, 0), (0, (-2147483648), 2147483647)], [(0, (1, 0)), (1, (2, 0)), (2, (3, 0)), (3, (4, 0)), (4, (5, 0)), (5, (6, 0))], [(0, 1), (0, 0), (1, 0)], [(1, 0), (2, 0), (3, 0), (4, 0)], [(1, 38, (7, 0))], [], [(7, 6, 0)], [(9, (2, 0), (7, 0), 8)], 0, 0))
def q9tn_X12_best_0_2 : List q9ND := []
def q9tn_X12_best_0_1 : List q9ND := q9nd_X12_best_0_1 :: q9tn_X12_best_0_2
def q9tn_X12_best_0_0 : List q9ND := q9nd_X12_best_0_0 :: q9tn_X12_best_0_1
set_option maxRecDepth 100000 in
set_option maxHeartbeats 4000000 in
theorem q9hn_X12_best_0_0 : q9chkE (q9step q9e_X12_best [] [] q9mac_X12_best (q9rtB q9i_X12_best) (q9iC q9i_X12_best)) q9cu_X12_best (some q9cu_X12_best_0.2.2.2) q9tn_X12_best_0_1 17 q9nd_X12_best_0_0.1 q9nd_X12_best_0_0.2 = true := by decide +kernel
set_option maxRecDepth 100000 in
set_option maxHeartbeats 4000000 in
theorem q9hn_X12_best_0_1 : q9chkE (q9step q9e_X12_best [] [] q9mac_X12_best (q9rtB q9i_X12_best) (q9iC q9i_X12_best)) q9cu_X12_best (some q9cu_X12_best_0.2.2.2) q9tn_X12_best_0_2 17 q9nd_X12_best_0_1.1 q9nd_X12_best_0_1.2 = true := by decide +kernel
set_option maxRecDepth 100000 in
set_option maxHeartbeats 4000000 in
theorem q9hs_X12_best_0 : q9chkE (q9step q9e_X12_best [] [] q9mac_X12_best (q9rtB q9i_X12_best) (q9iC q9i_X12_best)) q9cu_X12_best (some q9cu_X12_best_0.2.2.2) q9tn_X12_best_0_0 17 q9cu_X12_best_0.1 q9cu_X12_best_0.2.1 = true := by decide +kernel
set_option maxRecDepth 100000 in
set_option maxHeartbeats 4000000 in
theorem q9hr_X12_best_0 : q9chk (q9step q9e_X12_best [] [] q9mac_X12_best (q9rtB q9i_X12_best) (q9iC q9i_X12_best)) q9cu_X12_best (some q9cu_X12_best_0.2.2.2) 187 q9cu_X12_best_0.1 q9cu_X12_best_0.2.1 = true := q9walkE (N := q9tn_X12_best_0_0) (f := 17) (n := 2) rfl (Nat.le_of_ble_eq_true rfl) ⟨q9hn_X12_best_0_0, q9hn_X12_best_0_1, trivial⟩ q9hs_X12_best_0
set_option maxRecDepth 100000 in
set_option maxHeartbeats 4000000 in
theorem q9hp_X12_best_0 : (q9chk (q9step q9e_X12_best [] [] q9mac_X12_best (q9rtB q9i_X12_best) (q9iC q9i_X12_best)) q9cu_X12_best (some q9cu_X12_best_0.2.2.2) 187 q9cu_X12_best_0.1 q9cu_X12_best_0.2.1 && q9cu_X12_best_0.2.2.2.all (fun q => decide (q.1 = 0) || decide (q.2.1 < (q9tE q9cu_X12_best_0.2.1).length))) = true := by
  rw [q9hr_X12_best_0, Bool.true_and]
  decide +kernel
set_option maxRecDepth 100000 in
set_option maxHeartbeats 4000000 in
def q9nd_X12_best_1_0 : q9ND := (54, ([(0, 0, 0), (2, 12, 0), (0, 1, 2147483647), (0, (-2147483648), 2147483647), (0, (-2147483648), 2147483647), (0, 0, 12), (0, 1, 12), (0, 1, 12), (0, 0, 0)], [(0, (1, 0)), (1, (2, 0)), (2, (3, 0)), (3, (4, 0)), (4, (5, 0)), (5, (6, 0))], [(0, 1), (5, 0), (1, 0)], [(1, 0), (2, 0), (3, 0), (4, 0)], [(1, 38, (7, 0))], [], [(7, 6, 0), (6, 7, 0)], [(9, (2, 0), (7, 0), 8), (31, (2, 0), (6, 0), 5)], 0, 0))
set_option maxRecDepth 100000 in
set_option maxHeartbeats 4000000 in
def q9nd_X12_best_1_1 : q9ND := (85, ([(0, 0, 0), (2, 12, 0), (0, 1, 2147483647), (0, 0, 5), (0, (-2147483648), 2147483647), (0, 1, 5), (0, 1, 12), (0, 1, 12), (0, 0, 0)], [(0, (1, 0)), (1, (2, 0)), (2, (3, 0)), (3, (4, 0)), (4, (5, 0)), (5, (6, 0))], [(1, 0)], [(1, 0), (2, 0), (3, 0), (4, 0)], [(1, 38, (7, 0))], [], [(7, 6, 0), (6, 7, 0)], [(9, (2, 0), (7, 0), 8), (31, (2, 0), (6, 0), 5)], 0, 0))
set_option maxRecDepth 100000 in
set_option maxHeartbeats 4000000 in
def q9nd_X12_best_1_2 : q9ND := (109, ([(0, 0, 0), (2, 12, 0), (0, 1, 2147483647), (0, 4, 4), (0, (-2147483648), 2147483647), (0, 1, 5), (0, 1, 12), (0, 1, 12), (0, 0, 0), (1, (-9223372036854775808), 9223372036854775807), (0, (-2147483648), 2147483647)], [(0, (1, 0)), (1, (2, 0)), (2, (3, 0)), (3, (4, 0)), (4, (5, 0)), (5, (6, 0))], [(10, 0)], [(1, 0), (2, 0), (3, 0), (4, 0)], [(1, 68, (9, 0)), (1, 66, (0, 0)), (1, 38, (7, 0))], [], [(7, 6, 0), (6, 7, 0)], [(12, (9, 0), (9, 0), 10), (31, (2, 0), (0, 32), 5), (9, (2, 0), (7, 0), 8), (31, (2, 0), (6, 0), 5)], 0, 0))
set_option maxRecDepth 100000 in
set_option maxHeartbeats 4000000 in
def q9nd_X12_best_1_3 : q9ND := (121, ([(0, 0, 0), (2, 12, 0), (0, 1, 2147483647), (0, 0, 4), (0, (-2147483648), 2147483647), (0, 1, 5), (0, 1, 12), (0, 1, 12), (0, 0, 0)], [(0, (1, 0)), (1, (2, 0)), (2, (3, 0)), (3, (4, 0)), (4, (5, 0)), (5, (6, 0))], [], [(1, 0), (2, 0), (3, 0), (4, 0)], [(1, 66, (0, 0)), (1, 38, (7, 0))], [], [(7, 6, 0), (6, 7, 0)], [(31, (2, 0), (0, 32), 5), (9, (2, 0), (7, 0), 8), (31, (2, 0), (6, 0), 5)], 0, 0))
set_option maxRecDepth 100000 in
set_option maxHeartbeats 4000000 in
def q9nd_X12_best_1_4 : q9ND := (115, ([(0, 0, 0), (2, 12, 0), (0, 1, 2147483647), (0, 5, 5), (0, (-2147483648), 2147483647), (0, 1, 5), (0, 1, 12), (0, 1, 12), (0, 0, 0)], [(0, (1, 0)), (1, (2, 0)), (2, (3, 0)), (3, (4, 0)), (4, (5, 0)), (5, (6, 0))], [], [(1, 0), (2, 0), (3, 0), (4, 0)], [(1, 66, (0, 0)), (1, 38, (7, 0))], [], [(7, 6, 0), (6, 7, 0)], [(31, (2, 0), (0, 32), 5), (9, (2, 0), (7, 0), 8), (31, (2, 0), (6, 0), 5)], 0, 0))
set_option maxRecDepth 100000 in
set_option maxHeartbeats 4000000 in
def q9nd_X12_best_1_5 : q9ND := (147, ([(0, 0, 0), (2, 12, 0), (0, 1, 2147483647), (0, 0, 0), (0, 0, 4), (0, 1, 5), (0, 1, 12), (0, 1, 12), (0, 0, 0), (0, 1, 5), (2, 218, 0), (0, (-2147483648), 2147483647)], [(0, (1, 0)), (1, (2, 0)), (2, (3, 0)), (3, (4, 0)), (4, (5, 0)), (5, (6, 0))], [(11, 0)], [(1, 0), (2, 0), (3, 0), (4, 0)], [(1, 74, (10, 0)), (1, 67, (9, 0)), (1, 66, (0, 0)), (1, 38, (7, 0))], [(10, (4, 0), (11, 0))], [(4, 9, (-1)), (7, 6, 0), (6, 7, 0)], [(31, (2, 0), (0, 32), 5), (9, (2, 0), (7, 0), 8), (31, (2, 0), (6, 0), 5)], 0, 0))
set_option maxRecDepth 100000 in
set_option maxHeartbeats 4000000 in
def q9nd_X12_best_1_6 : q9ND := (156, ([(0, 0, 0), (2, 12, 0), (0, 1, 2147483647), (0, 1, 1), (0, 0, 4), (0, 1, 5), (0, 1, 12), (0, 1, 12), (0, 0, 0), (0, 1, 5)], [(0, (1, 0)), (1, (2, 0)), (2, (3, 0)), (3, (4, 0)), (4, (5, 0)), (5, (6, 0))], [(1, 0)], [(1, 0), (2, 0), (3, 0), (4, 0)], [(1, 67, (9, 0)), (1, 66, (0, 0)), (1, 38, (7, 0))], [], [(4, 9, (-1)), (7, 6, 0), (6, 7, 0)], [(31, (2, 0), (0, 32), 5), (9, (2, 0), (7, 0), 8), (31, (2, 0), (6, 0), 5)], 0, 0))
set_option maxRecDepth 100000 in
set_option maxHeartbeats 4000000 in
def q9nd_X12_best_1_7 : q9ND := (165, ([(0, 0, 0), (2, 12, 0), (0, 1, 2147483647), (0, 2, 4), (0, 0, 4), (0, 1, 5), (0, 1, 12), (0, 1, 12), (0, 0, 0), (0, 1, 5)], [(0, (1, 0)), (1, (2, 0)), (2, (3, 0)), (3, (4, 0)), (4, (5, 0)), (5, (6, 0))], [(3, 0)], [(1, 0), (2, 0), (3, 0), (4, 0)], [(1, 67, (9, 0)), (1, 66, (0, 0)), (1, 38, (7, 0))], [], [(4, 9, (-1)), (7, 6, 0), (6, 7, 0)], [(31, (2, 0), (0, 32), 5), (9, (2, 0), (7, 0), 8), (31, (2, 0), (6, 0), 5)], 0, 0))
set_option maxRecDepth 100000 in
set_option maxHeartbeats 4000000 in
def q9nd_X12_best_1_8 : q9ND := (83, ([(0, 0, 0), (2, 12, 0), (0, 1, 2147483647), (0, 0, 5), (0, (-2147483648), 2147483647), (0, 1, 5), (0, 1, 12), (0, 1, 12), (0, 0, 0)], [(0, (1, 0)), (1, (2, 0)), (2, (3, 0)), (3, (4, 0)), (4, (5, 0)), (5, (6, 0))], [(0, 0)], [(1, 0), (2, 0), (3, 0), (4, 0)], [(1, 38, (7, 0))], [], [(7, 6, 0), (6, 7, 0)], [(9, (2, 0), (7, 0), 8), (31, (2, 0), (6, 0), 5)], 0, 0))
set_option maxRecDepth 100000 in
set_option maxHeartbeats 4000000 in
def q9nd_X12_best_1_9 : q9ND := (76, ([(0, 0, 0), (2, 12, 0), (0, 1, 2147483647), (0, (-2147483648), 2147483647), (0, (-2147483648), 2147483647), (0, 0, 12), (0, 1, 12), (0, 1, 12), (0, (-2147483648), 2147483647)], [(0, (1, 0)), (1, (2, 0)), (2, (3, 0)), (3, (4, 0)), (4, (5, 0)), (5, (6, 0))], [(0, 1), (0, 0), (1, 0)], [(1, 0), (2, 0), (3, 0), (4, 0)], [(1, 38, (7, 0))], [], [(7, 6, 0), (6, 7, 0)], [(9, (2, 0), (7, 0), 8), (31, (2, 0), (6, 0), 5)], 0, 0))
def q9tn_X12_best_1_10 : List q9ND := []
def q9tn_X12_best_1_9 : List q9ND := q9nd_X12_best_1_9 :: q9tn_X12_best_1_10
def q9tn_X12_best_1_8 : List q9ND := q9nd_X12_best_1_8 :: q9tn_X12_best_1_9
def q9tn_X12_best_1_7 : List q9ND := q9nd_X12_best_1_7 :: q9tn_X12_best_1_8
def q9tn_X12_best_1_6 : List q9ND := q9nd_X12_best_1_6 :: q9tn_X12_best_1_7
def q9tn_X12_best_1_5 : List q9ND := q9nd_X12_best_1_5 :: q9tn_X12_best_1_6
def q9tn_X12_best_1_4 : List q9ND := q9nd_X12_best_1_4 :: q9tn_X12_best_1_5
def q9tn_X12_best_1_3 : List q9ND := q9nd_X12_best_1_3 :: q9tn_X12_best_1_4
def q9tn_X12_best_1_2 : List q9ND := q9nd_X12_best_1_2 :: q9tn_X12_best_1_3
def q9tn_X12_best_1_1 : List q9ND := q9nd_X12_best_1_1 :: q9tn_X12_best_1_2
def q9tn_X12_best_1_0 : List q9ND := q9nd_X12_best_1_0 :: q9tn_X12_best_1_1
set_option maxRecDepth 100000 in
set_option maxHeartbeats 4000000 in
theorem q9hn_X12_best_1_0 : q9chkE (q9step q9e_X12_best [] [] q9mac_X12_best (q9rtB q9i_X12_best) (q9iC q9i_X12_best)) q9cu_X12_best (some q9cu_X12_best_1.2.2.2) q9tn_X12_best_1_1 17 q9nd_X12_best_1_0.1 q9nd_X12_best_1_0.2 = true := by decide +kernel
set_option maxRecDepth 100000 in
set_option maxHeartbeats 4000000 in
theorem q9hn_X12_best_1_1 : q9chkE (q9step q9e_X12_best [] [] q9mac_X12_best (q9rtB q9i_X12_best) (q9iC q9i_X12_best)) q9cu_X12_best (some q9cu_X12_best_1.2.2.2) q9tn_X12_best_1_2 17 q9nd_X12_best_1_1.1 q9nd_X12_best_1_1.2 = true := by decide +kernel
set_option maxRecDepth 100000 in
set_option maxHeartbeats 4000000 in
theorem q9hn_X12_best_1_2 : q9chkE (q9step q9e_X12_best [] [] q9mac_X12_best (q9rtB q9i_X12_best) (q9iC q9i_X12_best)) q9cu_X12_best (some q9cu_X12_best_1.2.2.2) q9tn_X12_best_1_3 17 q9nd_X12_best_1_2.1 q9nd_X12_best_1_2.2 = true := by decide +kernel
set_option maxRecDepth 100000 in
set_option maxHeartbeats 4000000 in
theorem q9hn_X12_best_1_3 : q9chkE (q9step q9e_X12_best [] [] q9mac_X12_best (q9rtB q9i_X12_best) (q9iC q9i_X12_best)) q9cu_X12_best (some q9cu_X12_best_1.2.2.2) q9tn_X12_best_1_4 17 q9nd_X12_best_1_3.1 q9nd_X12_best_1_3.2 = true := by decide +kernel
set_option maxRecDepth 100000 in
set_option maxHeartbeats 4000000 in
theorem q9hn_X12_best_1_4 : q9chkE (q9step q9e_X12_best [] [] q9mac_X12_best (q9rtB q9i_X12_best) (q9iC q9i_X12_best)) q9cu_X12_best (some q9cu_X12_best_1.2.2.2) q9tn_X12_best_1_5 17 q9nd_X12_best_1_4.1 q9nd_X12_best_1_4.2 = true := by decide +kernel
set_option maxRecDepth 100000 in
set_option maxHeartbeats 4000000 in
theorem q9hn_X12_best_1_5 : q9chkE (q9step q9e_X12_best [] [] q9mac_X12_best (q9rtB q9i_X12_best) (q9iC q9i_X12_best)) q9cu_X12_best (some q9cu_X12_best_1.2.2.2) q9tn_X12_best_1_6 17 q9nd_X12_best_1_5.1 q9nd_X12_best_1_5.2 = true := by decide +kernel
set_option maxRecDepth 100000 in
set_option maxHeartbeats 4000000 in
theorem q9hn_X12_best_1_6 : q9chkE (q9step q9e_X12_best [] [] q9mac_X12_best (q9rtB q9i_X12_best) (q9iC q9i_X12_best)) q9cu_X12_best (some q9cu_X12_best_1.2.2.2) q9tn_X12_best_1_7 17 q9nd_X12_best_1_6.1 q9nd_X12_best_1_6.2 = true := by decide +kernel
set_option maxRecDepth 100000 in
set_option maxHeartbeats 4000000 in
theorem q9hn_X12_best_1_7 : q9chkE (q9step q9e_X12_best [] [] q9mac_X12_best (q9rtB q9i_X12_best) (q9iC q9i_X12_best)) q9cu_X12_best (some q9cu_X12_best_1.2.2.2) q9tn_X12_best_1_8 17 q9nd_X12_best_1_7.1 q9nd_X12_best_1_7.2 = true := by decide +kernel
set_option maxRecDepth 100000 in
set_option maxHeartbeats 4000000 in
theorem q9hn_X12_best_1_8 : q9chkE (q9step q9e_X12_best [] [] q9mac_X12_best (q9rtB q9i_X12_best) (q9iC q9i_X12_best)) q9cu_X12_best (some q9cu_X12_best_1.2.2.2) q9tn_X12_best_1_9 17 q9nd_X12_best_1_8.1 q9nd_X12_best_1_8.2 = true := by decide +kernel
set_option maxRecDepth 100000 in
set_option maxHeartbeats 4000000 in
theorem q9hn_X12_best_1_9 : q9chkE (q9step q9e_X12_best [] [] q9mac_X12_best (q9rtB q9i_X12_best) (q9iC q9i_X12_best)) q9cu_X12_best (some q9cu_X12_best_1.2.2.2) q9tn_X12_best_1_10 17 q9nd_X12_best_1_9.1 q9nd_X12_best_1_9.2 = true := by decide +kernel
set_option maxRecDepth 100000 in
set_option maxHeartbeats 4000000 in
theorem q9hs_X12_best_1 : q9chkE (q9step q9e_X12_best [] [] q9mac_X12_best (q9rtB q9i_X12_best) (q9iC q9i_X12_best)) q9cu_X12_best (some q9cu_X12_best_1.2.2.2) q9tn_X12_best_1_0 17 q9cu_X12_best_1.1 q9cu_X12_best_1.2.1 = true := by decide +kernel
set_option maxRecDepth 100000 in
set_option maxHeartbeats 4000000 in
theorem q9hr_X12_best_1 : q9chk (q9step q9e_X12_best [] [] q9mac_X12_best (q9rtB q9i_X12_best) (q9iC q9i_X12_best)) q9cu_X12_best (some q9cu_X12_best_1.2.2.2) 187 q9cu_X12_best_1.1 q9cu_X12_best_1.2.1 = true := q9walkE (N := q9tn_X12_best_1_0) (f := 17) (n := 10) rfl (Nat.le_of_ble_eq_true rfl) ⟨q9hn_X12_best_1_0, q9hn_X12_best_1_1, q9hn_X12_best_1_2, q9hn_X12_best_1_3, q9hn_X12_best_1_4, q9hn_X12_best_1_5, q9hn_X12_best_1_6, q9hn_X12_best_1_7, q9hn_X12_best_1_8, q9hn_X12_best_1_9, trivial⟩ q9hs_X12_best_1
set_option maxRecDepth 100000 in
set_option maxHeartbeats 4000000 in
theorem q9hp_X12_best_1 : (q9chk (q9step q9e_X12_best [] [] q9mac_X12_best (q9rtB q9i_X12_best) (q9iC q9i_X12_best)) q9cu_X12_best (some q9cu_X12_best_1.2.2.2) 187 q9cu_X12_best_1.1 q9cu_X12_best_1.2.1 && q9cu_X12_best_1.2.2.2.all (fun q => decide (q.1 = 0) || decide (q.2.1 < (q9tE q9cu_X12_best_1.2.1).length))) = true := by
  rw [q9hr_X12_best_1, Bool.true_and]
  decide +kernel
set_option maxRecDepth 100000 in
set_option maxHeartbeats 4000000 in
theorem q9hq_X12_best : ∀ k ∈ q9cu_X12_best, (q9chk (q9step q9e_X12_best [] [] q9mac_X12_best (q9rtB q9i_X12_best) (q9iC q9i_X12_best)) q9cu_X12_best (some k.2.2.2) 187 k.1 k.2.1 && k.2.2.2.all (fun q => decide (q.1 = 0) || decide (q.2.1 < (q9tE k.2.1).length))) = true := fun k hk => by
  rcases List.mem_cons.mp (show k ∈ q9cu_X12_best_0 :: [q9cu_X12_best_1] from hk) with rfl | hk
  · exact q9hp_X12_best_0
  rcases List.mem_cons.mp hk with rfl | hk
  · exact q9hp_X12_best_1
  exact absurd hk List.not_mem_nil
set_option maxRecDepth 100000 in
set_option maxHeartbeats 4000000 in
theorem q9c_X12_best (l : Launch) (hst : l.stackTraces = false) : q9CON l q9TBL q9ALLW q9i_X12_best := q9con_ofX (XP := fun _ _ => True) (mac := q9mac_X12_best) (q := q9i_X12_best) (n := q9e_X12_best) (K := []) (K2 := []) (cuts := q9cu_X12_best) (f := 187) hst (by decide +kernel) (fun h => absurd rfl h) ⟨q9goodA, q9fs_X12_ok, q9ps_X12_ok, (List.forall_mem_cons.mpr ⟨⟨⟨q9c_X12_may l hst, q9lk_X12_271_X12_may⟩, rfl⟩, (List.forall_mem_cons.mpr ⟨⟨⟨q9c_X12_tryAll_p0 l hst, q9lk_X12_501_X12_tryAll_p0⟩, rfl⟩, (fun _ h => absurd h List.not_mem_nil)⟩)⟩), (List.forall_mem_cons.mpr ⟨⟨⟨q9c_X12_within l hst, q9lk_X12_267_X12_within⟩, by decide⟩, (fun _ h => absurd h List.not_mem_nil)⟩), q9kas_ok, (fun _ h => absurd h List.not_mem_nil), (fun _ h => absurd h List.not_mem_nil), (fun _ h => absurd h List.not_mem_nil)⟩ rfl rfl rfl (q9macx_rf (XP := fun _ _ => True) (q9macx_st (XP := fun _ _ => True) (cc := cX12_best) (q9macx_none (XP := fun _ _ => True))) rfl [(29, [q9wT [(5, 0, (0, 0)), (0, 1, (0, 0)), (0, 5, (0, 0)), (0, 4, (0, 0)), (1, 0, (0, 0))] (fun th => q9cntR (q9gA th 1) (q9gA th 2) (q9gA th 3) (q9gA th 4))]), (96, [q9wT [(5, 0, (0, 0)), (0, 1, (0, 0)), (0, 5, (0, 0))] (fun th => q9totR (q9gA th 1) (q9gA th 2))])] (List.forall_mem_cons.mpr ⟨(List.forall_mem_cons.mpr ⟨(q9wT_ok fun _ => q9cntR_ok _ _ _ _), (fun _ h => absurd h List.not_mem_nil)⟩), (List.forall_mem_cons.mpr ⟨(List.forall_mem_cons.mpr ⟨(q9wT_ok fun _ => q9totR_ok _ _), (fun _ h => absurd h List.not_mem_nil)⟩), (fun _ h => absurd h List.not_mem_nil)⟩)⟩)) (q9conB_of q9hp_X12_best q9hq_X12_best (by decide +kernel))
