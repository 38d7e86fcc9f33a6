variable {O : ORC}
/-! q9one q9step, whatever the instruction; a walk from q9one place of joining to the next -/
/-- what a method's walk goes by: fields read, fields written, codes written, calls, room, slots of the frame -/
abbrev q9EN : Type := q9TB × List (Nat × Nat × Nat) × List (Nat × Nat × Nat) × List Nat × List q9CE × List q9CE × q9RN × Nat × List (Nat × Nat) × List (Nat × String × Nat) × List (String × Nat × Nat)
abbrev q9eB (n : q9EN) : q9TB := n.1
abbrev q9eF (n : q9EN) := n.2.1
abbrev q9eP (n : q9EN) := n.2.2.1
abbrev q9eW (n : q9EN) := n.2.2.2.1
abbrev q9eV (n : q9EN) := n.2.2.2.2.1
abbrev q9eS (n : q9EN) := n.2.2.2.2.2.1
abbrev q9eR (n : q9EN) := n.2.2.2.2.2.2.1
abbrev q9eN (n : q9EN) := n.2.2.2.2.2.2.2.1
abbrev q9eK (n : q9EN) := n.2.2.2.2.2.2.2.2.1
abbrev q9eT (n : q9EN) := n.2.2.2.2.2.2.2.2.2
noncomputable def q9isI_o (k : Nat) : Bool := k == 0
noncomputable def q9isI (k : Nat) : Bool := q9eq9 (k) (0)
theorem q9isI_oq : @q9isI = @q9isI_o := by
  delta q9isI q9isI_o
  simp only [q9ge9_eq, q9fi9_eq, q9an9_eq, q9al9_eq, q9flt9_eq, q9el9_eq, q9set9_eq, q9ln9_eq, q9gD9_eq, q9ap9_eq, q9eq9_N, q9eq9_I, q9eq9_A, q9eq9_E, q9eq9_OI, q9eq9_ON, q9eq9_OA, q9eq9_L, q9eq9_S, q9de9_N, q9de9_I, q9de9_A, q9le9_N, q9le9_I, q9lt9_N, q9lt9_I, q9de9_E, q9de9_OI, q9de9_ON, q9de9_OA, q9de9_L, q9nd9_eq, q9or9_eq, Bool.cond_decide]
noncomputable def q9isJ_o (k : Nat) : Bool := k == 1
noncomputable def q9isJ (k : Nat) : Bool := q9eq9 (k) (1)
theorem q9isJ_oq : @q9isJ = @q9isJ_o := by
  delta q9isJ q9isJ_o
  simp only [q9ge9_eq, q9fi9_eq, q9an9_eq, q9al9_eq, q9flt9_eq, q9el9_eq, q9set9_eq, q9ln9_eq, q9gD9_eq, q9ap9_eq, q9eq9_N, q9eq9_I, q9eq9_A, q9eq9_E, q9eq9_OI, q9eq9_ON, q9eq9_OA, q9eq9_L, q9eq9_S, q9de9_N, q9de9_I, q9de9_A, q9le9_N, q9le9_I, q9lt9_N, q9lt9_I, q9de9_E, q9de9_OI, q9de9_ON, q9de9_OA, q9de9_L, q9nd9_eq, q9or9_eq, Bool.cond_decide]
noncomputable def q9isA_o (k : Nat) : Bool := k == 2 || (k == 3 || (k == 4 || k == 5))
noncomputable def q9isA (k : Nat) : Bool := q9or9 (q9eq9 (k) (2)) ((q9or9 (q9eq9 (k) (3)) ((q9or9 (q9eq9 (k) (4)) (q9eq9 (k) (5))))))
theorem q9isA_oq : @q9isA = @q9isA_o := by
  delta q9isA q9isA_o
  simp only [q9ge9_eq, q9fi9_eq, q9an9_eq, q9al9_eq, q9flt9_eq, q9el9_eq, q9set9_eq, q9ln9_eq, q9gD9_eq, q9ap9_eq, q9eq9_N, q9eq9_I, q9eq9_A, q9eq9_E, q9eq9_OI, q9eq9_ON, q9eq9_OA, q9eq9_L, q9eq9_S, q9de9_N, q9de9_I, q9de9_A, q9le9_N, q9le9_I, q9lt9_N, q9lt9_I, q9de9_E, q9de9_OI, q9de9_ON, q9de9_OA, q9de9_L, q9nd9_eq, q9or9_eq, Bool.cond_decide]
noncomputable def q9ccode : Jvm.ClassFile.Instr → Option (Nat × Int × Bool)
  | .ifCond .eq o => some (0, o, false)
  | .ifCond .ne o => some (1, o, false)
  | .ifCond .lt o => some (2, o, false)
  | .ifCond .ge o => some (3, o, false)
  | .ifCond .gt o => some (4, o, false)
  | .ifCond .le o => some (5, o, false)
  | .if_icmp .eq o => some (0, o, true)
  | .if_icmp .ne o => some (1, o, true)
  | .if_icmp .lt o => some (2, o, true)
  | .if_icmp .ge o => some (3, o, true)
  | .if_icmp .gt o => some (4, o, true)
  | .if_icmp .le o => some (5, o, true)
  | _ => none
noncomputable def q9bcode : Jvm.ClassFile.Instr → Option Nat
  | .imul => some 2
  | .idiv => some 3
  | .irem => some 4
  | .iand => some 5
  | .ior => some 6
  | .ixor => some 7
  | .ishl => some 8
  | .ishr => some 9
  | .iushr => some 14
  | .ladd => some 20
  | .lsub => some 21
  | .lmul => some 22
  | .ldiv => some 23
  | .lcmp => some 24
  | .lxor => some 25
  | _ => none
noncomputable def q9ucode : Jvm.ClassFile.Instr → Option Nat
  | .ineg => some 10
  | .i2l => some 11
  | .l2i => some 12
  | .i2b => some 13
  | _ => none
noncomputable def q9one (E : List q9ET) (a : q9AV) : Bool := q9oneB E a
noncomputable def q9exDup (x : q9ST) (pc' : Nat) : Option (List (Nat × q9ST)) := match q9tS x with
  | a :: rest => if q9oneB (q9tE x) a then some [(pc', q9sS x (a :: a :: rest))] else none
  | _ => none
noncomputable def q9exDup2_o (x : q9ST) (pc' : Nat) : Option (List (Nat × q9ST)) := match q9tS x with
  | b :: a :: rest => if q9oneB (q9tE x) a && q9oneB (q9tE x) b then some [(pc', q9sS x (b :: a :: b :: a :: rest))] else none
  | _ => none
noncomputable def q9exDup2 (x : q9ST) (pc' : Nat) : Option (List (Nat × q9ST)) := match q9tS x with
  | b :: a :: rest => if q9nd9 (q9oneB (q9tE x) a) (q9oneB (q9tE x) b) then some [(pc', q9sS x (b :: a :: b :: a :: rest))] else none
  | _ => none
theorem q9exDup2_oq : @q9exDup2 = @q9exDup2_o := by
  delta q9exDup2 q9exDup2_o
  simp only [q9ge9_eq, q9fi9_eq, q9an9_eq, q9al9_eq, q9flt9_eq, q9el9_eq, q9set9_eq, q9ln9_eq, q9gD9_eq, q9ap9_eq, q9eq9_N, q9eq9_I, q9eq9_A, q9eq9_E, q9eq9_OI, q9eq9_ON, q9eq9_OA, q9eq9_L, q9eq9_S, q9de9_N, q9de9_I, q9de9_A, q9le9_N, q9le9_I, q9lt9_N, q9lt9_I, q9de9_E, q9de9_OI, q9de9_ON, q9de9_OA, q9de9_L, q9nd9_eq, q9or9_eq, Bool.cond_decide]
noncomputable def q9exPop (x : q9ST) (pc' : Nat) : Option (List (Nat × q9ST)) := match q9tS x with
  | a :: rest => if q9oneB (q9tE x) a then some [(pc', q9sS x rest)] else none
  | _ => none
noncomputable def q9exInc_o (x : q9ST) (i nL : Nat) (n : Int) (pc' : Nat) : Option (List (Nat × q9ST)) := match q9lk (q9tL x) i with
  | some a => (match q9addc x a n with
    | some b => if i < nL then some [(pc', q9sL x (q9stL x i b false))] else none
    | none => none)
  | none => none
noncomputable def q9exInc (x : q9ST) (i nL : Nat) (n : Int) (pc' : Nat) : Option (List (Nat × q9ST)) := match q9lk (q9tL x) i with
  | some a => (match q9addc x a n with
    | some b => bif q9lt9 (i) (nL) then some [(pc', q9sL x (q9stL x i b false))] else none
    | none => none)
  | none => none
theorem q9exInc_oq : @q9exInc = @q9exInc_o := by
  delta q9exInc q9exInc_o
  simp only [q9ge9_eq, q9fi9_eq, q9an9_eq, q9al9_eq, q9flt9_eq, q9el9_eq, q9set9_eq, q9ln9_eq, q9gD9_eq, q9ap9_eq, q9eq9_N, q9eq9_I, q9eq9_A, q9eq9_E, q9eq9_OI, q9eq9_ON, q9eq9_OA, q9eq9_L, q9eq9_S, q9de9_N, q9de9_I, q9de9_A, q9le9_N, q9le9_I, q9lt9_N, q9lt9_I, q9de9_E, q9de9_OI, q9de9_ON, q9de9_OA, q9de9_L, q9nd9_eq, q9or9_eq, Bool.cond_decide]
noncomputable def q9exLen_o (B : q9TB) (x : q9ST) (pc' : Nat) : Option (List (Nat × q9ST)) := match q9tS x with
  | a :: rest => (match q9kindOf B x a.1 with
    | some (_, k) => if k.2.2.1 then (if q9zeroB x && decide (k.2.1 < 2147483648) then some [(pc', q9sS x ((0, (k.2.1 : Int)) :: rest))] else none)
      else (match (q9tF x).find? (fun q => q.1 == a.1 && q.2.1 == 1000) with
        | some q => some [(pc', q9sS x (q.2.2 :: rest))]
        | none => if k.2.1 < 2147483648 then some [(pc', q9sS (q9sF (q9sE x (q9tE x ++ [(0, 0, (k.2.1 : Int))])) ((a.1, 1000, ((q9tE x).length, 0)) :: q9tF x)) (((q9tE x).length, 0) :: rest))] else none)
    | none => none)
  | _ => none
noncomputable def q9exLen (B : q9TB) (x : q9ST) (pc' : Nat) : Option (List (Nat × q9ST)) := match q9tS x with
  | a :: rest => (match q9kindOf B x a.1 with
    | some (_, k) => if k.2.2.1 then (if q9nd9 (q9zeroB x) ((q9lt9 (k.2.1) (2147483648))) then some [(pc', q9sS x ((0, (k.2.1 : Int)) :: rest))] else none)
      else (match q9fi9 (q9tF x) (fun q => q9nd9 (q9eq9 (q.1) (a.1)) (q9eq9 (q.2.1) (1000))) with
        | some q => some [(pc', q9sS x (q.2.2 :: rest))]
        | none => bif q9lt9 (k.2.1) (2147483648) then some [(pc', q9sS (q9sF (q9sE x ((q9ap9 (q9tE x) ([(0, 0, (k.2.1 : Int))])))) ((a.1, 1000, ((q9ln9 (q9tE x)), 0)) :: q9tF x)) (((q9ln9 (q9tE x)), 0) :: rest))] else none)
    | none => none)
  | _ => none
theorem q9exLen_oq : @q9exLen = @q9exLen_o := by
  delta q9exLen q9exLen_o
  simp only [q9ge9_eq, q9fi9_eq, q9an9_eq, q9al9_eq, q9flt9_eq, q9el9_eq, q9set9_eq, q9ln9_eq, q9gD9_eq, q9ap9_eq, q9eq9_N, q9eq9_I, q9eq9_A, q9eq9_E, q9eq9_OI, q9eq9_ON, q9eq9_OA, q9eq9_L, q9eq9_S, q9de9_N, q9de9_I, q9de9_A, q9le9_N, q9le9_I, q9lt9_N, q9lt9_I, q9de9_E, q9de9_OI, q9de9_ON, q9de9_OA, q9de9_L, q9nd9_eq, q9or9_eq, Bool.cond_decide]
noncomputable def q9exNull_o (x : q9ST) (pc' : Nat) : Option (List (Nat × q9ST)) := some [(pc', q9sS (q9sE x (q9tE x ++ [(4, 0, 0)])) (((q9tE x).length, 0) :: q9tS x))]
noncomputable def q9exNull (x : q9ST) (pc' : Nat) : Option (List (Nat × q9ST)) := some [(pc', q9sS (q9sE x ((q9ap9 (q9tE x) ([(4, 0, 0)])))) (((q9ln9 (q9tE x)), 0) :: q9tS x))]
theorem q9exNull_oq : @q9exNull = @q9exNull_o := by
  delta q9exNull q9exNull_o
  simp only [q9ge9_eq, q9fi9_eq, q9an9_eq, q9al9_eq, q9flt9_eq, q9el9_eq, q9set9_eq, q9ln9_eq, q9gD9_eq, q9ap9_eq, q9eq9_N, q9eq9_I, q9eq9_A, q9eq9_E, q9eq9_OI, q9eq9_ON, q9eq9_OA, q9eq9_L, q9eq9_S, q9de9_N, q9de9_I, q9de9_A, q9le9_N, q9le9_I, q9lt9_N, q9lt9_I, q9de9_E, q9de9_OI, q9de9_ON, q9de9_OA, q9de9_L, q9nd9_eq, q9or9_eq, Bool.cond_decide]
noncomputable def q9exLong_o (x : q9ST) (n : Int) (pc' : Nat) : Option (List (Nat × q9ST)) := some [(pc', q9sS (q9sE x (q9tE x ++ [(1, n, n)])) (((q9tE x).length, 0) :: q9tS x))]
noncomputable def q9exLong (x : q9ST) (n : Int) (pc' : Nat) : Option (List (Nat × q9ST)) := some [(pc', q9sS (q9sE x ((q9ap9 (q9tE x) ([(1, n, n)])))) (((q9ln9 (q9tE x)), 0) :: q9tS x))]
theorem q9exLong_oq : @q9exLong = @q9exLong_o := by
  delta q9exLong q9exLong_o
  simp only [q9ge9_eq, q9fi9_eq, q9an9_eq, q9al9_eq, q9flt9_eq, q9el9_eq, q9set9_eq, q9ln9_eq, q9gD9_eq, q9ap9_eq, q9eq9_N, q9eq9_I, q9eq9_A, q9eq9_E, q9eq9_OI, q9eq9_ON, q9eq9_OA, q9eq9_L, q9eq9_S, q9de9_N, q9de9_I, q9de9_A, q9le9_N, q9le9_I, q9lt9_N, q9lt9_I, q9de9_E, q9de9_OI, q9de9_ON, q9de9_OA, q9de9_L, q9nd9_eq, q9or9_eq, Bool.cond_decide]
noncomputable def q9tabL (x : q9ST) (a : q9AV) (pc : Nat) : List Int → Int → Option (List (Nat × q9ST))
  | [], _ => some []
  | o :: os, k => match q9tgt pc o, q9tabL x a pc os (k + 1) with
    | some t, some ss => some (q9opt t (q9rf2 x 0 a (0, k)) ++ ss)
    | _, _ => none
noncomputable def q9exTab_o (x : q9ST) (pc : Nat) (dflt lo hi : Int) (offs : List Int) : Option (List (Nat × q9ST)) := match q9tS x with
  | a :: rest => if q9isInt x a && (q9zeroB x && (decide (-2147483648 ≤ lo) && (decide (hi ≤ 2147483647) && (decide (lo + offs.length = hi + 1) && decide (lo ≤ hi))))) then
      (match q9tgt pc dflt, q9tabL (q9sS x rest) a pc offs lo with
      | some t, some ss => some (q9opt t (q9rf2 (q9sS x rest) 2 a (0, lo)) ++ (q9opt t (q9rf2 (q9sS x rest) 4 a (0, hi)) ++ ss))
      | _, _ => none) else none
  | _ => none
noncomputable def q9exTab (x : q9ST) (pc : Nat) (dflt lo hi : Int) (offs : List Int) : Option (List (Nat × q9ST)) := match q9tS x with
  | a :: rest => if q9nd9 (q9isInt x a) ((q9nd9 (q9zeroB x) ((q9nd9 ((q9le9 (-2147483648) (lo))) ((q9nd9 ((q9le9 (hi) (2147483647))) ((q9nd9 ((q9de9 (lo + (q9ln9 offs)) (hi + 1))) ((q9le9 (lo) (hi))))))))))) then
      (match q9tgt pc dflt, q9tabL (q9sS x rest) a pc offs lo with
      | some t, some ss => some ((q9ap9 (q9opt t (q9rf2 (q9sS x rest) 2 a (0, lo))) (((q9ap9 (q9opt t (q9rf2 (q9sS x rest) 4 a (0, hi))) (ss))))))
      | _, _ => none) else none
  | _ => none
theorem q9exTab_oq : @q9exTab = @q9exTab_o := by
  delta q9exTab q9exTab_o
  simp only [q9ge9_eq, q9fi9_eq, q9an9_eq, q9al9_eq, q9flt9_eq, q9el9_eq, q9set9_eq, q9ln9_eq, q9gD9_eq, q9ap9_eq, q9eq9_N, q9eq9_I, q9eq9_A, q9eq9_E, q9eq9_OI, q9eq9_ON, q9eq9_OA, q9eq9_L, q9eq9_S, q9de9_N, q9de9_I, q9de9_A, q9le9_N, q9le9_I, q9lt9_N, q9lt9_I, q9de9_E, q9de9_OI, q9de9_ON, q9de9_OA, q9de9_L, q9nd9_eq, q9or9_eq, Bool.cond_decide]
/-- int constants of the pool: (place, number) -/
noncomputable def q9exGS_o (K : List (Nat × Nat)) (x : q9ST) (j pc' : Nat) : Option (List (Nat × q9ST)) := match K.find? (fun q => q.1 == j) with
  | some q => if q.2 = 100 then some [(pc', q9sS (q9sE x (q9tE x ++ [(5, 0, 0)])) (((q9tE x).length, 0) :: q9tS x))] else none
  | none => none
noncomputable def q9exGS (K : List (Nat × Nat)) (x : q9ST) (j pc' : Nat) : Option (List (Nat × q9ST)) := match q9fi9 K (fun q => q9eq9 (q.1) (j)) with
  | some q => bif q9de9 (q.2) (100) then some [(pc', q9sS (q9sE x ((q9ap9 (q9tE x) ([(5, 0, 0)])))) (((q9ln9 (q9tE x)), 0) :: q9tS x))] else none
  | none => none
theorem q9exGS_oq : @q9exGS = @q9exGS_o := by
  delta q9exGS q9exGS_o
  simp only [q9ge9_eq, q9fi9_eq, q9an9_eq, q9al9_eq, q9flt9_eq, q9el9_eq, q9set9_eq, q9ln9_eq, q9gD9_eq, q9ap9_eq, q9eq9_N, q9eq9_I, q9eq9_A, q9eq9_E, q9eq9_OI, q9eq9_ON, q9eq9_OA, q9eq9_L, q9eq9_S, q9de9_N, q9de9_I, q9de9_A, q9le9_N, q9le9_I, q9lt9_N, q9lt9_I, q9de9_E, q9de9_OI, q9de9_ON, q9de9_OA, q9de9_L, q9nd9_eq, q9or9_eq, Bool.cond_decide]
noncomputable def q9stpI (n : q9EN) (K : List (Nat × Int)) (K2 : List (Nat × Int)) (rt : Nat → q9ST → Bool) (pc : Nat) (x : q9ST) (i : Jvm.ClassFile.Instr) (len : Nat) : Option (List (Nat × q9ST)) :=
    match q9ccode i with
      | some (k, o, q9two) => if len = 3 then (match q9tgt pc o with
          | some t => if q9two then q9br2 x k t (pc + 3) else q9br1 x k t (pc + 3)
          | none => none) else none
      | none => match q9bcode i with
        | some o => if len = 1 then q9bin x o (pc + 1) else none
        | none => match q9ucode i with
          | some o => if len = 1 then q9un x o (pc + 1) else none
          | none => match i, len with
            | .iconst k, 1 => if -2147483648 ≤ k ∧ k ≤ 2147483647 then q9cst x k (pc + 1) else none
            | .bipush k, 2 => if -128 ≤ k ∧ k ≤ 127 then q9cst x k (pc + 2) else none
            | .sipush k, 3 => if -32768 ≤ k ∧ k ≤ 32767 then q9cst x k (pc + 3) else none
            | .ldc j, 2 => (match K.find? (fun q => q.1 == j) with
              | some q => if -2147483648 ≤ q.2 ∧ q.2 ≤ 2147483647 then q9cst x q.2 (pc + 2) else none
              | none => none)
            | .ldc_w j, 3 => (match K.find? (fun q => q.1 == j) with
              | some q => if -2147483648 ≤ q.2 ∧ q.2 ≤ 2147483647 then q9cst x q.2 (pc + 3) else none
              | none => none)
            | .ldc2_w j, 3 => (match K2.find? (fun q => q.1 == j) with
              | some q => if -9223372036854775808 ≤ q.2 ∧ q.2 ≤ 9223372036854775807 then q9exLong x q.2 (pc + 3) else none
              | none => none)
            | .lconst k, 1 => q9exLong x (k : Nat) (pc + 1)
            | .aconst_null, 1 => q9exNull x (pc + 1)
            | .iload_n k, 1 => q9ld x (k : Nat) q9isI (pc + 1)
            | .iload k, 2 => q9ld x k q9isI (pc + 2)
            | .lload_n k, 1 => q9ld x (k : Nat) q9isJ (pc + 1)
            | .lload k, 2 => q9ld x k q9isJ (pc + 2)
            | .aload_n k, 1 => q9ld x (k : Nat) q9isA (pc + 1)
            | .aload k, 2 => q9ld x k q9isA (pc + 2)
            | .istore_n k, 1 => q9sto x (k : Nat) (q9eN n) q9isI false (pc + 1)
            | .istore k, 2 => q9sto x k (q9eN n) q9isI false (pc + 2)
            | .lstore_n k, 1 => q9sto x (k : Nat) (q9eN n) q9isJ true (pc + 1)
            | .lstore k, 2 => q9sto x k (q9eN n) q9isJ true (pc + 2)
            | .astore_n k, 1 => q9sto x (k : Nat) (q9eN n) q9isA false (pc + 1)
            | .astore k, 2 => q9sto x k (q9eN n) q9isA false (pc + 2)
            | .iinc k d, 3 => q9exInc x k (q9eN n) d (pc + 3)
            | .iadd, 1 => q9addx x (pc + 1)
            | .isub, 1 => q9subx x (pc + 1)
            | .dup, 1 => q9exDup x (pc + 1)
            | .dup2, 1 => q9exDup2 x (pc + 1)
            | .pop, 1 => q9exPop x (pc + 1)
            | .goto o, 3 => (match q9tgt pc o with
              | some t => some [(t, x)]
              | none => none)
            | .ifnull o, 3 => (match q9tgt pc o with
              | some t => q9brN x true t (pc + 3)
              | none => none)
            | .ifnonnull o, 3 => (match q9tgt pc o with
              | some t => q9brN x false t (pc + 3)
              | none => none)
            | .tableswitch d lo hi offs, _ => q9exTab x pc d lo hi offs.toList
            | .getfield j, 3 => q9exG (q9eB n) (q9eF n) x j (pc + 3)
            | .putfield j, 3 => q9exP (q9eB n) (q9eP n) (q9eW n) x j (pc + 3)
            | .getstatic j, 3 => q9exGS (q9eK n) x j (pc + 3)
            | .arraylength, 1 => q9exLen (q9eB n) x (pc + 1)
            | .iaload, 1 => q9exLd (q9eB n) x [0] (pc + 1)
            | .baload, 1 => q9exLd (q9eB n) x [1, 3] (pc + 1)
            | .laload, 1 => q9exLd (q9eB n) x [2] (pc + 1)
            | .aaload, 1 => q9exLd (q9eB n) x [4, 5, 6] (pc + 1)
            | .iastore, 1 => q9exSt (q9eB n) (q9eW n) x [0] (pc + 1)
            | .bastore, 1 => q9exSt (q9eB n) (q9eW n) x [1, 3] (pc + 1)
            | .lastore, 1 => q9exSt (q9eB n) (q9eW n) x [2] (pc + 1)
            | .aastore, 1 => q9exSt (q9eB n) (q9eW n) x [4, 5, 6] (pc + 1)
            | .invokevirtual j, 3 => q9exC (q9eT n) (q9eW n) (q9eR n) x pc (pc + 3) j (q9eV n)
            | .invokestatic j, 3 => (match (q9eK n).find? (fun q => q.1 == j) with
              | some q => if q.2 = 0 then q9exCopy (q9eB n) (q9eW n) (q9eR n) x (pc + 3) else q9exMath q.2 (q9eR n) x (pc + 3)
              | none => q9exC (q9eT n) (q9eW n) (q9eR n) x pc (pc + 3) j (q9eS n))
            | .ireturn, 1 => if rt 0 x then some [] else none
            | .areturn, 1 => if rt 1 x then some [] else none
            | .return_, 1 => if rt 2 x then some [] else none
            | .lreturn, 1 => if rt 3 x then some [] else none
            | _, _ => none
noncomputable def q9step0 (n : q9EN) (K : List (Nat × Int)) (K2 : List (Nat × Int)) (mac : Nat → q9ST → Option (List (Nat × q9ST))) (rt : Nat → q9ST → Bool) (cc : ByteArray) (pc : Nat) (x : q9ST) : Option (List (Nat × q9ST)) :=
  match mac pc x with
  | some ss => some ss
  | none => match decode cc pc with
    | .error _ => none
    | .ok (i, len) => q9stpI n K K2 rt pc x i len
abbrev q9CUT : Type := Nat × q9ST × List q9DF × List q9ME
/-- the states of joining at a place -/
noncomputable def q9cuF_o (cuts : List q9CUT) (p : Nat) : List q9CUT := cuts.filter (fun k => k.1 == p)
noncomputable def q9cuF (cuts : List q9CUT) (p : Nat) : List q9CUT := q9flt9 cuts (fun k => q9eq9 (k.1) (p))
theorem q9cuF_oq : @q9cuF = @q9cuF_o := by
  delta q9cuF q9cuF_o
  simp only [q9ge9_eq, q9fi9_eq, q9an9_eq, q9al9_eq, q9flt9_eq, q9el9_eq, q9set9_eq, q9ln9_eq, q9gD9_eq, q9ap9_eq, q9eq9_N, q9eq9_I, q9eq9_A, q9eq9_E, q9eq9_OI, q9eq9_ON, q9eq9_OA, q9eq9_L, q9eq9_S, q9de9_N, q9de9_I, q9de9_A, q9le9_N, q9le9_I, q9lt9_N, q9lt9_I, q9de9_E, q9de9_OI, q9de9_ON, q9de9_OA, q9de9_L, q9nd9_eq, q9or9_eq, Bool.cond_decide]
theorem q9cuF_mem {cuts : List q9CUT} {p : Nat} {k : q9CUT} (h : k ∈ q9cuF cuts p) : k ∈ cuts ∧ (k.1 == p) = true := by
  (rewrite [q9cuF_oq] at h; unfold q9cuF_o at h)
  exact List.mem_filter.mp h
noncomputable def q9chk (st : Nat → q9ST → Option (List (Nat × q9ST))) (cuts : List q9CUT) (o : Option (List q9ME)) : Nat → Nat → q9ST → Bool
  | 0, _, _ => false
  | f + 1, pc, x => q9wfQ x && (match st pc x with
    | none => false
    | some ss => ss.all (fun q => q9fcD f q.1 q.2 (fun p9 y => match q9cuF cuts p9 with
      | k0 :: ks => (k0 :: ks).any (fun k => match q9mkT y k.2.2.1 [] with
        | some th => q9fitsB y k.2.1 th && (match o with
          | none => true
          | some me0 => k.2.2.2.length == me0.length && (k.2.2.2.all (q9meIn (q9tE k.2.1)) && q9meLt y th me0 k.2.2.2))
        | none => false)
      | [] => q9chk st cuts o f p9 y)))
section CK
variable {p : Program} {l : Launch} {e : Env} {R : Room} {ko : Nat × Nat} {s : State} {m : MethodId} {args : Array Value} {below : List Frame} {meth : Method} {c : Code} {Q : State → Prop}
variable {nL : Nat} {g : List Value} {WP : q9GH → va_W → Heap → List Loc → Prop}
noncomputable def q9meS (E : List q9ET) (me : List q9ME) : Prop := ∀ q ∈ me, q.1 = 0 ∨ q.2.1 < E.length
theorem q9meN_agr {r r' : Nat → Value} {n : Nat} (ha : q9agr n r r') : ∀ me : List q9ME, (∀ q ∈ me, q.1 = 0 ∨ q.2.1 < n) → q9meN r' me = q9meN r me
  | [], _ => rfl
  | q :: qs, h => by
    have h1 := q9meN_agr ha qs fun z hz => h z (List.mem_cons_of_mem _ hz)
    have h2 : q9meV r' q = q9meV r q := by
      obtain ⟨o, k, d⟩ := q
      rcases h _ List.mem_cons_self with h0 | h0
      · have h0 : o = 0 := h0
        subst h0
        rfl
      · have h0 : k < n := h0
        unfold q9meV
        match o with
        | 0 => rfl
        | 1 => show q9iv r' k + d = q9iv r k + d; rw [ha.iv h0]
        | _ + 2 => show d - q9iv r' k = d - q9iv r k; rw [ha.iv h0]
    show (q9meV r' q).toNat * _ + q9meN r' qs = (q9meV r q).toNat * _ + q9meN r qs
    rw [h1, h2]
theorem q9chk_ok {st : Nat → q9ST → Option (List (Nat × q9ST))} {cuts : List q9CUT} {o : Option (List q9ME)} (hst : ∀ (pc : Nat) (x : q9ST) (ss : List (Nat × q9ST)) (r : Nat → Value), q9wfB x = true → st pc x = some ss → q9NX O p l e R ko s m args below meth c Q nL g WP ss x r → q9GO O p l e R ko s m args below meth c Q nL g WP pc x r)
    {N0 : Nat} (hcut : ∀ k ∈ cuts, ∀ r : Nat → Value, (o = none ∨ q9meN r k.2.2.2 < N0) → q9GO O p l e R ko s m args below meth c Q nL g WP k.1 k.2.1 r) :
    ∀ (f pc : Nat) (x : q9ST) (r : Nat → Value), q9chk st cuts o f pc x = true → (∀ me0, o = some me0 → q9meN r me0 = N0 ∧ ∀ q ∈ me0, q.1 = 0 ∨ q.2.1 < (q9tE x).length) → q9GO O p l e R ko s m args below meth c Q nL g WP pc x r
  | 0, _, _, _, h, _ => by cases h
  | f + 1, pc, x, r, h, hme => by
    unfold q9chk at h
    rw [Bool.and_eq_true] at h
    obtain ⟨hw, h⟩ := h
    have hw := q9wfQ_ok hw
    cases hs : st pc x with
    | none => rw [hs] at h; cases h
    | some ss =>
      rw [hs] at h
      dsimp only at h
      rw [List.all_eq_true] at h
      refine hst pc x ss r hw hs fun q hq r' ha hl => ?_
      have h9 := h q hq
      rw [q9fcD_eq] at h9
      cases hc : q9cuF cuts q.1 with
      | nil =>
        rw [hc] at h9
        exact q9chk_ok hst hcut f q.1 q.2 r' h9 fun me0 hm => by
          obtain ⟨h1, h2⟩ := hme me0 hm
          exact ⟨by rw [q9meN_agr ha me0 h2]; exact h1, fun z hz => (h2 z hz).imp id fun y => Nat.lt_of_lt_of_le y hl⟩
      | cons k0 ks =>
        rw [hc] at h9
        dsimp only at h9
        rw [List.any_eq_true] at h9
        obtain ⟨k, hk9, h9⟩ := h9
        rw [← hc] at hk9
        obtain ⟨k2, k1⟩ := q9cuF_mem hk9
        have k1 : k.1 = q.1 := by simpa using k1
        cases ht : q9mkT q.2 k.2.2.1 [] with
        | none => rw [ht] at h9; cases h9
        | some th =>
          rw [ht] at h9
          dsimp only at h9
          simp only [Bool.and_eq_true] at h9
          obtain ⟨hf, hm⟩ := h9
          intro G ws H locs ls stk hM hW
          obtain ⟨g1, g2, g3⟩ := q9fits_cut hM hf
          have kk := hcut k k2 (q9rh r' th) (by
            cases ho : o with
            | none => exact .inl rfl
            | some me0 =>
              right
              rw [ho] at hm
              simp only [Bool.and_eq_true, beq_iff_eq, List.all_eq_true] at hm
              obtain ⟨m1, m2, m3⟩ := hm
              obtain ⟨h1, h2⟩ := hme me0 ho
              rw [← h1, ← q9meN_agr ha me0 h2]
              exact q9meLt_ok hM me0 k.2.2.2 m1 (fun z hz => q9meIn_ok g1.2.2.2.1 (m2 z hz)) m3) G ws H locs ls stk g1 hW
          rw [← k1]
          exact W.widen (Nat.add_le_add_left g2 _) (Nat.add_le_add_left g3 _) kk
theorem q9cuts_ok {st : Nat → q9ST → Option (List (Nat × q9ST))} {cuts : List q9CUT} (hst : ∀ (pc : Nat) (x : q9ST) (ss : List (Nat × q9ST)) (r : Nat → Value), q9wfB x = true → st pc x = some ss → q9NX O p l e R ko s m args below meth c Q nL g WP ss x r → q9GO O p l e R ko s m args below meth c Q nL g WP pc x r)
    {f : Nat} (hch : cuts.all (fun k => q9chk st cuts (some k.2.2.2) f k.1 k.2.1 && k.2.2.2.all (fun q => decide (q.1 = 0) || decide (q.2.1 < (q9tE k.2.1).length))) = true) : ∀ (N : Nat) (k : q9CUT), k ∈ cuts → ∀ r : Nat → Value, q9meN r k.2.2.2 = N → q9GO O p l e R ko s m args below meth c Q nL g WP k.1 k.2.1 r := by
  intro N
  induction N using Nat.strongRecOn with
  | ind N ih =>
    intro k hk r hr
    have h := List.all_eq_true.mp hch k hk
    rw [Bool.and_eq_true, List.all_eq_true] at h
    refine q9chk_ok (N0 := N) hst (fun k' hk' r' hh => ?_) f k.1 k.2.1 r h.1 fun me0 hm => ?_
    · rcases hh with hh | hh
      · cases hh
      · exact ih _ hh k' hk' r' rfl
    · cases hm
      exact ⟨hr, fun q hq => by simpa using h.2 q hq⟩
theorem q9walk_ok {st : Nat → q9ST → Option (List (Nat × q9ST))} {cuts : List q9CUT} (hst : ∀ (pc : Nat) (x : q9ST) (ss : List (Nat × q9ST)) (r : Nat → Value), q9wfB x = true → st pc x = some ss → q9NX O p l e R ko s m args below meth c Q nL g WP ss x r → q9GO O p l e R ko s m args below meth c Q nL g WP pc x r)
    {f : Nat} (hch : cuts.all (fun k => q9chk st cuts (some k.2.2.2) f k.1 k.2.1 && k.2.2.2.all (fun q => decide (q.1 = 0) || decide (q.2.1 < (q9tE k.2.1).length))) = true) {pc : Nat} {x : q9ST} (h : q9chk st cuts none f pc x = true) (r : Nat → Value) : q9GO O p l e R ko s m args below meth c Q nL g WP pc x r :=
  q9chk_ok (N0 := 0) hst (fun k hk r' _ => q9cuts_ok hst hch _ k hk r' rfl) f pc x r h fun me0 hm => by cases hm
end CK
