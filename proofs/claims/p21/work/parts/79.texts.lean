variable {O : ORC}
/-! texts, in the checker: a ghost that is q9one of Script's texts -/
noncomputable def q9XPi (i : Nat) : q9ZZ → List Value → Prop := fun z g => g[1]? = some (.ref (z.2.1 i))
noncomputable def q9lrB_o (rn : q9RN) (x : q9ST) (rest : List q9AV) : Bool := decide (5 ≤ rn.1) && (decide (86 ≤ rn.2.1) && (decide (q9tN x ≤ rn.2.2.1) && (decide (q9tM x ≤ rn.2.2.2) && (decide (q9catS (q9tE x) rest ≤ 8) && q9zeroB x))))
noncomputable def q9lrB (rn : q9RN) (x : q9ST) (rest : List q9AV) : Bool := q9nd9 ((q9le9 (5) (rn.1))) ((q9nd9 ((q9le9 (86) (rn.2.1))) ((q9nd9 ((q9le9 (q9tN x) (rn.2.2.1))) ((q9nd9 ((q9le9 (q9tM x) (rn.2.2.2))) ((q9nd9 ((q9le9 (q9catS (q9tE x) rest) (8))) (q9zeroB x)))))))))
theorem q9lrB_oq : @q9lrB = @q9lrB_o := by
  delta q9lrB q9lrB_o
  simp only [q9ge9_eq, q9fi9_eq, q9an9_eq, q9al9_eq, q9flt9_eq, q9el9_eq, q9set9_eq, q9ln9_eq, q9gD9_eq, q9ap9_eq, q9eq9_N, q9eq9_I, q9eq9_A, q9eq9_E, q9eq9_OI, q9eq9_ON, q9eq9_OA, q9eq9_L, q9eq9_S, q9de9_N, q9de9_I, q9de9_A, q9le9_N, q9le9_I, q9lt9_N, q9lt9_I, q9de9_E, q9de9_OI, q9de9_ON, q9de9_OA, q9de9_L, q9nd9_eq, q9or9_eq, Bool.cond_decide]
/-- length and charAt of the text that the second ghost is -/
noncomputable def q9lenM_o (pl pk i : Nat) (n : q9EN) (pc : Nat) (x : q9ST) : Option (List (Nat × q9ST)) :=
  if pc = pl then (match q9tS x with
    | a :: rest => if (q9tG x)[1]? = some a ∧ q9lrB (q9eR n) x rest = true then some [(pc + 3, q9sS x ((0, (q9skL.getD i 0 : Nat)) :: rest))] else none
    | _ => none)
  else if pc = pk then (match q9tS x with
    | j :: a :: rest => (match q9num (q9tE x) j with
      | some (0, lo, hi) => if (q9tG x)[1]? = some a ∧ q9lrB (q9eR n) x rest = true ∧ 0 ≤ lo ∧ hi < (q9skL.getD i 0 : Nat) then some [(pc + 3, q9sS (q9sE x (q9tE x ++ [(0, 0, 127)])) (((q9tE x).length, 0) :: rest))] else none
      | _ => none)
    | _ => none)
  else none
noncomputable def q9lenM (pl pk i : Nat) (n : q9EN) (pc : Nat) (x : q9ST) : Option (List (Nat × q9ST)) :=
  bif q9de9 (pc) (pl) then (match q9tS x with
    | a :: rest => if (q9ge9 (q9tG x) (1)) = some a ∧ q9lrB (q9eR n) x rest = true then some [(pc + 3, q9sS x ((0, (q9skL.getD i 0 : Nat)) :: rest))] else none
    | _ => none)
  else bif q9de9 (pc) (pk) then (match q9tS x with
    | j :: a :: rest => (match q9num (q9tE x) j with
      | some (0, lo, hi) => if (q9ge9 (q9tG x) (1)) = some a ∧ q9lrB (q9eR n) x rest = true ∧ 0 ≤ lo ∧ hi < (q9skL.getD i 0 : Nat) then some [(pc + 3, q9sS (q9sE x ((q9ap9 (q9tE x) ([(0, 0, 127)])))) (((q9ln9 (q9tE x)), 0) :: rest))] else none
      | _ => none)
    | _ => none)
  else none
theorem q9lenM_oq : @q9lenM = @q9lenM_o := by
  delta q9lenM q9lenM_o
  simp only [q9ge9_eq, q9fi9_eq, q9an9_eq, q9al9_eq, q9flt9_eq, q9el9_eq, q9set9_eq, q9ln9_eq, q9gD9_eq, q9ap9_eq, q9eq9_N, q9eq9_I, q9eq9_A, q9eq9_E, q9eq9_OI, q9eq9_ON, q9eq9_OA, q9eq9_L, q9eq9_S, q9de9_N, q9de9_I, q9de9_A, q9le9_N, q9le9_I, q9lt9_N, q9lt9_I, q9de9_E, q9de9_OI, q9de9_ON, q9de9_OA, q9de9_L, q9nd9_eq, q9or9_eq, Bool.cond_decide]
theorem q9gh_is {nL : Nat} {g : List Value} {x : q9ST} {r : Nat → Value} {G : q9GH} {ws : va_W} {ls : Array Slot} {st : List Value} (hM : q9SM O nL g x r G ws ls st) {a : q9AV} (h : (q9tG x)[1]? = some a) {v : Value} (hv : g[1]? = some v) : q9ev r a = v := by
  have h1 := hM.2.2.1
  rw [h1, List.getElem?_map, h] at hv
  exact Option.some.inj hv
theorem q9macx_len {l : Launch} {own nm : String} {cc : ByteArray} {n : q9EN} {K K2 : List (Nat × Int)} {pl pk i kl kk : Nat} (hi : i < 19) (d1 : decode cc pl = .ok (.invokevirtual kl, 3)) (d2 : decode cc pk = .ok (.invokevirtual kk, 3)) (g1 : GoodIn q9ALLW (wsV own kl "java/lang/String" yJ0_length_8abf5 (.code yJ0_length_8abf5 cJ0_length_8abf5 1 (some .int) :: q9ALLW))) (g2 : GoodIn q9ALLW (wsV own kk "java/lang/String" yJ0_charAt_5068e (.code yJ0_charAt_5068e cJ0_charAt_5068e 2 (some .char) :: q9ALLW))) : q9MACX O (q9XPi i) l q9ALLW own nm cc n K K2 (q9lenM pl pk i n) := by
  intro p e R ko s m args below meth c Q D cT A H0 G0 ws0 z0 g hE hT hX hN pc x ss r hw hm hn
  obtain ⟨hx, hb, hml, hown, hts, hAll, hK, hG, hZ, hA, hF, hPp, hV, hS, hR, h6, h7, h8, h9, hH0, hZz, hzG⟩ := hE
  obtain ⟨e1, e2, e3⟩ := q9len_sk i hi
  have room : ∀ rest : List q9AV, q9lrB (q9eR n) x rest = true → 5 ≤ R.frames ∧ 86 ≤ R.locals ∧ ko.1 + q9tN x ≤ R.cells ∧ ko.2 + q9tM x ≤ R.slots ∧ q9catS (q9tE x) rest ≤ 8 ∧ q9zeroB x = true := by
    intro rest h
    (rewrite [q9lrB_oq] at h; unfold q9lrB_o at h)
    simp only [Bool.and_eq_true, decide_eq_true_eq] at h
    obtain ⟨r1, r2, r3, r4, r5, r6⟩ := h
    have q1 := hR.1
    have q2 := hR.2.1
    have q3 := hR.2.2.1
    have q4 := hR.2.2.2
    exact ⟨by omega, by omega, by omega, by omega, r5, r6⟩
  have back : ∀ (G : q9GH) (ws : va_W) (H : Heap) (locs : List Loc), q9WM D cT (q9eB n) A H0 G0 ws0 (q9eW n) G ws H locs → ∀ (H1 : Heap) (locs1 : List Loc), (∀ q : Nat, q < H.size → ¬ False → H1[q]? = H[q]?) → va_S A H0 H1 locs1 → q9WM D cT (q9eB n) A H0 G0 ws0 (q9eW n) G ws H1 locs1 := by
    intro G ws H locs hW H1 locs1 hk hS1
    obtain ⟨hP, hD, hSv, hTy, hXg, hKe⟩ := hW
    exact ⟨hP.kept fun k q hq => hk q.1 (vx_lt hP hq) (fun h => h), hD, hS1, hTy, hXg, hKe⟩
  have hZ0 : q9SD z0 A s s.heap := by rw [← hH0]; exact hZz
  (rewrite [q9lenM_oq] at hm; unfold q9lenM_o at hm)
  split at hm
  · rename_i hp
    subst hp
    split at hm
    · rename_i a rest hSt
      split at hm
      · rename_i hc
        obtain ⟨c1, c2⟩ := hc
        obtain ⟨r1, r2, r3, r4, r5, r6⟩ := room rest c2
        cases hm
        intro G ws H locs ls st hM hW
        have hSv : va_S A s.heap H locs := by rw [← hH0]; exact hW.2.2.1
        have ea := q9gh_is hM c1 hX
        have hst := hM.2.1
        rw [hSt, List.map_cons, ea] at hst
        have okr : ∀ a ∈ rest, q9okAV (q9tE x) a = true := fun a ha => q9wf_S hw a (by rw [hSt]; exact List.mem_cons_of_mem _ ha)
        have hcat : ((rest.map (q9ev r)).map fun v => v.category).sum ≤ 8 := Nat.le_trans (q9catS_ok hM.2.2.2.1 rest okr) r5
        rw [hst]
        refine va_calli (A0 := A) (A1 := fun _ => False) (va_runV (As := []) (rest := rest.map (q9ev r)) ⟨hx, hb, hml, hown, hts⟩ (q9s_length l z0 i hi) (cwV 0 hts g1 rfl rfl rfl (by decide +kernel) ⟨by show 2 + 1 ≤ _; omega, by show 8 + (1 + 11) + 21 ≤ _; omega⟩) ⟨q9sd_blind, vk_recv hZ0.2.1.1 hi hSv, fun U hU hW9 => ⟨rfl, q9sd_warm hZ0 hSv U hU hW9⟩⟩ rfl rfl hM.1.1 rfl (lv_room hcat) d1 ⟨r3, r4⟩) hSv (fun _ _ h => h.elim) (fun _ h => h.elim) (fun r9 _ t H1 locs1 ht hvm hr9 _ hz hk hS1 => ?_)
        subst hr9
        have kk9 := hn.one q9agr.rf (Nat.le_refl _) G ws H1 locs1 ls _ (hM.S ((0, (q9skL.getD i 0 : Nat)) :: rest)) (back G ws H locs hW H1 locs1 hk (by rw [hH0]; exact hS1))
        rw [List.map_cons, q9zero_ev hM.2.2.2.1 (q9zero_at r6)] at kk9
        exact kk9
      · cases hm
    · cases hm
  · split at hm
    · rename_i hp
      subst hp
      split at hm
      · rename_i j a rest hSt
        split at hm
        · rename_i lo hi9 hnum
          split at hm
          · rename_i hc
            obtain ⟨c1, c2, c3, c4⟩ := hc
            obtain ⟨r1, r2, r3, r4, r5, r6⟩ := room rest c2
            cases hm
            intro G ws H locs ls st hM hW
            have hSv : va_S A s.heap H locs := by rw [← hH0]; exact hW.2.2.1
            have ea := q9gh_is hM c1 hX
            have okj : q9okAV (q9tE x) j = true := q9wf_S hw j (by rw [hSt]; exact List.mem_cons_self)
            obtain ⟨u, eu, -, u1, u2⟩ := q9num_int hM.2.2.2.1 okj hnum
            have hst := hM.2.1
            rw [hSt, List.map_cons, List.map_cons, ea, eu] at hst
            have okr : ∀ a ∈ rest, q9okAV (q9tE x) a = true := fun a ha => q9wf_S hw a (by rw [hSt]; exact List.mem_cons_of_mem _ (List.mem_cons_of_mem _ ha))
            have hcat : ((rest.map (q9ev r)).map fun v => v.category).sum ≤ 8 := Nat.le_trans (q9catS_ok hM.2.2.2.1 rest okr) r5
            rw [hst]
            refine va_calli (A0 := A) (A1 := fun _ => False) (va_runV (As := [.int u]) (rest := rest.map (q9ev r)) ⟨hx, hb, hml, hown, hts⟩ (q9s_charAt l z0 i hi u (by omega) (by omega)) (cwV 1 hts g2 rfl rfl rfl (by decide +kernel) ⟨by show 4 + 1 ≤ _; omega, by show 8 + (2 + 11) + 65 ≤ _; omega⟩) ⟨q9sd_blind, vk_recv hZ0.2.1.1 hi hSv, fun U hU hW9 => ⟨rfl, q9sd_warm hZ0 hSv U hU hW9⟩⟩ rfl rfl hM.1.1 rfl (lv_room hcat) d2 ⟨r3, r4⟩) hSv (fun _ _ h => h.elim) (fun _ h => h.elim) (fun r9 _ t H1 locs1 ht hvm hr9 _ hz hk hS1 => ?_)
            have hj : u.toNatClampNeg < q9skL.getD i 0 := by
              have : u.toNatClampNeg = u.toInt.toNat := rfl
              omega
            have hty : q9tyV G (0, 0, 127) (.int r9) := ⟨r9, rfl, by rw [hr9]; exact (e3 _ hj).1, by rw [hr9]; exact (e3 _ hj).2.1⟩
            have ag : q9agr (q9tE x).length r (q9up r (q9tE x).length (.int r9)) := fun k hk => q9up_lt hk
            have h9 := hM.fresh hw hty
            have kk9 := hn.one ag (by show _ ≤ (q9tE x ++ [_]).length; rw [List.length_append]; omega) G ws H1 locs1 ls _ (h9.S (((q9tE x).length, 0) :: rest)) (back G ws H locs hW H1 locs1 hk (by rw [hH0]; exact hS1))
            rw [List.map_cons, q9ev_zero, q9up_at, ag.map okr] at kk9
            exact kk9
          · cases hm
        · cases hm
      · cases hm
    · cases hm
theorem q9ofI5 {u : Int32} : Int32.ofInt u.toInt = u := Int32.toInt_inj.mp (Int32.toInt_ofInt_of_le (by have := Int32.le_toInt u; omega) (by have := Int32.toInt_lt u; omega))
/-- .. charAt at a known place -/
noncomputable def q9lenM5_o (pl pk i : Nat) (n : q9EN) (pc : Nat) (x : q9ST) : Option (List (Nat × q9ST)) :=
  if pc = pl then (match q9tS x with
    | a :: rest => if (q9tG x)[1]? = some a ∧ q9lrB (q9eR n) x rest = true then some [(pc + 3, q9sS x ((0, (q9skL.getD i 0 : Nat)) :: rest))] else none
    | _ => none)
  else if pc = pk then (match q9tS x with
    | j :: a :: rest => (match q9num (q9tE x) j with
      | some (0, lo, hi) => if (q9tG x)[1]? = some a ∧ q9lrB (q9eR n) x rest = true ∧ 0 ≤ lo ∧ hi < (q9skL.getD i 0 : Nat) ∧ hi = lo then some [(pc + 3, q9sS x ((0, ((q9skB.getD i []).getD lo.toNat 0).toInt) :: rest))] else none
      | _ => none)
    | _ => none)
  else none
noncomputable def q9lenM5 (pl pk i : Nat) (n : q9EN) (pc : Nat) (x : q9ST) : Option (List (Nat × q9ST)) :=
  bif q9de9 (pc) (pl) then (match q9tS x with
    | a :: rest => if (q9ge9 (q9tG x) (1)) = some a ∧ q9lrB (q9eR n) x rest = true then some [(pc + 3, q9sS x ((0, (q9skL.getD i 0 : Nat)) :: rest))] else none
    | _ => none)
  else bif q9de9 (pc) (pk) then (match q9tS x with
    | j :: a :: rest => (match q9num (q9tE x) j with
      | some (0, lo, hi) => if (q9ge9 (q9tG x) (1)) = some a ∧ q9lrB (q9eR n) x rest = true ∧ 0 ≤ lo ∧ hi < (q9skL.getD i 0 : Nat) ∧ hi = lo then some [(pc + 3, q9sS x ((0, ((q9skB.getD i []).getD lo.toNat 0).toInt) :: rest))] else none
      | _ => none)
    | _ => none)
  else none
theorem q9lenM5_oq : @q9lenM5 = @q9lenM5_o := by
  delta q9lenM5 q9lenM5_o
  simp only [q9ge9_eq, q9fi9_eq, q9an9_eq, q9al9_eq, q9flt9_eq, q9el9_eq, q9set9_eq, q9ln9_eq, q9gD9_eq, q9ap9_eq, q9eq9_N, q9eq9_I, q9eq9_A, q9eq9_E, q9eq9_OI, q9eq9_ON, q9eq9_OA, q9eq9_L, q9eq9_S, q9de9_N, q9de9_I, q9de9_A, q9le9_N, q9le9_I, q9lt9_N, q9lt9_I, q9de9_E, q9de9_OI, q9de9_ON, q9de9_OA, q9de9_L, q9nd9_eq, q9or9_eq, Bool.cond_decide]
theorem q9macx_len5 {l : Launch} {own nm : String} {cc : ByteArray} {n : q9EN} {K K2 : List (Nat × Int)} {pl pk i kl kk : Nat} (hi : i < 19) (d1 : decode cc pl = .ok (.invokevirtual kl, 3)) (d2 : decode cc pk = .ok (.invokevirtual kk, 3)) (g1 : GoodIn q9ALLW (wsV own kl "java/lang/String" yJ0_length_8abf5 (.code yJ0_length_8abf5 cJ0_length_8abf5 1 (some .int) :: q9ALLW))) (g2 : GoodIn q9ALLW (wsV own kk "java/lang/String" yJ0_charAt_5068e (.code yJ0_charAt_5068e cJ0_charAt_5068e 2 (some .char) :: q9ALLW))) : q9MACX O (q9XPi i) l q9ALLW own nm cc n K K2 (q9lenM5 pl pk i n) := by
  intro p e R ko s m args below meth c Q D cT A H0 G0 ws0 z0 g hE hT hX hN pc x ss r hw hm hn
  obtain ⟨hx, hb, hml, hown, hts, hAll, hK, hG, hZ, hA, hF, hPp, hV, hS, hR, h6, h7, h8, h9, hH0, hZz, hzG⟩ := hE
  obtain ⟨e1, e2, e3⟩ := q9len_sk i hi
  have room : ∀ rest : List q9AV, q9lrB (q9eR n) x rest = true → 5 ≤ R.frames ∧ 86 ≤ R.locals ∧ ko.1 + q9tN x ≤ R.cells ∧ ko.2 + q9tM x ≤ R.slots ∧ q9catS (q9tE x) rest ≤ 8 ∧ q9zeroB x = true := by
    intro rest h
    (rewrite [q9lrB_oq] at h; unfold q9lrB_o at h)
    simp only [Bool.and_eq_true, decide_eq_true_eq] at h
    obtain ⟨r1, r2, r3, r4, r5, r6⟩ := h
    have q1 := hR.1
    have q2 := hR.2.1
    have q3 := hR.2.2.1
    have q4 := hR.2.2.2
    exact ⟨by omega, by omega, by omega, by omega, r5, r6⟩
  have back : ∀ (G : q9GH) (ws : va_W) (H : Heap) (locs : List Loc), q9WM D cT (q9eB n) A H0 G0 ws0 (q9eW n) G ws H locs → ∀ (H1 : Heap) (locs1 : List Loc), (∀ q : Nat, q < H.size → ¬ False → H1[q]? = H[q]?) → va_S A H0 H1 locs1 → q9WM D cT (q9eB n) A H0 G0 ws0 (q9eW n) G ws H1 locs1 := by
    intro G ws H locs hW H1 locs1 hk hS1
    obtain ⟨hP, hD, hSv, hTy, hXg, hKe⟩ := hW
    exact ⟨hP.kept fun k q hq => hk q.1 (vx_lt hP hq) (fun h => h), hD, hS1, hTy, hXg, hKe⟩
  have hZ0 : q9SD z0 A s s.heap := by rw [← hH0]; exact hZz
  (rewrite [q9lenM5_oq] at hm; unfold q9lenM5_o at hm)
  split at hm
  · rename_i hp
    subst hp
    split at hm
    · rename_i a rest hSt
      split at hm
      · rename_i hc
        obtain ⟨c1, c2⟩ := hc
        obtain ⟨r1, r2, r3, r4, r5, r6⟩ := room rest c2
        cases hm
        intro G ws H locs ls st hM hW
        have hSv : va_S A s.heap H locs := by rw [← hH0]; exact hW.2.2.1
        have ea := q9gh_is hM c1 hX
        have hst := hM.2.1
        rw [hSt, List.map_cons, ea] at hst
        have okr : ∀ a ∈ rest, q9okAV (q9tE x) a = true := fun a ha => q9wf_S hw a (by rw [hSt]; exact List.mem_cons_of_mem _ ha)
        have hcat : ((rest.map (q9ev r)).map fun v => v.category).sum ≤ 8 := Nat.le_trans (q9catS_ok hM.2.2.2.1 rest okr) r5
        rw [hst]
        refine va_calli (A0 := A) (A1 := fun _ => False) (va_runV (As := []) (rest := rest.map (q9ev r)) ⟨hx, hb, hml, hown, hts⟩ (q9s_length l z0 i hi) (cwV 0 hts g1 rfl rfl rfl (by decide +kernel) ⟨by show 2 + 1 ≤ _; omega, by show 8 + (1 + 11) + 21 ≤ _; omega⟩) ⟨q9sd_blind, vk_recv hZ0.2.1.1 hi hSv, fun U hU hW9 => ⟨rfl, q9sd_warm hZ0 hSv U hU hW9⟩⟩ rfl rfl hM.1.1 rfl (lv_room hcat) d1 ⟨r3, r4⟩) hSv (fun _ _ h => h.elim) (fun _ h => h.elim) (fun r9 _ t H1 locs1 ht hvm hr9 _ hz hk hS1 => ?_)
        subst hr9
        have kk9 := hn.one q9agr.rf (Nat.le_refl _) G ws H1 locs1 ls _ (hM.S ((0, (q9skL.getD i 0 : Nat)) :: rest)) (back G ws H locs hW H1 locs1 hk (by rw [hH0]; exact hS1))
        rw [List.map_cons, q9zero_ev hM.2.2.2.1 (q9zero_at r6)] at kk9
        exact kk9
      · cases hm
    · cases hm
  · split at hm
    · rename_i hp
      subst hp
      split at hm
      · rename_i j a rest hSt
        split at hm
        · rename_i lo hi9 hnum
          split at hm
          · rename_i hc
            obtain ⟨c1, c2, c3, c4, c5⟩ := hc
            obtain ⟨r1, r2, r3, r4, r5, r6⟩ := room rest c2
            cases hm
            intro G ws H locs ls st hM hW
            have hSv : va_S A s.heap H locs := by rw [← hH0]; exact hW.2.2.1
            have ea := q9gh_is hM c1 hX
            have okj : q9okAV (q9tE x) j = true := q9wf_S hw j (by rw [hSt]; exact List.mem_cons_self)
            obtain ⟨u, eu, -, u1, u2⟩ := q9num_int hM.2.2.2.1 okj hnum
            have hst := hM.2.1
            rw [hSt, List.map_cons, List.map_cons, ea, eu] at hst
            have okr : ∀ a ∈ rest, q9okAV (q9tE x) a = true := fun a ha => q9wf_S hw a (by rw [hSt]; exact List.mem_cons_of_mem _ (List.mem_cons_of_mem _ ha))
            have hcat : ((rest.map (q9ev r)).map fun v => v.category).sum ≤ 8 := Nat.le_trans (q9catS_ok hM.2.2.2.1 rest okr) r5
            rw [hst]
            refine va_calli (A0 := A) (A1 := fun _ => False) (va_runV (As := [.int u]) (rest := rest.map (q9ev r)) ⟨hx, hb, hml, hown, hts⟩ (q9s_charAt l z0 i hi u (by omega) (by omega)) (cwV 1 hts g2 rfl rfl rfl (by decide +kernel) ⟨by show 4 + 1 ≤ _; omega, by show 8 + (2 + 11) + 65 ≤ _; omega⟩) ⟨q9sd_blind, vk_recv hZ0.2.1.1 hi hSv, fun U hU hW9 => ⟨rfl, q9sd_warm hZ0 hSv U hU hW9⟩⟩ rfl rfl hM.1.1 rfl (lv_room hcat) d2 ⟨r3, r4⟩) hSv (fun _ _ h => h.elim) (fun _ h => h.elim) (fun r9 _ t H1 locs1 ht hvm hr9 _ hz hk hS1 => ?_)
            have hj : u.toNatClampNeg < q9skL.getD i 0 := by
              have : u.toNatClampNeg = u.toInt.toNat := rfl
              omega
            have hu : u.toNatClampNeg = lo.toNat := by
              have e9 : u.toNatClampNeg = u.toInt.toNat := rfl
              omega
            have kk9 := hn.one q9agr.rf (Nat.le_refl _) G ws H1 locs1 ls _ (hM.S ((0, ((q9skB.getD i []).getD lo.toNat 0).toInt) :: rest)) (back G ws H locs hW H1 locs1 hk (by rw [hH0]; exact hS1))
            rw [List.map_cons, q9zero_ev hM.2.2.2.1 (q9zero_at r6), q9ofI5, ← hu, ← hr9] at kk9
            exact kk9
          · cases hm
        · cases hm
      · cases hm
    · cases hm
/-- a contract whose second argument is a text, its ghost -/
noncomputable def q9txP (i : q9INST) : Prop := (q9tL (q9iPre i)).length = 2 ∧ ∃ k a, (q9tL (q9iPre i))[1]? = some (k, a) ∧ (q9tG (q9iPre i))[1]? = some a
theorem q9txP_xp {q : q9INST} (h : q9txP q) {th : List q9AV} {x : q9ST} {a w : q9AV} {rest : List q9AV} (hS : q9tS x = a :: w :: rest) (he : ((q9tL (q9iPre q)).map fun z => q9sh th z.2) = ((q9tS x).take (q9tL (q9iPre q)).length).reverse) {r : Nat → Value} {z0 : q9ZZ} {i : Nat} (hv : q9ev r a = .ref (z0.2.1 i)) : q9XPi i z0 (((q9tG (q9iPre q)).map (q9sh th)).map (q9ev r)) := by
  obtain ⟨h1, k, a0, h2, h3⟩ := h
  rw [h1, hS] at he
  have e1 := congrArg (fun z => z[1]?) he
  simp only [List.getElem?_map, h2] at e1
  have e1 : some (q9sh th a0) = some a := e1
  unfold q9XPi
  rw [List.getElem?_map, List.getElem?_map, h3]
  show some (q9ev r (q9sh th a0)) = _
  rw [Option.some.inj e1, hv]
/-- a call that hands on the text that the second ghost is -/
noncomputable def q9wcM_o (pw : Nat) (q : q9CE) (n : q9EN) (pc : Nat) (x : q9ST) : Option (List (Nat × q9ST)) := if pc = pw then (match q9tS x with
  | a :: _ :: _ => if (q9tG x)[1]? = some a then q9exC1 (q9eT n) (q9eW n) (q9eR n) x q pc (pc + 3) else none
  | _ => none) else none
noncomputable def q9wcM (pw : Nat) (q : q9CE) (n : q9EN) (pc : Nat) (x : q9ST) : Option (List (Nat × q9ST)) := bif q9de9 (pc) (pw) then (match q9tS x with
  | a :: _ :: _ => if (q9ge9 (q9tG x) (1)) = some a then q9exC1 (q9eT n) (q9eW n) (q9eR n) x q pc (pc + 3) else none
  | _ => none) else none
theorem q9wcM_oq : @q9wcM = @q9wcM_o := by
  delta q9wcM q9wcM_o
  simp only [q9ge9_eq, q9fi9_eq, q9an9_eq, q9al9_eq, q9flt9_eq, q9el9_eq, q9set9_eq, q9ln9_eq, q9gD9_eq, q9ap9_eq, q9eq9_N, q9eq9_I, q9eq9_A, q9eq9_E, q9eq9_OI, q9eq9_ON, q9eq9_OA, q9eq9_L, q9eq9_S, q9de9_N, q9de9_I, q9de9_A, q9le9_N, q9le9_I, q9lt9_N, q9lt9_I, q9de9_E, q9de9_OI, q9de9_ON, q9de9_OA, q9de9_L, q9nd9_eq, q9or9_eq, Bool.cond_decide]
theorem q9macx_wc {l : Launch} {own nm : String} {cc : ByteArray} {n : q9EN} {K K2 : List (Nat × Int)} {pw i idx : Nat} {q : q9CE} (hB : q9eB n = q9TBL) (hCon : q9CONX O (q9XPi i) l q9TBL q9ALLW q.2.2.2) (hLK : q9LKs q9ALLW own q) (h0 : q.2.1 = 0) (q2 : q.1 = idx) (ht : q9txP q.2.2.2) (d1 : decode cc pw = .ok (.invokevirtual idx, 3)) : q9MACX O (q9XPi i) l q9ALLW own nm cc n K K2 (q9wcM pw q n) := by
  intro p e R ko s m args below meth c Q D cT A H0 G0 ws0 z0 g hE hT hX hN pc x ss r hw hm hn
  obtain ⟨hx, hb, hml, hown, hts, hAll, hK, hG, hZ, hA, hF, hPp, hV, hS, hR, h6, h7, h8, h9, hH0, hZz, hzG⟩ := hE
  (rewrite [q9wcM_oq] at hm; unfold q9wcM_o at hm)
  split at hm
  · rename_i hp
    subst hp
    split at hm
    · rename_i a w rest hSt
      split at hm
      · rename_i hg
        intro G ws H locs ls st hM hW
        have ea := q9gh_is hM hg hX
        exact q9exC1_ok hx hb hml hown hts hAll hK hG hZ hA hZz hzG hT (by rw [hB]; exact hCon) (hLK.ok hG) hR hw q2 (fun th he => q9txP_xp ht hSt he ea) (.inl ⟨d1, h0⟩) hm hn G ws H locs ls st hM hW
      · cases hm
    · cases hm
  · cases hm
/-- a text of the pool, and the call that takes it -/
noncomputable def q9txM_o (L : List (Nat × (Nat × String × Nat) × q9CE)) (n : q9EN) (pc : Nat) (x : q9ST) : Option (List (Nat × q9ST)) := match L.find? (fun z => z.1 == pc) with
  | some z => if q9zeroB x then q9exC1 (q9eT n) (q9eW n) (q9eR n) (q9sS (q9sE x (q9tE x ++ [(5, 0, 0)])) (((q9tE x).length, 0) :: q9tS x)) z.2.2 (pc + 2) (pc + 2 + 3) else none
  | none => none
noncomputable def q9txM (L : List (Nat × (Nat × String × Nat) × q9CE)) (n : q9EN) (pc : Nat) (x : q9ST) : Option (List (Nat × q9ST)) := match q9fi9 L (fun z => q9eq9 (z.1) (pc)) with
  | some z => if q9zeroB x then q9exC1 (q9eT n) (q9eW n) (q9eR n) (q9sS (q9sE x ((q9ap9 (q9tE x) ([(5, 0, 0)])))) (((q9ln9 (q9tE x)), 0) :: q9tS x)) z.2.2 (pc + 2) (pc + 2 + 3) else none
  | none => none
theorem q9txM_oq : @q9txM = @q9txM_o := by
  delta q9txM q9txM_o
  simp only [q9ge9_eq, q9fi9_eq, q9an9_eq, q9al9_eq, q9flt9_eq, q9el9_eq, q9set9_eq, q9ln9_eq, q9gD9_eq, q9ap9_eq, q9eq9_N, q9eq9_I, q9eq9_A, q9eq9_E, q9eq9_OI, q9eq9_ON, q9eq9_OA, q9eq9_L, q9eq9_S, q9de9_N, q9de9_I, q9de9_A, q9le9_N, q9le9_I, q9lt9_N, q9lt9_I, q9de9_E, q9de9_OI, q9de9_ON, q9de9_OA, q9de9_L, q9nd9_eq, q9or9_eq, Bool.cond_decide]
noncomputable def q9txOK (O : ORC) (l : Launch) (own : String) (cc : ByteArray) (z : Nat × (Nat × String × Nat) × q9CE) : Prop := z.2.1 ∈ q9skT ∧ q9CONX O (q9XPi z.2.1.2.2) l q9TBL q9ALLW z.2.2.2.2.2 ∧ q9LKs q9ALLW own z.2.2 ∧ z.2.2.2.1 = 0 ∧ q9txP z.2.2.2.2.2 ∧ decode cc z.1 = .ok (.ldc z.2.1.1, 2) ∧ decode cc (z.1 + 2) = .ok (.invokevirtual z.2.2.1, 3)
theorem q9macx_tx {XP : q9ZZ → List Value → Prop} {l : Launch} {nm : String} {cc : ByteArray} {n : q9EN} {K K2 : List (Nat × Int)} (hB : q9eB n = q9TBL) (L : List (Nat × (Nat × String × Nat) × q9CE)) (hL : ∀ z ∈ L, q9txOK O l RX6 cc z) : q9MACX O XP l q9ALLW RX6 nm cc n K K2 (q9txM L n) := by
  intro p e R ko s m args below meth c Q D cT A H0 G0 ws0 z0 g hE hT hX hN pc x ss r hw hm hn
  obtain ⟨hx, hb, hml, hown, hts, hAll, hK, hG, hZ, hA, hF, hPp, hV, hS, hR, h6, h7, h8, h9, hH0, hZz, hzG⟩ := hE
  (rewrite [q9txM_oq] at hm; unfold q9txM_o at hm)
  split at hm
  · rename_i z hz
    split at hm
    · rename_i hz0
      have z1 := List.find?_some hz
      simp only [beq_iff_eq] at z1
      obtain ⟨t1, t2, t3, t4, t5, t6, t7⟩ := hL z (List.mem_of_find?_eq_some hz)
      rw [z1] at t6 t7
      intro G ws H locs ls st hM hW
      have ag : q9agr (q9tE x).length r (q9up r (q9tE x).length (.ref (z0.2.1 z.2.1.2.2))) := fun k hk => q9up_lt hk
      have hM1 := hM.fresh hw (t := (5, 0, 0)) (v := .ref (z0.2.1 z.2.1.2.2)) ⟨_, rfl⟩
      have hle : (q9tE x).length ≤ (q9tE x ++ [((5, 0, 0) : q9ET)]).length := by rw [List.length_append]; omega
      have hw1 : q9wfB (q9sS (q9sE x (q9tE x ++ [(5, 0, 0)])) (((q9tE x).length, 0) :: q9tS x)) = true := by
        have h1 := q9wf_app (t := (5, 0, 0)) hw
        have h2 := q9wf_S h1
        have hok : q9okAV (q9tE x ++ [((5, 0, 0) : q9ET)]) ((q9tE x).length, 0) = true := by
          (rewrite [q9okAV_oq]; unfold q9okAV_o)
          rw [List.getElem?_append_right (Nat.le_refl _), Nat.sub_self]
          rfl
        (rewrite [q9wfB_oq] at h1 ⊢; unfold q9wfB_o at h1 ⊢)
        simp only [Bool.and_eq_true] at h1 ⊢
        refine ⟨h1.1, ?_, h1.2.2⟩
        show ((((q9tE x).length, (0 : Int)) :: q9tS x).all (q9okAV (q9tE x ++ [(5, 0, 0)]))) = true
        rw [List.all_cons, Bool.and_eq_true]
        exact ⟨hok, List.all_eq_true.mpr h2⟩
      have hgo := q9exC1_ok (r := q9up r (q9tE x).length (.ref (z0.2.1 z.2.1.2.2))) hx hb hml hown hts hAll hK hG hZ hA hZz hzG hT (by rw [hB]; exact t2) (t3.ok hG) hR hw1 rfl (fun th he => by
        have ht5 := t5
        obtain ⟨y1, k, a0, y2, y3⟩ := t5
        match hSt : q9tS x, he with
        | [], he =>
          exfalso
          rw [y1] at he
          have e9 := congrArg List.length he
          rw [List.length_map, y1] at e9
          have e7 : 2 = 1 := e9
          omega
        | w :: rest, he => exact q9txP_xp (a := ((q9tE x).length, 0)) (w := w) (rest := rest) ht5 rfl he (by rw [q9ev_zero, q9up_at])) (.inl ⟨t7, t4⟩) hm (fun q hq r' ha hl => hn q hq r' (ag.tr ha hle) (Nat.le_trans hle hl)) G ws H locs ls _ (hM1.S (((q9tE x).length, 0) :: q9tS x)) hW
      have e9 : ((((q9tE x).length, (0 : Int)) :: q9tS x).map (q9ev (q9up r (q9tE x).length (.ref (z0.2.1 z.2.1.2.2))))) = .ref (z0.2.1 z.2.1.2.2) :: st := by
        rw [List.map_cons, q9ev_zero, q9up_at, ag.map (q9wf_S hw), ← hM.2.1]
      rw [e9] at hgo
      have hR9 : vk_R RX6 z.2.1.1 z.2.1.2.1 (z0.2.1 z.2.1.2.2) s := hZz.2.1.2 z.2.1 t1
      exact va_ldcS hx hb hown hR9 t6 hgo
    · cases hm
  · cases hm
