variable {O : ORC}
/-! the law: loads of its script -/
noncomputable def q9slM_o (cc : ByteArray) (pc : Nat) (x : q9ST) : Option (List (Nat × q9ST)) := match decode cc pc with
  | .ok (.iaload, 1) => (match q9tS x, (q9tG x)[1]? with
    | j :: a :: rest, some L9 => (match q9num (q9tE x) j with
      | some (0, lo, _) => if (q9tG x)[0]? = some a ∧ 0 ≤ lo ∧ q9okAV (q9tE x) L9 = true ∧ q9leB x j L9 (-1) = true then some [(pc + 1, q9sS (q9sE x (q9tE x ++ [(0, -2147483648, 2147483647)])) (((q9tE x).length, 0) :: rest))] else none
      | _ => none)
    | _, _ => none)
  | .ok (.arraylength, 1) => (match q9tS x, (q9tG x)[1]? with
    | a :: rest, some L9 => if (q9tG x)[0]? = some a then some [(pc + 1, q9sS x (L9 :: rest))] else none
    | _, _ => none)
  | _ => none
noncomputable def q9slM (cc : ByteArray) (pc : Nat) (x : q9ST) : Option (List (Nat × q9ST)) := match decode cc pc with
  | .ok (.iaload, 1) => (match q9tS x, (q9ge9 (q9tG x) (1)) with
    | j :: a :: rest, some L9 => (match q9num (q9tE x) j with
      | some (0, lo, _) => if (q9ge9 (q9tG x) (0)) = some a ∧ 0 ≤ lo ∧ q9okAV (q9tE x) L9 = true ∧ q9leB x j L9 (-1) = true then some [(pc + 1, q9sS (q9sE x ((q9ap9 (q9tE x) ([(0, -2147483648, 2147483647)])))) (((q9ln9 (q9tE x)), 0) :: rest))] else none
      | _ => none)
    | _, _ => none)
  | .ok (.arraylength, 1) => (match q9tS x, (q9ge9 (q9tG x) (1)) with
    | a :: rest, some L9 => if (q9ge9 (q9tG x) (0)) = some a then some [(pc + 1, q9sS x (L9 :: rest))] else none
    | _, _ => none)
  | _ => none
theorem q9slM_oq : @q9slM = @q9slM_o := by
  delta q9slM q9slM_o
  simp only [q9ge9_eq, q9fi9_eq, q9an9_eq, q9al9_eq, q9flt9_eq, q9el9_eq, q9set9_eq, q9ln9_eq, q9gD9_eq, q9ap9_eq, q9eq9_N, q9eq9_I, q9eq9_A, q9eq9_E, q9eq9_OI, q9eq9_ON, q9eq9_OA, q9eq9_L, q9eq9_S, q9de9_N, q9de9_I, q9de9_A, q9le9_N, q9le9_I, q9lt9_N, q9lt9_I, q9de9_E, q9de9_OI, q9de9_ON, q9de9_OA, q9de9_L, q9nd9_eq, q9or9_eq, Bool.cond_decide]
noncomputable def q9rtL_o (k : Nat) (x : q9ST) : Bool := decide (k = 0) && (decide (q9tS x = [(0, 1)]) && (q9zeroB x && (decide (q9tN x ≤ 12) && decide (q9tM x ≤ 68300))))
noncomputable def q9rtL (k : Nat) (x : q9ST) : Bool := q9nd9 ((q9de9 (k) (0))) ((q9nd9 ((q9de9 (q9tS x) ([(0, 1)]))) ((q9nd9 (q9zeroB x) ((q9nd9 ((q9le9 (q9tN x) (12))) ((q9le9 (q9tM x) (68300)))))))))
theorem q9rtL_oq : @q9rtL = @q9rtL_o := by
  delta q9rtL q9rtL_o
  simp only [q9ge9_eq, q9fi9_eq, q9an9_eq, q9al9_eq, q9flt9_eq, q9el9_eq, q9set9_eq, q9ln9_eq, q9gD9_eq, q9ap9_eq, q9eq9_N, q9eq9_I, q9eq9_A, q9eq9_E, q9eq9_OI, q9eq9_ON, q9eq9_OA, q9eq9_L, q9eq9_S, q9de9_N, q9de9_I, q9de9_A, q9le9_N, q9le9_I, q9lt9_N, q9lt9_I, q9de9_E, q9de9_OI, q9de9_ON, q9de9_OA, q9de9_L, q9nd9_eq, q9or9_eq, Bool.cond_decide]
section SL
variable {p : Program} {l : Launch} {e : Env} {R : Room} {ko : Nat × Nat} {s : State} {m : MethodId} {args : Array Value} {below : List Frame} {meth : Method} {c : Code} {Q : State → Prop} {cc : ByteArray}
variable {g : List Value} {D : va_G} {cT : Nat → ClassId} {A : Nat → Prop} {H0 : Heap} {G0 : q9GH} {ws0 : va_W}
theorem q9slM_ok {own : String} {n : q9EN} {K K2 : List (Nat × Int)} {z0 : q9ZZ} {b L : Nat} {xs : Nat → Int32} (hE : q9EV O p l R ko s m args c cc D cT A H0 G0 own q9ALLW n K K2 z0) (hX9 : va_X b L xs s H0) (hbl : b < H0.size) (hbA : ¬ A b) (hL9 : (Int32.ofNat L).toInt = (L : Int)) (hg0 : g[0]? = some (.ref b)) (hg1 : g[1]? = some (.int (Int32.ofNat L))) :
    ∀ (pc : Nat) (x : q9ST) (ss : List (Nat × q9ST)) (r : Nat → Value), q9wfB x = true → q9slM cc pc x = some ss → q9NX O p l e R ko s m args below meth c Q (q9eN n) g (q9WM D cT (q9eB n) A H0 G0 ws0 (q9eW n)) ss x r → q9GO O p l e R ko s m args below meth c Q (q9eN n) g (q9WM D cT (q9eB n) A H0 G0 ws0 (q9eW n)) pc x r := by
  obtain ⟨hx, hb, hml, hown, hts, hAll, hK, hG, hZ, hA, hF, hPp, hV, hS, hR, h6, h7, h8, h9, hH0, hZz, hzG⟩ := hE
  intro pc x ss r hw hm hn
  (rewrite [q9slM_oq] at hm; unfold q9slM_o at hm)
  split at hm
  · rename_i hd
    split at hm
    · rename_i j a rest L9 hSt hGt
      split at hm
      · rename_i lo hi9 hnum
        split at hm
        · rename_i hc
          obtain ⟨c1, c2, c3, c4⟩ := hc
          cases hm
          intro G ws H locs ls st hM hW
          have ea := q9gh_is0 hM c1 hg0
          have eL := q9gh_is0 hM hGt hg1
          have okj : q9okAV (q9tE x) j = true := q9wf_S hw j (by rw [hSt]; exact List.mem_cons_self)
          obtain ⟨u, eu, -, u1, u2⟩ := q9num_int hM.2.2.2.1 okj hnum
          have hle := q9leB_ok hM okj c3 c4
          rw [eu, eL] at hle
          have hle : u.toInt ≤ (Int32.ofNat L).toInt + (-1) := hle
          have hst := hM.2.1
          rw [hSt, List.map_cons, List.map_cons, ea, eu] at hst
          have okr : ∀ a ∈ rest, q9okAV (q9tE x) a = true := fun a ha => q9wf_S hw a (by rw [hSt]; exact List.mem_cons_of_mem _ (List.mem_cons_of_mem _ ha))
          rw [hst]
          have hin : vp_in u L := by
            intro h9
            have e0 : u.toNatClampNeg = u.toInt.toNat := rfl
            rw [Int32.lt_iff_toInt_lt, Int32.toInt_zero] at h9
            omega
          have ag : q9agr (q9tE x).length r (q9up r (q9tE x).length (.int (xs u.toNatClampNeg))) := fun k hk => q9up_lt hk
          have h9 := hM.fresh hw (q9ty_any (xs u.toNatClampNeg))
          have kk9 := hn.one ag (by show _ ≤ (q9tE x ++ [_]).length; rw [List.length_append]; omega) G ws H locs ls _ (h9.S (((q9tE x).length, 0) :: rest)) hW
          rw [List.map_cons, q9ev_zero, q9up_at, ag.map okr] at kk9
          exact va_sld hx hb hX9 hbl hbA hW.2.2.1 hin hd kk9
        · cases hm
      · cases hm
    · cases hm
  · rename_i hd
    split at hm
    · rename_i a rest L9 hSt hGt
      split at hm
      · rename_i c1
        cases hm
        intro G ws H locs ls st hM hW
        have ea := q9gh_is0 hM c1 hg0
        have eL := q9gh_is0 hM hGt hg1
        have hst := hM.2.1
        rw [hSt, List.map_cons, ea] at hst
        rw [hst]
        have kk9 := hn.one q9agr.rf (Nat.le_refl _) G ws H locs ls _ (hM.S (L9 :: rest)) hW
        rw [List.map_cons, eL] at kk9
        exact va_slen hx hb hX9 hbl hbA hW.2.2.1 hd kk9
      · cases hm
    · cases hm
  · cases hm
end SL
