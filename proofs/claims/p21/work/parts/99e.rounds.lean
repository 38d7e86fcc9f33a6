variable {O : ORC}
/-! the law's rounds, and its way from the entry to the first -/
theorem q9ofN {L : Nat} (h : L ≤ 3584) : (Int32.ofNat L).toInt = (L : Int) := Int32.toInt_ofNat_small (by omega)
noncomputable def q9po1 (a t : Nat) : Nat := 10 * t + a * 35862
noncomputable def q9po2 (a t : Nat) : Nat := 100 * t + a * 426800
noncomputable def q9rgL (r : Nat → Value) : Prop := 0 ≤ q9iv r 6 ∧ q9iv r 6 ≤ 3584 ∧ 0 ≤ q9iv r 9 ∧ q9iv r 9 ≤ 12
theorem q9rgL_ok {G : q9GH} {r : Nat → Value} (hS : q9SAT G (q9tE y_law) r) : q9rgL r := by
  obtain ⟨h1, h2, -⟩ := m_lawE
  obtain ⟨a1, a2, -⟩ := q9iv_rng hS h1 (.inl rfl)
  obtain ⟨b1, b2, -⟩ := q9iv_rng hS h2 (.inl rfl)
  exact ⟨a1, a2, b1, b2⟩
theorem q9meN_law {r : Nat → Value} : q9meN r m_law = (12 - q9iv r 9).toNat * 1099511627776 ^ 1 + ((3584 - q9iv r 6).toNat * 1099511627776 ^ 0 + 0) := rfl
theorem q9meN_lawB {r : Nat → Value} : q9meN r mB_law = (12 - q9iv r 9).toNat * 1099511627776 ^ 1 + ((1099511627775 : Int).toNat * 1099511627776 ^ 0 + 0) := rfl
theorem q9am_new7 {O' : ORC} {G : q9GH} {ws : va_W} {r : Nat → Value} {E : List q9ET} (hS : q9SAT G E r) {q : Nat × q9AV × q9AV} {t : q9ET} (hE : E[q.1]? = some t) (hk : amB7 t = true) (hN : ∀ c : Int, (c = -130 ∨ c = -131) → t = (0, c, c) → q9FMP O c G ws (q9ev r q.2.1) (q9ev r q.2.2) → q9FMP O' c G ws (q9ev r q.2.1) (q9ev r q.2.2)) (h : q9AMok O r G ws q) : q9AMok O' r G ws q := by
  unfold amB7 at hk
  rw [Bool.or_eq_true] at hk
  rcases hk with hk | hk
  · exact q9am_new hS hE hk hN h
  · rcases h with h | h
    · exact .inl h
    · refine .inr ?_
      rcases h with h | ⟨c, c1, c2, c3⟩
      · exact .inl h
      · refine .inr ⟨c, c1, c2, ?_⟩
        have hv := hS q.1 t hE
        obtain ⟨k, lo, hi⟩ := t
        simp only [Bool.or_eq_true, Bool.and_eq_true, beq_iff_eq] at hk
        obtain ⟨⟨hk, hk2⟩, hk3⟩ := hk
        have hk : k = 0 := hk
        subst hk
        obtain ⟨y, e1, e2, e3⟩ := hv
        have e2 : lo ≤ y.toInt := e2
        have e3 : y.toInt ≤ hi := e3
        rw [e1] at c1
        have c1 : some y.toInt = some c := c1
        have c1 := Option.some.inj c1
        have hk2 : lo = hi := hk2
        have hc : lo = c := by omega
        rcases hk3 with ((((hk3 | hk3) | hk3) | hk3) | hk3) | hk3
        · have hk3 : lo = -150 := hk3
          have hc9 : c = -150 := by omega
          subst hc9
          rw [q9FMP_5 (by decide)] at c3 ⊢
          have c3 : q9SNB G ws (q9ev r q.2.1) (q9ev r q.2.2) := c3
          exact c3
        · have hk3 : lo = -151 := hk3
          have hc9 : c = -151 := by omega
          subst hc9
          rw [q9FMP_5 (by decide)] at c3 ⊢
          have c3 : q9SFR G ws (q9ev r q.2.1) (q9ev r q.2.2) := c3
          exact c3
        · have hk3 : lo = -152 := hk3
          have hc9 : c = -152 := by omega
          subst hc9
          rw [q9FMP_5 (by decide)] at c3 ⊢
          have c3 : q9SEQ 1000 5 47 198 G ws (q9ev r q.2.1) (q9ev r q.2.2) := c3
          exact c3
        · have hk3 : lo = -153 := hk3
          have hc9 : c = -153 := by omega
          subst hc9
          rw [q9FMP_5 (by decide)] at c3 ⊢
          have c3 : q9SEQ 5000 0 44 195 G ws (q9ev r q.2.1) (q9ev r q.2.2) := c3
          exact c3
        · have hk3 : lo = -157 := hk3
          have hc9 : c = -157 := by omega
          subst hc9
          rw [q9FMP_pq] at c3 ⊢
          exact c3
        · have hk3 : lo = -149 := hk3
          have hc9 : c = -149 := by omega
          subst hc9
          rw [q9FMP_af (by decide)] at c3 ⊢
          obtain ⟨a, cd, n, M, e1, e2, e3, e4, e5⟩ := c3
          exact ⟨a, cd, n, M, e1, e2, e3, e4, e5⟩
set_option maxRecDepth 100000 in
theorem q9law_new {nL : Nat} {g : List Value} {r : Nat → Value} {G : q9GH} {ws : va_W} {ls : Array Slot} {st : List Value} {cT : Nat → ClassId} {A : Nat → Prop} (hM : q9SM O nL g y_law r G ws ls st) (hT : q9tyW cT q9TBL G ws) (hD : va_D A ws) (Sc : Int → Int32) :
    ∃ O' : ORC, q9SM O' nL g yo_law (q9up (q9up r (q9tE y_law).length (.int (-123))) ((q9tE y_law).length + 1) (.int (-139))) G ws ls st ∧ ∀ k : Int, 1 ≤ k → k ≤ 6 → O'.1 1063 (.int (Int32.ofInt k)) (.int 0) = some (.int (Sc k)) := by
  obtain ⟨⟨f1, f2⟩, ⟨f3, f4⟩, f5, f6, f8, f9, f10, f11, f12, f13⟩ := yo_facts
  have h1 := q9fm_of hM f1 (c := -130) (by (rewrite [q9famE_oq]; unfold q9famE_o); rw [f3]; rfl) (by decide)
  have h2 := q9fm_of hM f2 (c := -131) (by (rewrite [q9famE_oq]; unfold q9famE_o); rw [f4]; rfl) (by decide)
  rw [q9FMP_5 (by decide)] at h1 h2
  obtain ⟨a, cd, n, M, e1, e2, e3, e4, e5, -⟩ : q9EQF O true [166] 1058 false G ws (q9ev r (yo_n.2.1, 0)) (q9ev r (yo_n.2.2.2.2.1, 0)) := h1
  obtain ⟨a', cd', n', M', k1, k2, k3, k4, k5, -⟩ : q9EQF O false [177] 1058 false G ws (q9ev r (yo_n.2.2.2.1, 0)) (q9ev r (yo_n.2.2.2.2.1, 0)) := h2
  obtain ⟨t0, t1, t2, t3⟩ := hM.2.2.2.1 _ _ f5
  have t2 : 0 ≤ t0.toInt := t2
  have e2' := e2
  rw [q9ev_zero, t1] at e2'
  have e9 : t0 = n := Value.int.inj e2'
  subst e9
  have k2' := k2
  rw [q9ev_zero, t1] at k2'
  have k9 : t0 = n' := Value.int.inj k2'
  subst k9
  obtain ⟨P, p1, -, -⟩ := hM.2.2.2.1 _ _ f6
  obtain ⟨b, J, j1, j2⟩ := q9in_of hM hT f8 (by decide) rfl (.inl rfl)
  obtain ⟨b9, M9, m1, m2, m3⟩ := q9ob3_of hM hT f13 (.inr rfl)
  obtain ⟨O', o1, o2, o3, o4, o5, o6⟩ := q9orc_ex (fun i => M i &&& 255) (fun i => q9and_le (by decide)) t0 P J (fun k => if k < 1000 then Sc k else M9 (400 * (Sc 1).toInt.toNat + (k - 1000).toNat)) t2
  have o5 : ∀ k : Int, 1 ≤ k → k ≤ 6 → O'.1 1063 (.int (Int32.ofInt k)) (.int 0) = some (.int (Sc k)) := fun k k1 k2 => by
    have h9 := o5 k k1 k2
    try dsimp only at h9
    rw [if_pos (by omega)] at h9
    exact h9
  refine ⟨O', ?_, o5⟩
  have hz0 := q9zero_at f11
  have q9ok0 : q9okAV (q9tE y_law) (0, 0) = true := q9okZ f11 (by decide) (by decide)
  have hM' : q9SM O' nL g y_law r G ws ls st := by
    refine ⟨hM.1, hM.2.1, hM.2.2.1, hM.2.2.2.1, hM.2.2.2.2.1, fun q hq => ?_, hM.2.2.2.2.2.2.1, fun q hq => ?_⟩
    · have h9 := List.all_eq_true.mp f9 q hq
      split at h9
      · rename_i t ht
        rw [Bool.and_eq_true, Bool.or_eq_true, beq_iff_eq] at h9
        have hbd : ∀ n9 : Int32, (t = (0, -130, -130) ∨ t = (0, -131, -131)) → q9ev r q.2.2 = .int n9 → n9 = t0 := fun n9 hc hv => by
          rcases h9.2 with h8 | h8
          · exfalso
            rcases hc with hc | hc
            · rw [hc] at h8
              cases h8
            · rw [hc] at h8
              cases h8
          · rw [h8, q9ev_zero, t1] at hv
            exact (Value.int.inj hv).symm
        refine q9am_new7 hM.2.2.2.1 ht h9.1 (fun c hc htc hF => ?_) (hM.2.2.2.2.2.1 q hq)
        rw [q9FMP_5 (by omega)] at hF ⊢
        rcases hc with rfl | rfl
        · obtain ⟨a9, cd9, n9, M9, u1, u2, u3, u4, u5, u6⟩ : q9EQF O true [166] 1058 false G ws (q9ev r q.2.1) (q9ev r q.2.2) := hF
          have hu : ∀ i : Nat, (i : Int) < n9.toInt → (i : Int) < t0.toInt → O'.1 1058 (.int (Int32.ofNat i)) (.int 0) = some (.int (q9mskV true (M9 i))) := fun i hi ht0 => by
            have w1 := u5 i hi
            have w2 := e5 i ht0
            unfold q9oI at w1 w2
            rw [w1] at w2
            rw [o4 i ht0]
            exact w2.symm
          refine ⟨a9, cd9, n9, M9, u1, u2, u3, u4, fun i hi => hu i hi ?_, fun hh => by cases hh⟩
          rw [← hbd n9 (.inl htc) u2]
          exact hi
        · obtain ⟨a9, cd9, n9, M9, u1, u2, u3, u4, u5, u6⟩ : q9EQF O false [177] 1058 false G ws (q9ev r q.2.1) (q9ev r q.2.2) := hF
          have hu : ∀ i : Nat, (i : Int) < n9.toInt → (i : Int) < t0.toInt → O'.1 1058 (.int (Int32.ofNat i)) (.int 0) = some (.int (q9mskV false (M9 i))) := fun i hi ht0 => by
            have w1 := u5 i hi
            have w2 := e5 i ht0
            unfold q9oI at w1 w2
            rw [w1] at w2
            rw [o4 i ht0]
            exact w2.symm
          refine ⟨a9, cd9, n9, M9, u1, u2, u3, u4, fun i hi => hu i hi ?_, fun hh => by cases hh⟩
          rw [← hbd n9 (.inr htc) u2]
          exact hi
      · cases h9
    · have h9 := List.all_eq_true.mp f10 q hq
      rw [decide_eq_true_eq] at h9
      have h8 := hM.2.2.2.2.2.2.2 q hq
      unfold q9EXok q9exop at h8 ⊢
      rw [q9exo_lo h9 (f' := O.1)]
      exact h8
  have y3a := hM'.fresh f12 (t := (0, -123, -123)) (v := .int (-123)) ⟨_, rfl, by decide, by decide⟩
  have hwf2 : q9wfB (q9sE y_law (q9tE y_law ++ [(0, -123, -123)])) = true := q9wf_app f12
  have y3 := y3a.fresh hwf2 (t := (0, -139, -139)) (v := .int (-139)) ⟨_, rfl, by decide, by decide⟩
  have hln : (q9tE (q9sE y_law (q9tE y_law ++ [(0, -123, -123)]))).length = (q9tE y_law).length + 1 := by
    show (q9tE y_law ++ [_]).length = _
    rw [List.length_append]
    rfl
  rw [hln] at y3
  have hE2 : q9tE (q9sE y_law (q9tE y_law ++ [(0, -123, -123)])) ++ [((0, -139, -139) : q9ET)] = q9tE y_law ++ [(0, -123, -123), (0, -139, -139)] := by
    show q9tE y_law ++ [_] ++ [_] = _
    rw [List.append_assoc]
    rfl
  rw [hE2] at y3
  have ag : q9agr (q9tE y_law).length r (q9up (q9up r (q9tE y_law).length (.int (-123))) ((q9tE y_law).length + 1) (.int (-139))) := fun k hk => by rw [q9up_lt (by omega)]; exact q9up_lt hk
  have l1 := (List.getElem?_eq_some_iff.mp f5).1
  have l2 := (List.getElem?_eq_some_iff.mp f6).1
  have l3 := q9codeOf_lt f8
  have y4 := y3.A (F := ((q9tE y_law).length + 1, (yo_p, 0), (0, 0)) :: ((q9tE y_law).length, (yo_n.2.2.2.2.2.2, 0), (0, 8)) :: q9tA y_law) fun w hw8 => by
    rcases List.mem_cons.mp hw8 with rfl | hw8
    · refine q9fm_mk (c := -139) ?_ (by decide) ?_
      · show q9nV (q9up _ ((q9tE y_law).length + 1) _ ((q9tE y_law).length + 1)) = _
        rw [q9up_at]
        rfl
      · show q9FMP O' (-139) G ws (q9ev _ (yo_p, 0)) (q9ev _ (0, 0))
        rw [q9FMP_af (by decide), q9ev_zero, ag _ (q9codeOf_lt f13), m1, ag.ev q9ok0, q9zero_ev0 hM.2.2.2.1 hz0]
        refine ⟨b9, 201, 0, M9, rfl, rfl, List.mem_cons_self, m2, ?_⟩
        show ∀ k : Int32, q9oI O'.1 1063 (Int32.ofInt 1) k → 0 ≤ k.toInt → k.toInt ≤ 11 → ∀ j : Nat, j < 400 → q9oI O'.1 1490 (Int32.ofNat j) (M9 (400 * k.toInt.toNat + j))
        intro k hk k1 k2 j hj
        have h1 := o5 1 (by decide) (by decide)
        unfold q9oI at hk ⊢
        rw [hk] at h1
        have h1 : k = Sc 1 := Value.int.inj (Option.some.inj h1)
        have h2 := o6 j hj
        try dsimp only at h2
        rw [show (if (j : Int) + 1000 < 1000 then Sc ((j : Int) + 1000) else M9 (400 * (Sc 1).toInt.toNat + ((j : Int) + 1000 - 1000).toNat)) = M9 (400 * k.toInt.toNat + j) by rw [if_neg (by omega), show ((j : Int) + 1000 - 1000).toNat = j by omega, ← h1]] at h2
        rw [h2]
        obtain ⟨b1, b2⟩ := m3 rfl (400 * k.toInt.toNat + j) (by omega)
        by_cases hz : (M9 (400 * k.toInt.toNat + j)).toInt = 0
        · rw [if_pos hz]
          exact congrArg (fun u => some (Value.int u)) (Int32.toInt_inj.mp (by rw [hz]; rfl))
        · rw [if_neg hz]
          exact congrArg (fun u => some (Value.int u)) (Int32.toInt_inj.mp (by rw [show (1 : Int32).toInt = 1 from rfl]; omega))
    rcases List.mem_cons.mp hw8 with rfl | hw8
    · refine q9fm_mk (c := -123) ?_ (by decide) ?_
      · show q9nV (q9up _ ((q9tE y_law).length + 1) _ (q9tE y_law).length) = _
        rw [q9up_lt (by omega), q9up_at]
        rfl
      · rw [q9FMP_5 (by decide)]
        show q9EQF O' false [167] 1016 false G ws _ _
        refine ⟨b, 167, 8, J, ?_, ?_, List.mem_cons_self, j2, fun i hi => o3 i (by have : (8 : Int32).toInt = 8 := rfl; omega), fun hh => by cases hh⟩
        · show q9ev _ (yo_n.2.2.2.2.2.2, 0) = _
          rw [q9ev_zero, ag _ l3]
          exact j1
        · show q9ev _ (0, 8) = _
          rw [ag.ev (q9okZ f11 (by decide) (by decide))]
          exact q9zero_ev hM.2.2.2.1 hz0 8
    · exact y3.2.2.2.2.2.1 w hw8
  have y5 := y4.X (X := (1064, (0, 0), (0, 0), yo_n.2.2.2.2.1) :: (1015, (0, 0), (0, 0), yo_n.2.2.2.2.2.1) :: q9tX y_law) fun w hw8 => by
    have z0 : q9ev (q9up (q9up r (q9tE y_law).length (.int (-123))) ((q9tE y_law).length + 1) (.int (-139))) (0, 0) = .int 0 := by
      rw [ag.ev q9ok0]
      exact q9zero_ev0 hM.2.2.2.1 hz0
    rcases List.mem_cons.mp hw8 with rfl | hw8
    · unfold q9EXok
      show q9exop O' 1064 (q9ev _ (0, 0)) (q9ev _ (0, 0)) = some (q9up _ _ _ yo_n.2.2.2.2.1)
      rw [z0, ag _ l1, t1, q9exop_hi (by decide)]
      exact o1
    · rcases List.mem_cons.mp hw8 with rfl | hw8
      · unfold q9EXok
        show q9exop O' 1015 (q9ev _ (0, 0)) (q9ev _ (0, 0)) = some (q9up _ _ _ yo_n.2.2.2.2.2.1)
        rw [z0, ag _ l2, p1, q9exop_hi (by decide)]
        exact o2
      · exact y4.2.2.2.2.2.2.2 w hw8
  exact y5
section LR
variable {p : Program} {l : Launch} {e : Env} {s : State} {m : MethodId} {args : Array Value} {below : List Frame} {meth : Method} {c : Code} {Q : State → Prop}
variable {g : List Value} {D : va_G} {cT : Nat → ClassId} {A : Nat → Prop} {z0 : q9ZZ} {b L : Nat} {xs : Nat → Int32} {R : Room}
theorem q9law_rounds (hR1 : R.cells = 601024) (hR2 : R.slots = 7293034) (hev : ∀ (O : ORC) (ko : Nat × Nat), ko.1 + 12 ≤ 601024 → ko.2 + 68300 ≤ 7293034 → q9EV O p l R ko s m args c cL_law D cT A s.heap [] RL q9ALLW e_law1 [] [] z0)
    (hX9 : va_X b L xs s s.heap) (hbl : b < s.heap.size) (hbA : ¬ A b) (hL9 : (Int32.ofNat L).toInt = (L : Int)) (hg0 : g[0]? = some (.ref b)) (hg1 : g[1]? = some (.int (Int32.ofNat L)))
    (hend : ∀ (H : Heap) (locs : List Loc) (cells slots pc : Nat) (ls : Array Slot), cells ≤ 601024 → slots ≤ 7293034 → (∀ q ∈ locs, A q.base) → decode cL_law pc = .ok (.ireturn, 1) → W p l e R s m args below meth c H locs cells slots Q (F0 m pc ls [.int 1])) :
    ∀ (N : Nat) (ko : Nat × Nat) (O : ORC) (r : Nat → Value), q9rgL r → q9meN r m_law = N → ko.1 + q9po1 (12 - q9iv r 9).toNat (3584 - q9iv r 6).toNat + 12 ≤ 601024 → ko.2 + q9po2 (12 - q9iv r 9).toNat (3584 - q9iv r 6).toNat + 68300 ≤ 7293034 → q9GO O p l e R ko s m args below meth c Q (q9eN e_law1) g (q9WM D cT (q9eB e_law1) A s.heap [] [] (q9eW e_law1)) 23 y_law r := by
  intro N
  induction N using Nat.strongRecOn with
  | ind N ih =>
    intro ko O r hr hN h1 h2 G ws H locs ls st hM hW
    obtain ⟨O, hMo, hsc⟩ := q9law_new hM hW.2.2.2.1 hW.2.1 (fun k => xs (match q9ev r (6, k) with
      | .int u => u.toNatClampNeg
      | _ => 0))
    have hE := hev O ko (by omega) (by omega)
    have hTH : q9THok p l e R ko s m args below meth c Q (q9WM D cT (q9eB e_law1) A s.heap [] [] (q9eW e_law1)) RL (q9eT e_law1) := q9th_nil
    obtain ⟨-, -, hin⟩ := m_lawE
    have agn : q9agr (q9tE y_law).length r (q9up (q9up r (q9tE y_law).length (.int (-123))) ((q9tE y_law).length + 1) (.int (-139))) := fun k hk => by rw [q9up_lt (by omega)]; exact q9up_lt hk
    have hin' : ∀ q ∈ m_law, q.1 = 0 ∨ q.2.1 < (q9tE yo_law).length := fun q hq => (hin q hq).imp id fun h9 => by
      show _ < (q9tE y_law ++ [(0, -123, -123), (0, -139, -139)]).length
      rw [List.length_append]
      omega
    have h6 : 6 < (q9tE y_law).length := (List.getElem?_eq_some_iff.mp m_lawE.1).1
    refine q9chkS_ok (N0 := N) (q9step_ok hE hTH (macx_law1 (nm := meth.name) hE hTH trivial rfl) (fun pc x r' k hw hd hrt => ?_)) (q9slS_ok hE hX9 hbl hbA hL9 hg0 hg1) (fun k hk r' hh => ?_) _ 23 yo_law [] _ chk_law1 ⟨q9no_mem, fun k k1 k2 u hu => ?_⟩ (by rw [q9meN_agr agn m_law hin]; exact hN) hin' G ws H locs ls st hMo hW
    rotate_left 2
    · have hu : q9ev r (6, k) = .int u := by
        rw [← hu]
        exact (q9ev_agree (agn 6 h6)).symm
      have h9 := hsc k k1 k2
      rw [hu] at h9
      exact h9
    · (rewrite [q9rtL_oq] at hrt; unfold q9rtL_o at hrt)
      simp only [Bool.and_eq_true, decide_eq_true_eq] at hrt
      obtain ⟨r1, r2, r3, r4, r5⟩ := hrt
      have hdg : decode cL_law pc = .ok (.ireturn, 1) := by
        rcases hd with ⟨-, h⟩ | ⟨h, -⟩ | ⟨h, -⟩ | ⟨h, -⟩
        · exact h
        · omega
        · omega
        · omega
      intro G ws H locs ls st hM hW
      have hst := hM.2.1
      rw [r2, List.map_cons, List.map_nil, q9zero_ev hM.2.2.2.1 (q9zero_at r3)] at hst
      have hst : st = [.int 1] := hst
      rw [hst]
      exact hend H locs _ _ pc ls (by omega) (by omega) hW.2.2.1.2.2 hdg
    · have hk : k ∈ (23, q9sNM y_law 10 100, d_law, m_law) :: [(23, q9sNM y_law 12 68300, d_law, mB_law)] := hk
      rcases List.mem_cons.mp hk with rfl | hk
      · have hlt : q9meN r' m_law < N := hh
        intro G ws H locs ls st hM hW
        have hM0 : q9SM O (q9eN e_law1) g y_law r' G ws ls st := hM
        have hr' := q9rgL_ok hM0.2.2.2.1
        have hlt2 := hlt
        rw [← hN, q9meN_law, q9meN_law, Nat.pow_one, Nat.pow_zero] at hlt2
        obtain ⟨s1, s2, s3, s4⟩ := hr'
        obtain ⟨t1, t2, t3, t4⟩ := hr
        have k1 : q9po1 (12 - q9iv r' 9).toNat (3584 - q9iv r' 6).toNat + 10 ≤ q9po1 (12 - q9iv r 9).toNat (3584 - q9iv r 6).toNat := by
          unfold q9po1
          omega
        have k2 : q9po2 (12 - q9iv r' 9).toNat (3584 - q9iv r' 6).toNat + 100 ≤ q9po2 (12 - q9iv r 9).toNat (3584 - q9iv r 6).toNat := by
          unfold q9po2
          omega
        exact ih _ hlt (ko.1 + 10, ko.2 + 100) O r' ⟨s1, s2, s3, s4⟩ rfl (by show ko.1 + 10 + _ + 12 ≤ _; omega) (by show ko.2 + 100 + _ + 68300 ≤ _; omega) G ws H locs ls st hM0 hW
      · rw [List.mem_singleton] at hk
        subst hk
        have hlt : q9meN r' mB_law < N := hh
        intro G ws H locs ls st hM hW
        have hM0 : q9SM O (q9eN e_law1) g y_law r' G ws ls st := hM
        have hr' := q9rgL_ok hM0.2.2.2.1
        have hlt2 := hlt
        rw [← hN, q9meN_law, q9meN_lawB, Nat.pow_one, Nat.pow_zero] at hlt2
        obtain ⟨s1, s2, s3, s4⟩ := hr'
        obtain ⟨t1, t2, t3, t4⟩ := hr
        have e9 : (1099511627775 : Int).toNat = 1099511627775 := rfl
        rw [e9] at hlt2
        have k0 : (12 - q9iv r' 9).toNat < (12 - q9iv r 9).toNat := by omega
        have k1 : q9po1 (12 - q9iv r' 9).toNat (3584 - q9iv r' 6).toNat + 12 ≤ q9po1 (12 - q9iv r 9).toNat (3584 - q9iv r 6).toNat := by
          unfold q9po1
          omega
        have k2 : q9po2 (12 - q9iv r' 9).toNat (3584 - q9iv r' 6).toNat + 68300 ≤ q9po2 (12 - q9iv r 9).toNat (3584 - q9iv r 6).toNat := by
          unfold q9po2
          omega
        have hlt3 : q9meN r' m_law < N := by
          rw [← hN, q9meN_law, q9meN_law, Nat.pow_one, Nat.pow_zero]
          omega
        exact ih _ hlt3 (ko.1 + 12, ko.2 + 68300) O r' ⟨s1, s2, s3, s4⟩ rfl (by show ko.1 + 12 + _ + 12 ≤ _; omega) (by show ko.2 + 68300 + _ + 68300 ≤ _; omega) G ws H locs ls st hM0 hW
theorem q9law_go (hst : l.stackTraces = false) (hR1 : R.cells = 601024) (hR2 : R.slots = 7293034) (hev : ∀ (O : ORC) (ko : Nat × Nat), ko.1 + 12 ≤ 601024 → ko.2 + 68300 ≤ 7293034 → q9EV O p l R ko s m args c cL_law D cT A s.heap [] RL q9ALLW e_law1 [] [] z0) (hev0 : q9EV O p l R (0, 0) s m args c cL_law D cT A s.heap [] RL q9ALLW e_law0 [] [] z0)
    (hX9 : va_X b L xs s s.heap) (hbl : b < s.heap.size) (hbA : ¬ A b) (hL9 : (Int32.ofNat L).toInt = (L : Int)) (hg0 : g[0]? = some (.ref b)) (hg1 : g[1]? = some (.int (Int32.ofNat L)))
    (hend : ∀ (H : Heap) (locs : List Loc) (cells slots pc : Nat) (ls : Array Slot), cells ≤ 601024 → slots ≤ 7293034 → (∀ q ∈ locs, A q.base) → decode cL_law pc = .ok (.ireturn, 1) → W p l e R s m args below meth c H locs cells slots Q (F0 m pc ls [.int 1])) (r : Nat → Value) :
    q9GO O p l e R (0, 0) s m args below meth c Q (q9eN e_law0) g (q9WM D cT (q9eB e_law0) A s.heap [] [] (q9eW e_law0)) 0 y_law0 r := by
  have hTH : q9THok p l e R (0, 0) s m args below meth c Q (q9WM D cT (q9eB e_law0) A s.heap [] [] (q9eW e_law0)) RL (q9eT e_law0) := q9th_nil
  refine q9chk_ok (N0 := 0) (o := none) (q9step_ok hev0 hTH (macx_law0 hst (nm := meth.name) hev0 hTH trivial rfl) (fun pc x r' k hw hd hrt => by cases hrt)) (fun k hk r1 hh => ?_) _ 0 y_law0 r chk_law0 (fun me0 hm => by cases hm)
  have hk : k ∈ [((15 : Nat), y_law15, d_law15, ([] : List q9ME))] := hk
  rw [List.mem_singleton] at hk
  subst hk
  refine q9re_go (ko := (0, 0)) re_law fun r2 ha2 => ?_
  refine q9chk_ok (N0 := 0) (o := none) (q9step_ok hev0 hTH (macx_law2 (nm := meth.name) hev0 hTH trivial rfl) (fun pc x r' k hw hd hrt => by cases hrt)) (fun k hk r3 hh => ?_) _ 15 (q9reX y_law15) r2 chk_law2 (fun me0 hm => by cases hm)
  have hk : k ∈ [((23 : Nat), q9sNM y_law 215 539454, d_law, ([] : List q9ME))] := hk
  rw [List.mem_singleton] at hk
  subst hk
  intro G ws H locs ls st hM hW
  have hM0 : q9SM O (q9eN e_law1) g y_law r3 G ws ls st := hM
  have hr := q9rgL_ok hM0.2.2.2.1
  obtain ⟨s1, s2, s3, s4⟩ := hr
  have k1 : q9po1 (12 - q9iv r3 9).toNat (3584 - q9iv r3 6).toNat ≤ 466184 := by
    unfold q9po1
    omega
  have k2 : q9po2 (12 - q9iv r3 9).toNat (3584 - q9iv r3 6).toNat ≤ 5480000 := by
    unfold q9po2
    omega
  exact q9law_rounds hR1 hR2 hev hX9 hbl hbA hL9 hg0 hg1 hend _ (215, 539454) O r3 ⟨s1, s2, s3, s4⟩ rfl (by show 215 + _ + 12 ≤ _; omega) (by show 539454 + _ + 68300 ≤ _; omega) G ws H locs ls st hM0 hW
end LR
