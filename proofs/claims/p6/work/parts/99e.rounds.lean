/-! the law's rounds, and its way from the entry to the first -/
theorem q9ofN {L : Nat} (h : L ≤ 3584) : (Int32.ofNat L).toInt = (L : Int) := Int32.toInt_ofNat_small (by omega)
noncomputable def q9po1 (a t : Nat) : Nat := 10 * t + a * 35862
noncomputable def q9po2 (a t : Nat) : Nat := 100 * t + a * 426800
noncomputable def q9rgL (r : Nat → Value) : Prop := 0 ≤ q9iv r 6 ∧ q9iv r 6 ≤ 3584 ∧ 0 ≤ q9iv r 9 ∧ q9iv r 9 ≤ 12
theorem q9rgL_ok {G : q9GH} {r : Nat → Value} (hS : q9SAT G (q9tE q9y_law) r) : q9rgL r := by
  obtain ⟨h1, h2, -⟩ := q9m_lawE
  obtain ⟨a1, a2, -⟩ := q9iv_rng hS h1 (.inl rfl)
  obtain ⟨b1, b2, -⟩ := q9iv_rng hS h2 (.inl rfl)
  exact ⟨a1, a2, b1, b2⟩
theorem q9meN_law {r : Nat → Value} : q9meN r q9m_law = (12 - q9iv r 9).toNat * 1099511627776 ^ 1 + ((3584 - q9iv r 6).toNat * 1099511627776 ^ 0 + 0) := rfl
theorem q9meN_lawB {r : Nat → Value} : q9meN r q9mB_law = (12 - q9iv r 9).toNat * 1099511627776 ^ 1 + ((1099511627775 : Int).toNat * 1099511627776 ^ 0 + 0) := rfl
section LR
variable {p : Program} {l : Launch} {e : Env} {s : State} {m : MethodId} {args : Array Value} {below : List Frame} {meth : Method} {c : Code} {Q : State → Prop}
variable {g : List Value} {D : va_G} {cT : Nat → ClassId} {A : Nat → Prop} {z0 : q9ZZ} {b L : Nat} {xs : Nat → Int32} {R : Room}
theorem q9law_rounds (hR1 : R.cells = 601024) (hR2 : R.slots = 7293034) (hev : ∀ ko : Nat × Nat, ko.1 + 12 ≤ 601024 → ko.2 + 68300 ≤ 7293034 → q9EV p l R ko s m args c cL_law D cT A s.heap [] RL q9ALLW q9e_law1 [] [] z0)
    (hX9 : va_X b L xs s s.heap) (hbl : b < s.heap.size) (hbA : ¬ A b) (hL9 : (Int32.ofNat L).toInt = (L : Int)) (hg0 : g[0]? = some (.ref b)) (hg1 : g[1]? = some (.int (Int32.ofNat L)))
    (hend : ∀ (H : Heap) (locs : List Loc) (cells slots pc : Nat) (ls : Array Slot), cells ≤ 601024 → slots ≤ 7293034 → (∀ q ∈ locs, A q.base) → decode cL_law pc = .ok (.ireturn, 1) → W p l e R s m args below meth c H locs cells slots Q (F0 m pc ls [.int 1])) :
    ∀ (N : Nat) (ko : Nat × Nat) (r : Nat → Value), q9rgL r → q9meN r q9m_law = N → ko.1 + q9po1 (12 - q9iv r 9).toNat (3584 - q9iv r 6).toNat + 12 ≤ 601024 → ko.2 + q9po2 (12 - q9iv r 9).toNat (3584 - q9iv r 6).toNat + 68300 ≤ 7293034 → q9GO p l e R ko s m args below meth c Q (q9eN q9e_law1) g (q9WM D cT (q9eB q9e_law1) A s.heap [] [] (q9eW q9e_law1)) 23 q9y_law r := by
  intro N
  induction N using Nat.strongRecOn with
  | ind N ih =>
    intro ko r hr hN h1 h2
    have hE := hev ko (by omega) (by omega)
    have hTH : q9THok p l e R ko s m args below meth c Q (q9WM D cT (q9eB q9e_law1) A s.heap [] [] (q9eW q9e_law1)) RL (q9eT q9e_law1) := q9th_nil
    obtain ⟨-, -, hin⟩ := q9m_lawE
    refine q9chkS_ok (N0 := N) (q9step_ok hE hTH (q9macx_law1 (nm := meth.name) hE hTH trivial rfl) (fun pc x r' k hw hd hrt => ?_)) (q9slS_ok hE hX9 hbl hbA hL9 hg0 hg1) (fun k hk r' hh => ?_) _ 23 q9y_law [] r q9chk_law1 q9no_mem hN hin
    · unfold q9rtL at hrt
      simp only [Bool.and_eq_true, decide_eq_true_eq] at hrt
      obtain ⟨r1, r2, r3, r4, r5⟩ := hrt
      have hdg : decode cL_law pc = .ok (.ireturn, 1) := by
        rcases hd with ⟨-, h⟩ | ⟨h, -⟩ | ⟨h, -⟩ | ⟨h, -⟩
        · exact h
        · omega
        · omega
        · omega
      intro G ws H locs ls st hM hW
      have hst := hM.2.1
      rw [r2, List.map_cons, List.map_nil, q9zero_ev hM.2.2.2.1 (q9zero_at r3)] at hst
      have hst : st = [.int 1] := hst
      rw [hst]
      exact hend H locs _ _ pc ls (by omega) (by omega) hW.2.2.1.2.2 hdg
    · have hk : k ∈ (23, q9sNM q9y_law 10 100, q9d_law, q9m_law) :: [(23, q9sNM q9y_law 12 68300, q9d_law, q9mB_law)] := hk
      rcases List.mem_cons.mp hk with rfl | hk
      · have hlt : q9meN r' q9m_law < N := hh
        intro G ws H locs ls st hM hW
        have hM0 : q9SM (q9eN q9e_law1) g q9y_law r' G ws ls st := hM
        have hr' := q9rgL_ok hM0.2.2.2.1
        have hlt2 := hlt
        rw [← hN, q9meN_law, q9meN_law, Nat.pow_one, Nat.pow_zero] at hlt2
        obtain ⟨s1, s2, s3, s4⟩ := hr'
        obtain ⟨t1, t2, t3, t4⟩ := hr
        have k1 : q9po1 (12 - q9iv r' 9).toNat (3584 - q9iv r' 6).toNat + 10 ≤ q9po1 (12 - q9iv r 9).toNat (3584 - q9iv r 6).toNat := by
          unfold q9po1
          omega
        have k2 : q9po2 (12 - q9iv r' 9).toNat (3584 - q9iv r' 6).toNat + 100 ≤ q9po2 (12 - q9iv r 9).toNat (3584 - q9iv r 6).toNat := by
          unfold q9po2
          omega
        exact ih _ hlt (ko.1 + 10, ko.2 + 100) r' ⟨s1, s2, s3, s4⟩ rfl (by show ko.1 + 10 + _ + 12 ≤ _; omega) (by show ko.2 + 100 + _ + 68300 ≤ _; omega) G ws H locs ls st hM0 hW
      · rw [List.mem_singleton] at hk
        subst hk
        have hlt : q9meN r' q9mB_law < N := hh
        intro G ws H locs ls st hM hW
        have hM0 : q9SM (q9eN q9e_law1) g q9y_law r' G ws ls st := hM
        have hr' := q9rgL_ok hM0.2.2.2.1
        have hlt2 := hlt
        rw [← hN, q9meN_law, q9meN_lawB, Nat.pow_one, Nat.pow_zero] at hlt2
        obtain ⟨s1, s2, s3, s4⟩ := hr'
        obtain ⟨t1, t2, t3, t4⟩ := hr
        have e9 : (1099511627775 : Int).toNat = 1099511627775 := rfl
        rw [e9] at hlt2
        have k0 : (12 - q9iv r' 9).toNat < (12 - q9iv r 9).toNat := by omega
        have k1 : q9po1 (12 - q9iv r' 9).toNat (3584 - q9iv r' 6).toNat + 12 ≤ q9po1 (12 - q9iv r 9).toNat (3584 - q9iv r 6).toNat := by
          unfold q9po1
          omega
        have k2 : q9po2 (12 - q9iv r' 9).toNat (3584 - q9iv r' 6).toNat + 68300 ≤ q9po2 (12 - q9iv r 9).toNat (3584 - q9iv r 6).toNat := by
          unfold q9po2
          omega
        have hlt3 : q9meN r' q9m_law < N := by
          rw [← hN, q9meN_law, q9meN_law, Nat.pow_one, Nat.pow_zero]
          omega
        exact ih _ hlt3 (ko.1 + 12, ko.2 + 68300) r' ⟨s1, s2, s3, s4⟩ rfl (by show ko.1 + 12 + _ + 12 ≤ _; omega) (by show ko.2 + 68300 + _ + 68300 ≤ _; omega) G ws H locs ls st hM0 hW
theorem q9law_go (hst : l.stackTraces = false) (hR1 : R.cells = 601024) (hR2 : R.slots = 7293034) (hev : ∀ ko : Nat × Nat, ko.1 + 12 ≤ 601024 → ko.2 + 68300 ≤ 7293034 → q9EV p l R ko s m args c cL_law D cT A s.heap [] RL q9ALLW q9e_law1 [] [] z0) (hev0 : q9EV p l R (0, 0) s m args c cL_law D cT A s.heap [] RL q9ALLW q9e_law0 [] [] z0)
    (hX9 : va_X b L xs s s.heap) (hbl : b < s.heap.size) (hbA : ¬ A b) (hL9 : (Int32.ofNat L).toInt = (L : Int)) (hg0 : g[0]? = some (.ref b)) (hg1 : g[1]? = some (.int (Int32.ofNat L)))
    (hend : ∀ (H : Heap) (locs : List Loc) (cells slots pc : Nat) (ls : Array Slot), cells ≤ 601024 → slots ≤ 7293034 → (∀ q ∈ locs, A q.base) → decode cL_law pc = .ok (.ireturn, 1) → W p l e R s m args below meth c H locs cells slots Q (F0 m pc ls [.int 1])) (r : Nat → Value) :
    q9GO p l e R (0, 0) s m args below meth c Q (q9eN q9e_law0) g (q9WM D cT (q9eB q9e_law0) A s.heap [] [] (q9eW q9e_law0)) 0 q9y_law0 r := by
  have hTH : q9THok p l e R (0, 0) s m args below meth c Q (q9WM D cT (q9eB q9e_law0) A s.heap [] [] (q9eW q9e_law0)) RL (q9eT q9e_law0) := q9th_nil
  refine q9chk_ok (N0 := 0) (o := none) (q9step_ok hev0 hTH (q9macx_law0 hst (nm := meth.name) hev0 hTH trivial rfl) (fun pc x r' k hw hd hrt => by cases hrt)) (fun k hk r1 hh => ?_) _ 0 q9y_law0 r q9chk_law0 (fun me0 hm => by cases hm)
  have hk : k ∈ [((15 : Nat), q9y_law15, q9d_law15, ([] : List q9ME))] := hk
  rw [List.mem_singleton] at hk
  subst hk
  refine q9re_go (ko := (0, 0)) q9re_law fun r2 ha2 => ?_
  refine q9chk_ok (N0 := 0) (o := none) (q9step_ok hev0 hTH (q9macx_law2 (nm := meth.name) hev0 hTH trivial rfl) (fun pc x r' k hw hd hrt => by cases hrt)) (fun k hk r3 hh => ?_) _ 15 (q9reX q9y_law15) r2 q9chk_law2 (fun me0 hm => by cases hm)
  have hk : k ∈ [((23 : Nat), q9sNM q9y_law 215 539454, q9d_law, ([] : List q9ME))] := hk
  rw [List.mem_singleton] at hk
  subst hk
  intro G ws H locs ls st hM hW
  have hM0 : q9SM (q9eN q9e_law1) g q9y_law r3 G ws ls st := hM
  have hr := q9rgL_ok hM0.2.2.2.1
  obtain ⟨s1, s2, s3, s4⟩ := hr
  have k1 : q9po1 (12 - q9iv r3 9).toNat (3584 - q9iv r3 6).toNat ≤ 466184 := by
    unfold q9po1
    omega
  have k2 : q9po2 (12 - q9iv r3 9).toNat (3584 - q9iv r3 6).toNat ≤ 5480000 := by
    unfold q9po2
    omega
  exact q9law_rounds hR1 hR2 hev hX9 hbl hbA hL9 hg0 hg1 hend _ (215, 539454) r3 ⟨s1, s2, s3, s4⟩ rfl (by show 215 + _ + 12 ≤ _; omega) (by show 539454 + _ + 68300 ≤ _; omega) G ws H locs ls st hM0 hW
end LR
