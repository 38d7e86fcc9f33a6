set_option maxHeartbeats 16000000 in
set_option maxRecDepth 100000 in
/-- from the entry, for every script of at most 3584 ints, the law comes to its end with true -/
theorem q9whole_start {p : Program} {e : Env} {s : State} {m : MethodId} {below : List Frame} {meth : Method} {c : Code} (l : Launch) (hflags : l.flags = flags0) {b L : Nat} {xs : Nat → Int32} (hL : L ≤ 3584) (C0 : q9lw_At p s m meth c b L xs) : W p l e room_1 s m #[Value.ref b] below meth c s.heap [] 0 0 (q9lw_Z below #[Value.ref b] s) (entryFrame m ([Value.ref b] : List Value).toArray 7) := by
  obtain ⟨hx, hb, hr, hml, hown, hts0, hX, hbl, hlocks, hgv⟩ := id C0
  have hown : s.vm.findClass RL = some m.cls := hown
  have hb : c.code = cL_law := hb
  have hst : l.stackTraces = false := by unfold Launch.stackTraces; rw [hflags]; decide +kernel
  have hs := flat_of_before _ hgv
  have htsA : ∀ w ∈ q9ALLW, w.before #[Value.ref b] s = true := fun w hw => hts0 w (List.mem_filter.mp hw).1
  obtain ⟨A, hAe⟩ : ∃ A : Nat → Prop, A = fun q => s.heap.size ≤ q := ⟨_, rfl⟩
  have hA : ∀ q : Nat, s.heap.size ≤ q → A q := fun q h => by rw [hAe]; exact h
  have hAl : ∀ q, A q → s.heap.size ≤ q := fun q h => by rw [hAe] at h; exact h
  have hAn : ∀ a : Nat, a < s.heap.size → ¬ A a := fun a h q => Nat.not_le.mpr h (hAl a q)
  obtain ⟨D, cT, hK⟩ := q9law_K hts0
  have hG := q9law_G hts0 hs
  have hZ := q9law_Z (A := A) hts0 hs hAn
  obtain ⟨z0, hSD⟩ := q9law_SD (A := A) hts0 hs hAn
  obtain ⟨O, -⟩ := q9orc_ex (fun _ => 0) (fun _ => ⟨by decide, by decide⟩) 0 0 (fun _ => 0) (fun _ => 0) (by decide)
  have hev : ∀ (O : ORC) (ko : Nat × Nat), ko.1 + 12 ≤ 601024 → ko.2 + 68300 ≤ 7293034 → q9EV O p l room_1 ko s m #[Value.ref b] c cL_law D cT A s.heap [] RL q9ALLW q9e_law1 [] [] z0 := fun O ko h1 h2 => (q9es_law1 l hst).ev (z := z0) rfl hSD trivial hx hb hml hown htsA hK hG hZ hA ⟨Nat.le_of_ble_eq_true rfl, Nat.le_of_ble_eq_true rfl, h1, h2⟩
  have hev0 : q9EV O p l room_1 (0, 0) s m #[Value.ref b] c cL_law D cT A s.heap [] RL q9ALLW q9e_law0 [] [] z0 := (q9es_law0 l).ev (z := z0) rfl hSD trivial hx hb hml hown htsA hK hG hZ hA ⟨Nat.le_of_ble_eq_true rfl, Nat.le_of_ble_eq_true rfl, Nat.le_of_ble_eq_true rfl, Nat.le_of_ble_eq_true rfl⟩
  have hl := lv_entry ([.ref b]) (n := 7) (Nat.le_of_ble_eq_true rfl)
  rw [lg_entry_eq]
  generalize (lg_sl ([.ref b]) ++ List.replicate (7 - (lg_sl ([.ref b])).length) Slot.unset).toArray = ls at hl ⊢
  have hl : lv_has ls 7 [(0, .ref b)] := hl
  have hgo := q9law_go (p := p) (e := e) (below := below) (meth := meth) (Q := q9lw_Z below #[Value.ref b] s) (R := room_1) (g := [.ref b, .int (Int32.ofNat L)]) hst rfl rfl hev hev0 hX hbl (hAn b hbl) (q9ofN hL) rfl rfl (fun H locs cells slots pc ls hc hs9 hlocs hdg => by
    refine va_forget (fun q hq => hAl _ (hlocs q hq)) ?_
    refine W.widen (k := 601024) (n := 7293034) hc hs9 ?_
    exact q9lw_ret hx hb hr hlocks hdg) (fun k => if k = 1 then .ref b else if k = 2 then .int (Int32.ofNat L) else .int 0)
  refine hgo [] [] s.heap [] ls [] ⟨?_, rfl, ?_, fun k t hk => ?_, q9no_mem, q9no_mem, q9no_mem, q9no_mem⟩ ⟨vp_nil, vd_nil, va_S.rf, ⟨rfl, fun q a t n h => by simp at h, fun i j a b n k h => by simp at h⟩, q9extG.rf, q9keepW.rf⟩
  · show lv_has ls 7 [(0, q9ev _ (1, 0))]
    rw [q9ev_zero]
    exact hl
  · show _ = [q9ev _ (1, 0), q9ev _ (2, 0)]
    rw [q9ev_zero, q9ev_zero]
    rfl
  · match k, hk with
    | 0, hk => cases hk; exact ⟨0, rfl, by decide, by decide⟩
    | 1, hk => cases hk; exact ⟨b, rfl⟩
    | 2, hk =>
      cases hk
      have h9 := q9ofN hL
      exact ⟨Int32.ofNat L, rfl, by show 0 ≤ (Int32.ofNat L).toInt; omega, by show (Int32.ofNat L).toInt ≤ 3584; omega⟩
    | k + 3, hk => exact absurd (List.getElem?_eq_some_iff.mp hk).1 (by show ¬ k + 3 < 3; omega)
