/-! what every contract here speaks of: the array classes, the words that no list carries, worlds cut out for a call -/
abbrev TY (cT : Nat → ClassId) : List (ClassId × FieldType) := [(cT 0, .int), (cT 1, .byte), (cT 2, .long), (cT 3, .boolean), (cT 4, .object "PuppetFilm$Puppet"), (cT 5, .object "PuppetFilm$Shot"), (cT 6, .object "PuppetFilm$Line")]
theorem ty_uni {U : State} {c1 c2 : ClassId} {ty : FieldType} (h1 : va_RA U c1 ty) (h2 : va_RA U c2 ty) : c1 = c2 := by
  cases ty with
  | object C =>
    obtain ⟨k1, m1, -, -, -, e1⟩ := h1
    obtain ⟨k2, m2, -, -, -, e2⟩ := h2
    exact Option.some.inj (e1.symm.trans e2)
  | _ => exact Option.some.inj (Eq.trans (Eq.symm h1) h2)
theorem ty_new {D : va_G} {cl : List vw_C} {tys : List (ClassId × FieldType)} {U : State} {cA c1 : ClassId} {ty : FieldType} (h : va_K D cl (tys ++ [(cA, ty)]) U) (i : Nat) (hi : tys[i]? = some (c1, ty)) : cA = c1 := by
  have hl : i < tys.length := (List.getElem?_eq_some_iff.mp hi).1
  refine ty_uni (h.2 tys.length (cA, ty) (by simp)).2 (h.2 i (c1, ty) ?_).2
  rw [List.getElem?_append_left hl]
  exact hi
theorem ty_cut {D : va_G} {cl : List vw_C} {tys t2 : List (ClassId × FieldType)} {U : State} (h : va_K D cl (tys ++ t2) U) : va_K D cl tys U := by
  refine ⟨h.1, fun k q hk => h.2 k q ?_⟩
  rw [List.getElem?_append_left (List.getElem?_eq_some_iff.mp hk).1]
  exact hk
/-- calls of a nest mate's own methods -/
def gwN : List (String × Nat × MethodName) := [(RX6, 11, yX10_init), (RX6, 48, yX2_init), (RX11, 50, yX0_init), (RX11, 80, yX5_init), (RX3, 41, yX11_entry), (RX8, 53, yX11_entry), (RX1, 114, yX11_within), (RX1, 78, yX11_entry), (RX1, 111, yX11_swapIn), (RX10, 58, yX11_within), (RX6, 186, yX11_within), (RX9, 111, yX11_swapIn), (RX9, 115, yX11_hasBit), (RX9, 182, yX11_entry), (RX9, 207, yX11_within), (RX7, 84, yX11_swapIn), (RX7, 77, yX11_entry), (RX7, 70, yX11_within), (RX7, 66, yX11_hasBit), (RX5, 46, yX11_entry), (RX7, 94, yX11_moveBit), (RX4, 91, yX11_hasBit), (RX4, 131, yX11_swapIn), (RX4, 53, yX11_entry), (RX0, 28, yX11_entry)]
def gwC : List (String × String) := [("java/lang/IllegalArgumentException", "java/lang/IllegalArgumentException"), ("java/lang/IndexOutOfBoundsException", "java/lang/IndexOutOfBoundsException"), ("java/util/NoSuchElementException", "java/util/NoSuchElementException"), ("java/lang/IllegalStateException", "java/lang/IllegalStateException")]
def gwX : List (String × String) := [("java/lang/IllegalArgumentException", "java/lang/IndexOutOfBoundsException"), ("java/lang/IllegalArgumentException", "java/util/NoSuchElementException"), ("java/lang/IndexOutOfBoundsException", "java/util/NoSuchElementException"), ("java/lang/IllegalStateException", "java/lang/IllegalArgumentException")]
def gwS : List (Nat × String) := [(413, "no such PUPPET"), (274, "none such"), (410, "no such SHOT"), (194, "another what"), (417, "no such UNIT"), (415, "no such frame"), (348, "the second frame is ahead of the first"), (137, "there are 12 SHOTS")]
def gwD : List String := ["java/lang/RuntimeException", "java/lang/Exception", "java/lang/Throwable"]
def gwB : List Cond := gwC.map (fun q => Cond.castable q.1 q.2) ++ gwD.map (fun n => Cond.declares (Bundle.initS n))
def GW (U : State) : Prop := (∀ q ∈ gwN, va_Nw (.methodLinkNest q.1 q.2.1 q.2.2 RX11) U) ∧ (∀ w ∈ gwB, w.before #[] U = true) ∧ (∀ q ∈ gwX, va_Nc q.1 q.2 U) ∧ (∀ q ∈ gwS, ∃ a, vk_R RX11 q.1 q.2 a U) ∧ va_AO "PuppetFilm$Puppet" U ∧ va_AO "PuppetFilm$Shot" U ∧ va_AO "PuppetFilm$Line" U
theorem gwB_tab : ∀ w ∈ gwB, w.onTables = true := by
  intro w hw
  rcases List.mem_append.mp hw with hw | hw
  · obtain ⟨q, -, rfl⟩ := List.mem_map.mp hw
    rfl
  · obtain ⟨q, -, rfl⟩ := List.mem_map.mp hw
    rfl
theorem GW.warm {s U : State} (hW : s.WarmedH U.vm) (h : GW s) : GW U := by
  obtain ⟨h1, h2, h3, h4, h5, h6, h7⟩ := h
  refine ⟨fun q hq => va_Nw.warmM hW (h1 q hq), fun w hw => ?_, fun q hq => va_Nc.moved hW.alike (h3 q hq), fun q hq => ?_, va_AO.moved hW.alike h5, va_AO.moved hW.alike h6, va_AO.moved hW.alike h7⟩
  · have h9 := h2 w hw
    rcases List.mem_append.mp hw with hw | hw
    · obtain ⟨q, hq, rfl⟩ := List.mem_map.mp hw
      refine va_tabs rfl (rfl : (s.setVm U.vm).vm = U.vm) ?_ (A := #[])
      rw [Cond.castable_setVm hW.alike]
      exact h9
    · obtain ⟨q, hq, rfl⟩ := List.mem_map.mp hw
      refine va_tabs rfl (rfl : (s.setVm U.vm).vm = U.vm) ?_ (A := #[])
      rw [Cond.declares_setVm hW.alike]
      exact h9
  · obtain ⟨a, ha⟩ := h4 q hq
    exact ⟨a, vk_R.warm hW ha⟩
theorem GW.same {s U : State} (hv : s.vm = U.vm) (h : GW s) : GW U := GW.warm (by rw [← hv]; exact State.WarmedH.refl s) h
/-- the two statics that a throw reads -/
def GZ (A : Nat → Prop) (U : State) (H : Heap) : Prop := vx_Zq Bundle.tN "UNASSIGNED_STACK" Bundle.steD A U H ∧ vx_Zq Bundle.tN "SUPPRESSED_SENTINEL" Bundle.listD A U H
theorem GZ.go {A A' : Nat → Prop} {s U : State} {H0 H : Heap} {locs : List Loc} (h : GZ A s H0) (hS : va_S A H0 H locs) (hvm : s.vm.Alike U.vm) (hA : ∀ q, A' q → A q) : GZ A' U H :=
  ⟨(vx_Zq.moved hvm (h.1.kept hS.2.1)).narrow hA, (vx_Zq.moved hvm (h.2.kept hS.2.1)).narrow hA⟩
/-- a callee's start, without and with what a throw reads -/
def PW (D : va_G) (cT : Nat → ClassId) (wc : va_W) (sz : Nat) (U : State) : Prop := U.heap.size = sz ∧ va_P D vwCl wc U.heap ∧ va_K D vwCl (TY cT) U ∧ va_D (fun _ => True) wc ∧ GW U
def PZ (D : va_G) (cT : Nat → ClassId) (wc : va_W) (sz : Nat) (U : State) : Prop := PW D cT wc sz U ∧ GZ (va_A wc sz) U U.heap
theorem pw_blind {D : va_G} {cT : Nat → ClassId} {wc : va_W} {sz : Nat} {av : List Value} : FrameBlind (va_Pc av (PW D cT wc sz)) := by
  intro a U g mk q
  obtain ⟨q0, q1, qP, qK, qD, qG⟩ := q
  exact ⟨q0, q1, qP, va_K.moved (u := U) (U := U.calling g mk a) (Vm.Alike.refl U.vm) qK, qD, GW.same (s := U) (U := U.calling g mk a) rfl qG⟩
theorem pz_blind {D : va_G} {cT : Nat → ClassId} {wc : va_W} {sz : Nat} {av : List Value} : FrameBlind (va_Pc av (PZ D cT wc sz)) := by
  intro a U g mk q
  obtain ⟨q0, ⟨q1, qP, qK, qD, qG⟩, qZ⟩ := q
  exact ⟨q0, ⟨q1, qP, va_K.moved (u := U) (U := U.calling g mk a) (Vm.Alike.refl U.vm) qK, qD, GW.same (s := U) (U := U.calling g mk a) rfl qG⟩, vx_Zq.moved (u := U) (U := U.calling g mk a) (Vm.Alike.refl U.vm) qZ.1, vx_Zq.moved (u := U) (U := U.calling g mk a) (Vm.Alike.refl U.vm) qZ.2⟩
section PS
variable {D : va_G} {cT : Nat → ClassId} {ws wc : va_W} {s : State} {H H0 : Heap} {A : Nat → Prop} {locs : List Loc} {As : List Value} {b : Nat}
theorem pw_at (hP : va_P D vwCl ws H) (hD : va_D A ws) (hK : va_K D vwCl (TY cT) s) (hG : GW s) (is : List Nat) (hs : is.filterMap (fun i => ws[i]?) = wc) (hm : is.map (fun i => ws[i]?) = wc.map some) (hn : va_nd is = true) : ∀ U : State, U.heap = H → s.WarmedH U.vm → PW D cT wc H.size U :=
  fun U hU hW => ⟨by rw [hU], by rw [hU]; exact hP.sub is hs, va_K.moved hW.alike hK, (hD.sub is hn hm).weaken (fun _ _ _ _ => trivial), GW.warm hW hG⟩
theorem ps_w (hP : va_P D vwCl ws H) (hD : va_D A ws) (hK : va_K D vwCl (TY cT) s) (hG : GW s) (is : List Nat) (hs : is.filterMap (fun i => ws[i]?) = wc) (hm : is.map (fun i => ws[i]?) = wc.map some) (hn : va_nd is = true) : PreS s H (va_Pc As (PW D cT wc H.size)) As :=
  ⟨pw_blind, fun U hU hW => ⟨rfl, pw_at hP hD hK hG is hs hm hn U hU hW⟩⟩
theorem pv_w (hP : va_P D vwCl ws H) (hD : va_D A ws) (hK : va_K D vwCl (TY cT) s) (hG : GW s) (is : List Nat) (hs : is.filterMap (fun i => ws[i]?) = wc) (hm : is.map (fun i => ws[i]?) = wc.map some) (hn : va_nd is = true) (k : Nat) {ci : Nat} {q : vw_C} {fs : List Value} (hc : vwCl[ci]? = some q) (he : ws[k]? = some (b, .inr (ci, fs))) : PreV s H q.1 b (va_Pc (.ref b :: As) (PW D cT wc H.size)) As :=
  ⟨pw_blind, va_recv hK hP hc he, fun U hU hW => ⟨rfl, pw_at hP hD hK hG is hs hm hn U hU hW⟩⟩
theorem ps_z (hP : va_P D vwCl ws H) (hD : va_D A ws) (hK : va_K D vwCl (TY cT) s) (hG : GW s) (hZ : GZ A s H0) (hS : va_S A H0 H locs) (hF : ∀ q, va_A wc H.size q → A q) (is : List Nat) (hs : is.filterMap (fun i => ws[i]?) = wc) (hm : is.map (fun i => ws[i]?) = wc.map some) (hn : va_nd is = true) : PreS s H (va_Pc As (PZ D cT wc H.size)) As :=
  ⟨pz_blind, fun U hU hW => ⟨rfl, pw_at hP hD hK hG is hs hm hn U hU hW, by rw [hU]; exact hZ.go hS hW.alike hF⟩⟩
theorem pv_z (hP : va_P D vwCl ws H) (hD : va_D A ws) (hK : va_K D vwCl (TY cT) s) (hG : GW s) (hZ : GZ A s H0) (hS : va_S A H0 H locs) (hF : ∀ q, va_A wc H.size q → A q) (is : List Nat) (hs : is.filterMap (fun i => ws[i]?) = wc) (hm : is.map (fun i => ws[i]?) = wc.map some) (hn : va_nd is = true) (k : Nat) {ci : Nat} {q : vw_C} {fs : List Value} (hc : vwCl[ci]? = some q) (he : ws[k]? = some (b, .inr (ci, fs))) : PreV s H q.1 b (va_Pc (.ref b :: As) (PZ D cT wc H.size)) As :=
  ⟨pz_blind, va_recv hK hP hc he, fun U hU hW => ⟨rfl, pw_at hP hD hK hG is hs hm hn U hU hW, by rw [hU]; exact hZ.go hS hW.alike hF⟩⟩
end PS
/-- a callee's end: its cells as they are then -/
def OW (D : va_G) (A : Nat → Prop) (ws : va_W) (t : State) : Prop := va_P D vwCl ws t.heap ∧ va_D A ws
/-- numbers -/
def wi (v lo hi : Int32) : Int32 := if lo ≤ v ∧ v ≤ hi then 1 else 0
def okI (n : Nat) (i : Int32) : Prop := 0 ≤ i ∧ i < nI n
def ent (f : Nat → Int32) (n : Nat) (i w : Int32) : Int32 := if 0 ≤ i ∧ i < nI n then f i.toNatClampNeg else w
def swp (f : Nat → Int32) (n : Nat) (i v : Int32) : Nat → Int32 := if 0 ≤ i ∧ i < nI n then upd f i.toNatClampNeg v else f
theorem vin_nI {i : Int32} {n : Nat} (hn : n < 2147483648) (h0 : 0 ≤ i) (h1 : i < nI n) : vp_in i n := by
  have e0 : (0 : Int32).toInt = 0 := rfl
  have e1 : (nI n).toInt = n := nI_toInt hn
  rw [Int32.le_iff_toInt_le, e0] at h0
  rw [Int32.lt_iff_toInt_lt, e1] at h1
  rintro (h | h)
  · rw [Int32.lt_iff_toInt_lt, e0] at h; omega
  · have : i.toNatClampNeg = i.toInt.toNat := rfl
    omega
theorem i_ge {x y : Int32} (h : ¬ x < y) : y ≤ x := by
  rw [Int32.lt_iff_toInt_lt] at h; rw [Int32.le_iff_toInt_le]; omega
theorem i_lt {x y : Int32} (h : ¬ y ≤ x) : x < y := by
  rw [Int32.le_iff_toInt_le] at h; rw [Int32.lt_iff_toInt_lt]; omega
theorem wi_01 (v lo hi : Int32) : wi v lo hi = 0 ∨ wi v lo hi = 1 := by
  unfold wi; split
  · exact Or.inr rfl
  · exact Or.inl rfl
theorem nar_z {v : Int32} (h : v = 0 ∨ v = 1) : narrow .boolean (.int v) = .int v := by
  rcases h with rfl | rfl <;> rfl
theorem vp_nil {D : va_G} {H : Heap} : va_P D vwCl [] H := fun k q h => by simp at h
theorem vd_nil {A : Nat → Prop} : va_D A [] := ⟨fun i j p q h => by simp at h, fun k q h => by simp at h⟩
theorem wi_no {v lo hi : Int32} (h : hi < lo) : wi v lo hi = 0 := by
  unfold wi
  refine if_neg fun g => ?_
  have g1 := g.1
  have g2 := g.2
  rw [Int32.le_iff_toInt_le] at g1 g2
  rw [Int32.lt_iff_toInt_lt] at h
  omega
theorem wi_1 {v lo hi : Int32} (h : ¬ wi v lo hi = 0) : wi v lo hi = 1 := (wi_01 v lo hi).resolve_left h
theorem wi_in {v lo hi : Int32} (h : ¬ wi v lo hi = 0) : lo ≤ v ∧ v ≤ hi := by
  unfold wi at h
  split at h
  · assumption
  · exact absurd rfl h
theorem wi_out {v lo hi : Int32} (h : wi v lo hi = 0) : ¬ (lo ≤ v ∧ v ≤ hi) := by
  intro g
  unfold wi at h
  rw [if_pos g] at h
  exact absurd h (by decide)
theorem wi_y {v lo hi : Int32} (h1 : lo ≤ v) (h2 : v ≤ hi) : wi v lo hi = 1 := if_pos ⟨h1, h2⟩
theorem wi_l {v lo hi : Int32} (h1 : ¬ lo ≤ v) : wi v lo hi = 0 := if_neg fun g => h1 g.1
theorem wi_h {v lo hi : Int32} (h1 : ¬ v ≤ hi) : wi v lo hi = 0 := if_neg fun g => h1 g.2
theorem i_nle {x y : Int32} (h : x < y) : ¬ y ≤ x := by
  rw [Int32.lt_iff_toInt_lt] at h; rw [Int32.le_iff_toInt_le]; omega
theorem gwB_any {U : State} (h : GW U) {args : Array Value} : ∀ w ∈ gwB, w.before args U = true := fun w hw => va_tabs (gwB_tab w hw) rfl (h.2.1 w hw)
theorem ne_toInt {x k : Int32} (h : ¬ x = k) : x.toInt ≠ k.toInt := fun e => h (Int32.toInt_inj.mp e)
