variable {O : ORC}
/-! a q9step is sound -/
theorem q9c8 {n : Int} (h1 : -128 ≤ n) (h2 : n ≤ 127) : (Int8.ofInt n).toInt32 = Int32.ofInt n := by
  apply Int32.toInt_inj.mp
  rw [Int8.toInt_toInt32, Int8.toInt_ofInt, q9ofInt_toInt32 (by omega) (by omega)]
  show n.bmod (2 ^ 8) = n
  exact Int.bmod_eq_of_le (by omega) (by omega)
theorem q9c16 {n : Int} (h1 : -32768 ≤ n) (h2 : n ≤ 32767) : (Int16.ofInt n).toInt32 = Int32.ofInt n := by
  apply Int32.toInt_inj.mp
  rw [Int16.toInt_toInt32, Int16.toInt_ofInt, q9ofInt_toInt32 (by omega) (by omega)]
  show n.bmod (2 ^ 16) = n
  exact Int.bmod_eq_of_le (by omega) (by omega)
theorem q9z32 {x : Int32} : x.toInt = 0 ↔ x = 0 := ⟨fun h => Int32.toInt_inj.mp (by rw [h, Int32.toInt_zero]), fun h => by rw [h, Int32.toInt_zero]⟩
section SO
variable {p : Program} {l : Launch} {e : Env} {R : Room} {ko : Nat × Nat} {s : State} {m : MethodId} {args : Array Value} {below : List Frame} {meth : Method} {c : Code} {Q : State → Prop} {cc : ByteArray}
theorem q9row_c2 (hx : p.tables.exec = Jvm.exec) (hb : c.code = cc) {i : Jvm.ClassFile.Instr} {k t pc : Nat} {o : Int} (hi : q9ccode i = some (k, o, true)) (hdg : decode cc pc = .ok (i, 3)) (ht : q9tgt pc o = some t) (u v : Int32) (H : Heap) (locs : List Loc) (cells slots : Nat) (ls : Array Slot) (rest : List Value)
    (kt : q9cmpZ k u.toInt v.toInt → W p l e R s m args below meth c H locs cells slots Q (F0 m t ls rest)) (kf : ¬ q9cmpZ k u.toInt v.toInt → W p l e R s m args below meth c H locs cells slots Q (F0 m (pc + 3) ls rest)) : W p l e R s m args below meth c H locs cells slots Q (F0 m pc ls (.int v :: .int u :: rest)) := by
  have ht' := q9tgt_ok ht
  unfold q9ccode at hi
  split at hi
  · cases hi
  · cases hi
  · cases hi
  · cases hi
  · cases hi
  · cases hi
  · cases hi
    exact lv_icmp_eq hx hb hdg ht' (fun h => kt (by rw [h]; rfl)) (fun h => kf (fun z => h (Int32.toInt_inj.mp z)))
  · cases hi
    exact lv_icmp_ne hx hb hdg ht' (fun h => kt (fun z => h (Int32.toInt_inj.mp z))) (fun h => kf (fun z => z (by rw [h])))
  · cases hi
    exact lv_icmp_lt hx hb hdg ht' (fun h => kt (Int32.lt_iff_toInt_lt.mp h)) (fun h => kf (fun z => h (Int32.lt_iff_toInt_lt.mpr z)))
  · cases hi
    exact lv_icmp_ge hx hb hdg ht' (fun h => kt (Int32.le_iff_toInt_le.mp h)) (fun h => kf (fun z => h (Int32.le_iff_toInt_le.mpr z)))
  · cases hi
    exact lv_icmp_gt hx hb hdg ht' (fun h => kt (Int32.lt_iff_toInt_lt.mp h)) (fun h => kf (fun z => h (Int32.lt_iff_toInt_lt.mpr z)))
  · cases hi
    exact lv_icmp_le hx hb hdg ht' (fun h => kt (Int32.le_iff_toInt_le.mp h)) (fun h => kf (fun z => h (Int32.le_iff_toInt_le.mpr z)))
  · cases hi
theorem q9lt0 {x : Int32} : x < 0 ↔ x.toInt < 0 := by rw [Int32.lt_iff_toInt_lt, Int32.toInt_zero]
theorem q9ge0 {x : Int32} : 0 ≤ x ↔ 0 ≤ x.toInt := by rw [Int32.le_iff_toInt_le, Int32.toInt_zero]
theorem q9gt0 {x : Int32} : 0 < x ↔ 0 < x.toInt := by rw [Int32.lt_iff_toInt_lt, Int32.toInt_zero]
theorem q9le0 {x : Int32} : x ≤ 0 ↔ x.toInt ≤ 0 := by rw [Int32.le_iff_toInt_le, Int32.toInt_zero]
theorem q9row_c1 (hx : p.tables.exec = Jvm.exec) (hb : c.code = cc) {i : Jvm.ClassFile.Instr} {k t pc : Nat} {o : Int} (hi : q9ccode i = some (k, o, false)) (hdg : decode cc pc = .ok (i, 3)) (ht : q9tgt pc o = some t) (u : Int32) (H : Heap) (locs : List Loc) (cells slots : Nat) (ls : Array Slot) (rest : List Value)
    (kt : q9cmpZ k u.toInt 0 → W p l e R s m args below meth c H locs cells slots Q (F0 m t ls rest)) (kf : ¬ q9cmpZ k u.toInt 0 → W p l e R s m args below meth c H locs cells slots Q (F0 m (pc + 3) ls rest)) : W p l e R s m args below meth c H locs cells slots Q (F0 m pc ls (.int u :: rest)) := by
  have ht' := q9tgt_ok ht
  unfold q9ccode at hi
  split at hi
  · cases hi
    exact lv_if_eq hx hb hdg ht' (fun h => kt (q9z32.mpr h)) (fun h => kf (fun z => h (q9z32.mp z)))
  · cases hi
    exact lv_if_ne hx hb hdg ht' (fun h => kt (fun z => h (q9z32.mp z))) (fun h => kf (fun z => z (q9z32.mpr h)))
  · cases hi
    exact lv_if_lt hx hb hdg ht' (fun h => kt (q9lt0.mp h)) (fun h => kf (fun z => h (q9lt0.mpr z)))
  · cases hi
    exact lv_if_ge hx hb hdg ht' (fun h => kt (q9ge0.mp h)) (fun h => kf (fun z => h (q9ge0.mpr z)))
  · cases hi
    exact lv_if_gt hx hb hdg ht' (fun h => kt (q9gt0.mp h)) (fun h => kf (fun z => h (q9gt0.mpr z)))
  · cases hi
    exact lv_if_le hx hb hdg ht' (fun h => kt (q9le0.mp h)) (fun h => kf (fun z => h (q9le0.mpr z)))
  · cases hi
  · cases hi
  · cases hi
  · cases hi
  · cases hi
  · cases hi
  · cases hi
theorem q9row_b (hx : p.tables.exec = Jvm.exec) (hb : c.code = cc) {i : Jvm.ClassFile.Instr} {o pc : Nat} (hi : q9bcode i = some o) (hdg : decode cc pc = .ok (i, 1)) (a b v : Value) (hv : q9exop O o a b = some v) (h1 : o = 3 ∨ o = 4 → ∃ y : Int32, b = .int y ∧ ¬ y = 0) (h2 : o = 23 → ∃ y : Int64, b = .long y ∧ ¬ y = 0) : q9RW p l e R s m args below meth c Q pc (pc + 1) [b, a] [v] := by
  intro H locs cells slots ls rest k
  have k : W p l e R s m args below meth c H locs cells slots Q (F0 m (pc + 1) ls (v :: rest)) := k
  show W p l e R s m args below meth c H locs cells slots Q (F0 m pc ls (b :: a :: rest))
  unfold q9bcode at hi
  split at hi
  · cases hi
    match a, b, hv with
    | .int a, .int b, hv => cases hv; exact lv_imul hx hb hdg k
  · cases hi
    match a, b, hv, h1 with
    | .int a, .int b, hv, h1 =>
      cases hv
      obtain ⟨y, e1, e2⟩ := h1 (.inl rfl)
      cases e1
      exact lv_idiv hx hb hdg e2 k
  · cases hi
    match a, b, hv, h1 with
    | .int a, .int b, hv, h1 =>
      cases hv
      obtain ⟨y, e1, e2⟩ := h1 (.inr rfl)
      cases e1
      exact lv_irem hx hb hdg e2 k
  · cases hi
    match a, b, hv with
    | .int a, .int b, hv => cases hv; exact lv_iand hx hb hdg k
  · cases hi
    match a, b, hv with
    | .int a, .int b, hv => cases hv; exact lv_ior hx hb hdg k
  · cases hi
    match a, b, hv with
    | .int a, .int b, hv => cases hv; exact lv_ixor hx hb hdg k
  · cases hi
    match a, b, hv with
    | .int a, .int b, hv => cases hv; exact lv_ishl hx hb hdg k
  · cases hi
    match a, b, hv with
    | .int a, .int b, hv => cases hv; exact lv_ishr hx hb hdg k
  · cases hi
    match a, b, hv with
    | .int a, .int b, hv => cases hv; exact lv_iushr hx hb hdg rfl k
  · cases hi
    match a, b, hv with
    | .long a, .long b, hv => cases hv; exact lv_ladd hx hb hdg k
  · cases hi
    match a, b, hv with
    | .long a, .long b, hv => cases hv; exact lv_lsub hx hb hdg k
  · cases hi
    match a, b, hv with
    | .long a, .long b, hv => cases hv; exact lv_lmul hx hb hdg k
  · cases hi
    match a, b, hv, h2 with
    | .long a, .long b, hv, h2 =>
      cases hv
      obtain ⟨y, e1, e2⟩ := h2 rfl
      cases e1
      exact lv_ldiv hx hb hdg e2 k
  · cases hi
    match a, b, hv with
    | .long a, .long b, hv => cases hv; exact W.lcmp hx hb hdg k
  · cases hi
    match a, b, hv with
    | .long a, .long b, hv => cases hv; exact lv_lxor hx hb hdg k
  · cases hi
theorem q9row_u (hx : p.tables.exec = Jvm.exec) (hb : c.code = cc) {i : Jvm.ClassFile.Instr} {o pc : Nat} (hi : q9ucode i = some o) (hdg : decode cc pc = .ok (i, 1)) (a v : Value) (hv : q9exop O o a a = some v) : q9RW p l e R s m args below meth c Q pc (pc + 1) [a] [v] := by
  intro H locs cells slots ls rest k
  have k : W p l e R s m args below meth c H locs cells slots Q (F0 m (pc + 1) ls (v :: rest)) := k
  show W p l e R s m args below meth c H locs cells slots Q (F0 m pc ls (a :: rest))
  unfold q9ucode at hi
  split at hi
  · cases hi
    match a, hv with
    | .int a, hv => cases hv; exact lv_ineg hx hb hdg k
  · cases hi
    match a, hv with
    | .int a, hv => cases hv; exact lv_i2l hx hb hdg rfl k
  · cases hi
    match a, hv with
    | .long a, hv => cases hv; exact lv_l2i hx hb hdg rfl k
  · cases hi
    match a, hv with
    | .int a, hv => cases hv; exact lv_i2b hx hb hdg rfl k
  · cases hi
theorem q9tyI {G : q9GH} {t : q9ET} {v : Value} (hk : q9isI t.1 = true) (h : q9tyV G t v ∨ (t.1 = 0 ∧ ∃ y : Int32, v = .int y)) : ∃ y : Int32, v = .int y := by
  have h0 : t.1 = 0 := by simpa [q9isI_oq, q9isI_o] using hk
  rcases h with h | ⟨-, h⟩
  · obtain ⟨k, lo, hi⟩ := t
    have h0 : k = 0 := h0
    subst h0
    obtain ⟨y, e, -⟩ := h
    exact ⟨y, e⟩
  · exact h
theorem q9tyJ {G : q9GH} {t : q9ET} {v : Value} (hk : q9isJ t.1 = true) (h : q9tyV G t v ∨ (t.1 = 0 ∧ ∃ y : Int32, v = .int y)) : ∃ y : Int64, v = .long y := by
  have h0 : t.1 = 1 := by simpa [q9isJ_oq, q9isJ_o] using hk
  rcases h with h | ⟨h1, -⟩
  · obtain ⟨k, lo, hi⟩ := t
    have h0 : k = 1 := h0
    subst h0
    obtain ⟨y, e, -⟩ := h
    exact ⟨y, e⟩
  · omega
theorem q9tyR {G : q9GH} {t : q9ET} {v : Value} (hk : q9isA t.1 = true) (h : q9tyV G t v ∨ (t.1 = 0 ∧ ∃ y : Int32, v = .int y)) : v = .null ∨ ∃ a : Nat, v = .ref a := by
  have h0 : t.1 = 2 ∨ t.1 = 3 ∨ t.1 = 4 ∨ t.1 = 5 := by simpa [q9isA_oq, q9isA_o] using hk
  rcases h with h | ⟨h1, -⟩
  · obtain ⟨k, lo, hi⟩ := t
    have h0 : k = 2 ∨ k = 3 ∨ k = 4 ∨ k = 5 := h0
    rcases h0 with rfl | rfl | rfl | rfl
    · obtain ⟨a, n, e, -⟩ := h
      exact .inr ⟨a, e⟩
    · rcases h with h | ⟨a, n, e, -⟩
      · exact .inl h
      · exact .inr ⟨a, e⟩
    · exact .inl h
    · obtain ⟨a, e⟩ := h
      exact .inr ⟨a, e⟩
  · omega
variable {nL : Nat} {g : List Value} {D : va_G} {cT : Nat → ClassId} {B : q9TB} {A : Nat → Prop} {H0 : Heap} {G0 : q9GH} {ws0 : va_W} {Wr : List Nat} {WP : q9GH → va_W → Heap → List Loc → Prop}
theorem q9exDup_ok (hx : p.tables.exec = Jvm.exec) (hb : c.code = cc) {x : q9ST} {r : Nat → Value} {pc : Nat} {ss : List (Nat × q9ST)} (hw : q9wfB x = true) (hdg : decode cc pc = .ok (.dup, 1)) (h : q9exDup x (pc + 1) = some ss) (hn : q9NX O p l e R ko s m args below meth c Q nL g WP ss x r) : q9GO O p l e R ko s m args below meth c Q nL g WP pc x r := by
  unfold q9exDup at h
  split at h
  · rename_i a rest hT
    split at h
    · rename_i ho
      cases h
      intro G ws H locs ls st hM hW
      have k := hn.one q9agr.rf (Nat.le_refl _) G ws H locs ls _ (hM.S (a :: a :: rest)) hW
      have hst := hM.2.1
      rw [hT, List.map_cons] at hst
      rw [hst]
      have hcat : (q9ev r a).category = 1 := by
        (rewrite [q9oneB_oq] at ho; unfold q9oneB_o at ho)
        cases hE : (q9tE x)[a.1]? with
        | none => rw [hE] at ho; cases ho
        | some t =>
          rw [hE] at ho
          exact q9cat_ev hM.2.2.2.1 hE (by simpa using ho) (q9wf_S hw a (by rw [hT]; exact List.mem_cons_self))
      exact lv_dup hx hb hdg hcat k
    · cases h
  · cases h
theorem q9exDup2_ok (hx : p.tables.exec = Jvm.exec) (hb : c.code = cc) {x : q9ST} {r : Nat → Value} {pc : Nat} {ss : List (Nat × q9ST)} (hw : q9wfB x = true) (hdg : decode cc pc = .ok (.dup2, 1)) (h : q9exDup2 x (pc + 1) = some ss) (hn : q9NX O p l e R ko s m args below meth c Q nL g WP ss x r) : q9GO O p l e R ko s m args below meth c Q nL g WP pc x r := by
  (rewrite [q9exDup2_oq] at h; unfold q9exDup2_o at h)
  split at h
  · rename_i b a rest hT
    split at h
    · rename_i ho
      cases h
      rw [Bool.and_eq_true] at ho
      intro G ws H locs ls st hM hW
      have k := hn.one q9agr.rf (Nat.le_refl _) G ws H locs ls _ (hM.S (b :: a :: b :: a :: rest)) hW
      have hst := hM.2.1
      rw [hT, List.map_cons, List.map_cons] at hst
      rw [hst]
      have hcat : ∀ z ∈ q9tS x, q9oneB (q9tE x) z = true → (q9ev r z).category = 1 := by
        intro z hz ho
        (rewrite [q9oneB_oq] at ho; unfold q9oneB_o at ho)
        cases hE : (q9tE x)[z.1]? with
        | none => rw [hE] at ho; cases ho
        | some t =>
          rw [hE] at ho
          exact q9cat_ev hM.2.2.2.1 hE (by simpa using ho) (q9wf_S hw z hz)
      exact lv_dup2_11 hx hb hdg (hcat b (by rw [hT]; exact List.mem_cons_self) ho.2) (hcat a (by rw [hT]; exact List.mem_cons_of_mem _ List.mem_cons_self) ho.1) k
    · cases h
  · cases h
theorem q9exPop_ok (hx : p.tables.exec = Jvm.exec) (hb : c.code = cc) {x : q9ST} {r : Nat → Value} {pc : Nat} {ss : List (Nat × q9ST)} (hw : q9wfB x = true) (hdg : decode cc pc = .ok (.pop, 1)) (h : q9exPop x (pc + 1) = some ss) (hn : q9NX O p l e R ko s m args below meth c Q nL g WP ss x r) : q9GO O p l e R ko s m args below meth c Q nL g WP pc x r := by
  unfold q9exPop at h
  split at h
  · rename_i a rest hT
    split at h
    · rename_i ho
      cases h
      intro G ws H locs ls st hM hW
      have k := hn.one q9agr.rf (Nat.le_refl _) G ws H locs ls _ (hM.S rest) hW
      have hst := hM.2.1
      rw [hT, List.map_cons] at hst
      rw [hst]
      have hcat : (q9ev r a).category = 1 := by
        (rewrite [q9oneB_oq] at ho; unfold q9oneB_o at ho)
        cases hE : (q9tE x)[a.1]? with
        | none => rw [hE] at ho; cases ho
        | some t =>
          rw [hE] at ho
          exact q9cat_ev hM.2.2.2.1 hE (by simpa using ho) (q9wf_S hw a (by rw [hT]; exact List.mem_cons_self))
      exact lv_pop hx hb hdg hcat k
    · cases h
  · cases h
theorem q9lk_at {L : List (Nat × q9AV)} {i : Nat} {a : q9AV} (h : q9lk L i = some a) : ∃ k : Nat, L[k]? = some (i, a) := List.getElem?_of_mem (q9lk_mem h)
theorem q9exInc_ok (hx : p.tables.exec = Jvm.exec) (hb : c.code = cc) {x : q9ST} {r : Nat → Value} {i pc : Nat} {d : Int} {ss : List (Nat × q9ST)} (hw : q9wfB x = true) (hdg : decode cc pc = .ok (.iinc i d, 3)) (h : q9exInc x i nL d (pc + 3) = some ss) (hn : q9NX O p l e R ko s m args below meth c Q nL g WP ss x r) : q9GO O p l e R ko s m args below meth c Q nL g WP pc x r := by
  (rewrite [q9exInc_oq] at h; unfold q9exInc_o at h)
  split at h
  · rename_i a ha
    split at h
    · rename_i b hb'
      split at h
      · rename_i hi
        cases h
        intro G ws H locs ls st hM hW
        obtain ⟨y, e1, e2⟩ := q9addc_ok hM.2.2.2.1 (q9wf_L hw _ (q9lk_mem ha)) hb'
        obtain ⟨k, hk⟩ := q9lk_at ha
        refine lv_iinc hx hb hdg hM.1 (k := k) (x := y) (by rw [List.getElem?_map, hk]; show some (i, q9ev r a) = _; rw [e1]) rfl hi rfl fun ls' hl => ?_
        have h9 := q9stL_ok (i := i) (a := b) (q9two := false) hw hM hl (fun q hq => by
          rw [e2] at hq
          simpa using hq)
        exact hn.one q9agr.rf (Nat.le_refl _) G ws H locs ls' _ h9 hW
      · cases h
    · cases h
  · cases h
theorem q9exNull_ok (hx : p.tables.exec = Jvm.exec) (hb : c.code = cc) {x : q9ST} {r : Nat → Value} {pc : Nat} {ss : List (Nat × q9ST)} (hw : q9wfB x = true) (hdg : decode cc pc = .ok (.aconst_null, 1)) (h : q9exNull x (pc + 1) = some ss) (hn : q9NX O p l e R ko s m args below meth c Q nL g WP ss x r) : q9GO O p l e R ko s m args below meth c Q nL g WP pc x r := by
  (rewrite [q9exNull_oq] at h; unfold q9exNull_o at h)
  cases h
  intro G ws H locs ls st hM hW
  have ag : q9agr (q9tE x).length r (q9up r (q9tE x).length .null) := fun k hk => q9up_lt hk
  have h9 := hM.fresh hw (t := (4, 0, 0)) (v := .null) rfl
  have k := hn.one ag (by show _ ≤ (q9tE x ++ [_]).length; rw [List.length_append]; omega) G ws H locs ls _ (h9.S (((q9tE x).length, 0) :: q9tS x)) hW
  rw [List.map_cons, q9ev_zero, q9up_at, ag.map (q9wf_S hw), ← hM.2.1] at k
  exact lv_null hx hb hdg k
theorem q9exLong_ok {x : q9ST} {r : Nat → Value} {pc pc' : Nat} {n : Int} {v : Int64} {ss : List (Nat × q9ST)} (hw : q9wfB x = true) (hv : v.toInt = n) (h : q9exLong x n pc' = some ss) (hn : q9NX O p l e R ko s m args below meth c Q nL g WP ss x r) (row : q9RW p l e R s m args below meth c Q pc pc' [] [.long v]) : q9GO O p l e R ko s m args below meth c Q nL g WP pc x r := by
  (rewrite [q9exLong_oq] at h; unfold q9exLong_o at h)
  cases h
  intro G ws H locs ls st hM hW
  have ag : q9agr (q9tE x).length r (q9up r (q9tE x).length (.long v)) := fun k hk => q9up_lt hk
  have h9 := hM.fresh hw (t := (1, n, n)) (v := .long v) ⟨v, rfl, by rw [hv]; exact Int.le_refl _, by rw [hv]; exact Int.le_refl _⟩
  have k := hn.one ag (by show _ ≤ (q9tE x ++ [_]).length; rw [List.length_append]; omega) G ws H locs ls _ (h9.S (((q9tE x).length, 0) :: q9tS x)) hW
  rw [List.map_cons, q9ev_zero, q9up_at, ag.map (q9wf_S hw), ← hM.2.1] at k
  exact row H locs _ _ ls st k
theorem q9tys_at {cT : Nat → ClassId} {G : q9GH} {k : q9AK} {n : Nat} {ce : va_E} (h : q9tyA cT G k n ce) (hk : k.1 < 7) : ∃ (x : vp_A) (ty : FieldType), ce = .inl (cT k.1, x) ∧ x.1 = n ∧ (TY cT)[k.1]? = some (cT k.1, ty) := by
  obtain ⟨t, N, b, et⟩ := k
  obtain ⟨-, -, h⟩ := h
  match t, h, hk with
  | 0, ⟨f, e, _⟩, _ => exact ⟨_, _, e, rfl, rfl⟩
  | 1, ⟨f, e, _⟩, _ => exact ⟨_, _, e, rfl, rfl⟩
  | 2, ⟨f, e, _⟩, _ => exact ⟨_, _, e, rfl, rfl⟩
  | 3, ⟨f, e, _⟩, _ => exact ⟨_, _, e, rfl, rfl⟩
  | 4, ⟨f, e, _⟩, _ => exact ⟨_, _, e, rfl, rfl⟩
  | 5, ⟨f, e, _⟩, _ => exact ⟨_, _, e, rfl, rfl⟩
  | 6, ⟨f, e, _⟩, _ => exact ⟨_, _, e, rfl, rfl⟩
  | _ + 7, _, hk => exact absurd hk (by show ¬ _ + 7 < 7; omega)
theorem q9exLen_ok (hx : p.tables.exec = Jvm.exec) (hb : c.code = cc) (hK : va_K D vwCl (TY cT) s) (hKA : ∀ k ∈ B.2.1, k.1 < 7) {x : q9ST} {r : Nat → Value} {pc : Nat} {ss : List (Nat × q9ST)} (hw : q9wfB x = true) (hdg : decode cc pc = .ok (.arraylength, 1)) (h : q9exLen B x (pc + 1) = some ss) (hn : q9NX O p l e R ko s m args below meth c Q nL g (q9WM D cT B A H0 G0 ws0 Wr) ss x r) : q9GO O p l e R ko s m args below meth c Q nL g (q9WM D cT B A H0 G0 ws0 Wr) pc x r := by
  (rewrite [q9exLen_oq] at h; unfold q9exLen_o at h)
  split at h
  · rename_i a rest hT
    split at h
    · rename_i cd k hk
      intro G ws H locs ls st hM hW
      have hW' := hW
      obtain ⟨hP, hD, hS, hTy, hX, hKe⟩ := hW
      obtain ⟨b, n, qi, ce, k1, k2, k3, k4, k5, k6, k7⟩ := q9kindOf_ok hM.2.2.2.1 hTy hk
      have ea : q9ev r a = .ref b := by
        unfold q9ev
        rw [k1]
      obtain ⟨xx, ty, e1, e2, e3⟩ := q9tys_at k5 (hKA k (List.mem_of_getElem? k6))
      subst e1
      have hst := hM.2.1
      rw [hT, List.map_cons, ea] at hst
      rw [hst]
      split at h
      · rename_i hf
        split at h
        · rename_i hz
          cases h
          rw [Bool.and_eq_true, decide_eq_true_eq] at hz
          refine va_alen (v := Int32.ofInt (k.2.1 : Int)) hx hb hK hP qi k.1 k4 e3 ?_ hdg ?_
          · rw [e2, k5.2.1 hf]
            rfl
          · have kk := hn.one q9agr.rf (Nat.le_refl _) G ws H locs ls _ (hM.S ((0, (k.2.1 : Int)) :: rest)) hW'
            rw [List.map_cons, q9zero_ev hM.2.2.2.1 (q9zero_at hz.1)] at kk
            exact kk
        · cases h
      · split at h
        · rename_i q hq
          cases h
          have q1 := List.find?_some hq
          have q2 := List.mem_of_find?_eq_some hq
          simp only [Bool.and_eq_true, beq_iff_eq] at q1
          have h9 := hM.2.2.2.2.1 q q2
          unfold q9FMok at h9
          rw [if_pos q1.2, q1.1, k1] at h9
          obtain ⟨a', cd', n', z, f1, f2, f3, f4⟩ := h9
          cases f1
          have hnn := (hTy.one hD f2 k2).2
          subst hnn
          refine va_alen (v := z) hx hb hK hP qi k.1 k4 e3 ?_ hdg ?_
          · rw [e2]
            apply Int32.toInt_inj.mp
            rw [f4]
            have b2 := Int32.toInt_lt z
            show (Int32.ofInt (n' : Int)).toInt = _
            exact q9ofInt_toInt32 (by omega) (by omega)
          · have kk := hn.one q9agr.rf (Nat.le_refl _) G ws H locs ls _ (hM.S (q.2.2 :: rest)) hW'
            rw [List.map_cons, f3] at kk
            exact kk
        · split at h
          · rename_i hN
            cases h
            have hnN : n ≤ k.2.1 := k5.1
            have hz : (Int32.ofInt (n : Int)).toInt = n := q9ofInt_toInt32 (by omega) (by omega)
            have hv : q9tyV G (0, 0, (k.2.1 : Int)) (.int (Int32.ofInt (n : Int))) := ⟨_, rfl, by rw [hz]; show (0 : Int) ≤ _; omega, by rw [hz]; show (n : Int) ≤ (k.2.1 : Int); omega⟩
            have ag : q9agr (q9tE x).length r (q9up r (q9tE x).length (.int (Int32.ofInt (n : Int)))) := fun k hk => q9up_lt hk
            have h9 := hM.fresh hw hv
            have h8 := h9.F (F := (a.1, 1000, ((q9tE x).length, 0)) :: q9tF x) fun z hz9 => by
              rcases List.mem_cons.mp hz9 with rfl | hz9
              · unfold q9FMok
                rw [if_pos rfl]
                refine ⟨b, cd, n, Int32.ofInt (n : Int), ?_, k2, ?_, hz⟩
                · rw [ag _ (q9okAV_lt (q9wf_S hw a (by rw [hT]; exact List.mem_cons_self)))]
                  exact k1
                · dsimp only
                  rw [q9ev_zero, q9up_at]
              · exact h9.2.2.2.2.1 z hz9
            refine va_alen (v := Int32.ofInt (n : Int)) hx hb hK hP qi k.1 k4 e3 ?_ hdg ?_
            · rw [e2]
              rfl
            · have kk := hn.one ag (by show _ ≤ (q9tE x ++ [_]).length; rw [List.length_append]; omega) G ws H locs ls _ (h8.S (((q9tE x).length, 0) :: rest)) hW'
              rw [List.map_cons, q9ev_zero, q9up_at, ag.map fun z hz9 => q9wf_S hw z (by rw [hT]; exact List.mem_cons_of_mem _ hz9)] at kk
              exact kk
          · cases h
    · cases h
  · cases h
end SO
