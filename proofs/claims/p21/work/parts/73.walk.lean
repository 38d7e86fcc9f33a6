variable {O : ORC}
/-! the whole q9step, and what a method's walk gives: its contract -/
section q9ST
variable {p : Program} {l : Launch} {e : Env} {R : Room} {ko : Nat × Nat} {s : State} {m : MethodId} {args : Array Value} {below : List Frame} {meth : Method} {c : Code} {Q : State → Prop} {cc : ByteArray}
variable {g : List Value} {D : va_G} {cT : Nat → ClassId} {A : Nat → Prop} {H0 : Heap} {G0 : q9GH} {ws0 : va_W}
theorem q9exTab_ok {nL : Nat} {WP : q9GH → va_W → Heap → List Loc → Prop} (hx : p.tables.exec = Jvm.exec) (hb : c.code = cc) {x : q9ST} {r : Nat → Value} {pc len : Nat} {d lo hi : Int} {offs : Array Int} {ss : List (Nat × q9ST)} (hw : q9wfB x = true) (hdg : decode cc pc = .ok (.tableswitch d lo hi offs, len)) (h : q9exTab x pc d lo hi offs.toList = some ss) (hn : q9NX O p l e R ko s m args below meth c Q nL g WP ss x r) : q9GO O p l e R ko s m args below meth c Q nL g WP pc x r := by
  (rewrite [q9exTab_oq] at h; unfold q9exTab_o at h)
  split at h
  · rename_i a rest hT
    split at h
    · rename_i hc
      simp only [Bool.and_eq_true, decide_eq_true_eq] at hc
      obtain ⟨c1, c2, c3, c4, c5, c6⟩ := hc
      split at h
      · rename_i t ss' ht hs
        cases h
        intro G ws H locs ls st hM hW
        have ha : q9okAV (q9tE x) a = true := q9wf_S hw a (by rw [hT]; exact List.mem_cons_self)
        obtain ⟨u, eu⟩ := q9isInt_ok hM.2.2.2.1 ha c1
        have hst := hM.2.1
        rw [hT, List.map_cons, eu] at hst
        rw [hst]
        have h9 := hM.S rest
        have ek : ∀ k : Int, -2147483648 ≤ k → k ≤ 2147483647 → q9nv (q9ev r (0, k)) = k := fun k k1 k2 => by
          rw [q9zero_ev hM.2.2.2.1 (q9zero_at c2) k]
          exact q9nv32 k1 k2
        by_cases h1 : u.toInt < lo
        · refine lv_tableOut hx hb hdg (.inl h1) (q9tgt_ok ht) ?_
          obtain ⟨x', e1, m1⟩ := q9rf2_ok h9 (k := 2) (a := a) (b := (0, lo)) ha (q9ok0 c2 c3 (by omega)) (by rw [eu, ek lo c3 (by omega)]; exact h1)
          exact q9go_opt (x0 := q9sS x rest) hn (fun q hq => List.mem_append_left _ hq) rfl e1 h9 m1 hW rfl rfl
        · by_cases h2 : hi < u.toInt
          · refine lv_tableOut hx hb hdg (.inr h2) (q9tgt_ok ht) ?_
            obtain ⟨x', e1, m1⟩ := q9rf2_ok h9 (k := 4) (a := a) (b := (0, hi)) ha (q9ok0 c2 (by omega) c4) (by rw [eu, ek hi (by omega) c4]; exact h2)
            exact q9go_opt (x0 := q9sS x rest) hn (fun q hq => List.mem_append_right _ (List.mem_append_left _ hq)) rfl e1 h9 m1 hW rfl rfl
          · have key : ∀ (os : List Int) (k : Int) (sk : List (Nat × q9ST)), q9tabL (q9sS x rest) a pc os k = some sk → -2147483648 ≤ k → k + os.length ≤ 2147483648 → ∀ j : Nat, u.toInt = k + j → j < os.length → ∃ (o : Int) (t' : Nat) (x' : q9ST), os[j]? = some o ∧ q9tgt pc o = some t' ∧ (t', x') ∈ sk ∧ q9more G r (q9sS x rest) x' := by
              intro os
              induction os with
              | nil => intro k sk _ _ _ j _ hj; simp at hj
              | cons o os ih =>
                intro k sk hk k1 k2 j hj hjl
                unfold q9tabL at hk
                split at hk
                · rename_i t' s' e1 e2
                  cases hk
                  rw [List.length_cons] at k2 hjl
                  cases j with
                  | zero =>
                    obtain ⟨x', f1, m1⟩ := q9rf2_ok h9 (k := 0) (a := a) (b := (0, k)) ha (q9ok0 c2 k1 (by omega)) (by rw [eu, ek k k1 (by omega)]; show u.toInt = k; omega)
                    exact ⟨o, t', x', rfl, e1, List.mem_append_left _ (by rw [f1]; exact List.mem_cons_self), m1⟩
                  | succ j =>
                    obtain ⟨o', t2, x', f1, f2, f3, f4⟩ := ih (k + 1) s' e2 (by omega) (by omega) j (by omega) (by omega)
                    exact ⟨o', t2, x', f1, f2, List.mem_append_right _ f3, f4⟩
                · cases hk
            have hlen : lo + (offs.toList.length : Int) = hi + 1 := c5
            obtain ⟨o, t', x', f1, f2, f3, f4⟩ := key offs.toList lo ss' hs c3 (by omega) (u.toInt - lo).toNat (by omega) (by omega)
            refine lv_tableIn hx hb hdg h1 h2 (off := o) (by rw [← Array.getElem?_toList]; exact f1) (q9tgt_ok f2) ?_
            obtain ⟨m1, m2, m3, m4⟩ := f4.len
            have k := hn (t', x') (List.mem_append_right _ (List.mem_append_right _ f3)) r q9agr.rf (by rw [m1]; exact Nat.le_refl _) G ws H locs ls _ (q9more.SM h9 f4) hW
            rw [m3, m4] at k
            exact k
      · cases h
    · cases h
  · cases h
theorem q9nar8 {u : Int32} (h1 : -128 ≤ u.toInt) (h2 : u.toInt ≤ 127) : u.toInt8.toInt32 = u := by
  apply Int32.toInt_inj.mp
  rw [Int8.toInt_toInt32, Int32.toInt_toInt8]
  exact Int.bmod_eq_of_le (by omega) (by omega)
theorem q9nar1 {u : Int32} (h1 : 0 ≤ u.toInt) (h2 : u.toInt ≤ 1) : u &&& 1 = u := by
  have h : u.toInt = 0 ∨ u.toInt = 1 := by omega
  rcases h with h | h
  · have e : u = 0 := Int32.toInt_inj.mp (by rw [h]; rfl)
    rw [e]
    rfl
  · have e : u = 1 := Int32.toInt_inj.mp (by rw [h]; rfl)
    rw [e]
    rfl
theorem q9narB1 {G : q9GH} {N : Nat} {fx : Bool} {et : q9ET} {u : Int32} (h : q9narB (1, N, fx, et) = true) (hv : q9tyV G et (.int u)) : -128 ≤ u.toInt ∧ u.toInt ≤ 127 := by
  (rewrite [q9narB_oq] at h; unfold q9narB_o at h)
  rw [if_pos rfl] at h
  simp only [Bool.and_eq_true, beq_iff_eq, decide_eq_true_eq] at h
  have := q9tyV_num hv (.inl h.1)
  have e : q9nv (.int u) = u.toInt := rfl
  omega
theorem q9narB3 {G : q9GH} {N : Nat} {fx : Bool} {et : q9ET} {u : Int32} (h : q9narB (3, N, fx, et) = true) (hv : q9tyV G et (.int u)) : 0 ≤ u.toInt ∧ u.toInt ≤ 1 := by
  (rewrite [q9narB_oq] at h; unfold q9narB_o at h)
  rw [if_neg (by simp), if_pos rfl] at h
  simp only [Bool.and_eq_true, beq_iff_eq, decide_eq_true_eq] at h
  have := q9tyV_num hv (.inl h.1)
  have e : q9nv (.int u) = u.toInt := rfl
  omega
theorem q9lc2 (k : Fin 2) : (Int64.ofNat (k : Nat)).toInt = ((k : Nat) : Int) := by
  match k with
  | 0 => rfl
  | 1 => rfl
/-- what a method's walk rests on -/
theorem q9exGS_ok {nL : Nat} {B : q9TB} {Wr : List Nat} {own : String} {K : List (Nat × Nat)} (hx : p.tables.exec = Jvm.exec) (hb : c.code = cc) (hown : s.vm.findClass own = some m.cls) (hMT : ∀ q ∈ K, ∀ w ∈ q9MTw own q, w.before args s = true) {z : q9ZZ} (hH : H0 = s.heap) (hZz : q9SD z A s H0) (hzG : True)
    {x : q9ST} {r : Nat → Value} {idx pc : Nat} {ss : List (Nat × q9ST)} (hw : q9wfB x = true) (hdg : decode cc pc = .ok (.getstatic idx, 3)) (h : q9exGS K x idx (pc + 3) = some ss) (hn : q9NX O p l e R ko s m args below meth c Q nL g (q9WM D cT B A H0 G0 ws0 Wr) ss x r) : q9GO O p l e R ko s m args below meth c Q nL g (q9WM D cT B A H0 G0 ws0 Wr) pc x r := by
  (rewrite [q9exGS_oq] at h; unfold q9exGS_o at h)
  split at h
  · rename_i q hq
    split at h
    · rename_i h100
      cases h
      have q1 := List.find?_some hq
      simp only [beq_iff_eq] at q1
      have hC := hMT q (List.mem_of_find?_eq_some hq)
      obtain ⟨i9, k9⟩ := q
      have h100 : k9 = 100 := h100
      have q1 : i9 = idx := q1
      subst h100
      subst q1
      intro G ws H locs ls st hM hW
      have hSv : va_S A H0 H locs := hW.2.2.1
      have hX : q9extG G0 G := hW.2.2.2.2.1
      have ag : q9agr (q9tE x).length r (q9up r (q9tE x).length (.ref z.1)) := fun k hk => q9up_lt hk
      have ht : q9tyV G (5, 0, 0) (.ref z.1) := ⟨z.1, rfl⟩
      have h9 := hM.fresh hw ht
      have k := hn.one ag (by show _ ≤ (q9tE x ++ [_]).length; rw [List.length_append]; omega) G ws H locs ls _ (h9.S (((q9tE x).length, 0) :: q9tS x)) hW
      rw [List.map_cons, q9ev_zero, q9up_at, ag.map (q9wf_S hw), ← hM.2.1] at k
      have hZ1 := hZz.1.1
      rw [hH] at hZ1 hSv
      exact va_gets hx hb hZ1 hSv hown (hC _ (by simp [q9MTw])) (fun _ h => h) hdg k
    · cases h
  · cases h
noncomputable def q9EV (O : ORC) (p : Program) (l : Launch) (R : Room) (ko : Nat × Nat) (s : State) (m : MethodId) (args : Array Value) (c : Code) (cc : ByteArray) (D : va_G) (cT : Nat → ClassId) (A : Nat → Prop) (H0 : Heap) (G0 : q9GH) (own : String) (ALL : List Cond) (n : q9EN) (K K2 : List (Nat × Int)) (z : q9ZZ) : Prop :=
  p.tables.exec = Jvm.exec ∧ c.code = cc ∧ c.maxLocals = q9eN n ∧ s.vm.findClass own = some m.cls ∧ (∀ w ∈ ALL, w.before args s = true) ∧ GoodIn ALL ALL ∧ va_K D vwCl (TY cT) s ∧ GW s ∧ GZ A s H0 ∧ (∀ q, H0.size ≤ q → A q) ∧
  (∀ q ∈ q9eF n, q9FLok cT (q9eB n) s args own q) ∧ (∀ q ∈ q9eP n, q9FLok cT (q9eB n) s args own q ∧ q9FLput q) ∧ (∀ q ∈ q9eV n, (q9CON O l (q9eB n) ALL q.2.2.2 ∧ q9LK ALL s own q) ∧ q.2.1 = 0) ∧ (∀ q ∈ q9eS n, (q9CON O l (q9eB n) ALL q.2.2.2 ∧ q9LK ALL s own q) ∧ q.2.1 ≠ 0) ∧
  ((q9eR n).1 ≤ R.frames ∧ (q9eR n).2.1 ≤ R.locals ∧ ko.1 + (q9eR n).2.2.1 ≤ R.cells ∧ ko.2 + (q9eR n).2.2.2 ≤ R.slots) ∧
  (∀ k ∈ (q9eB n).2.1, k.1 < 7 ∧ (4 ≤ k.1 → ∃ rc : vw_C, vwCl[k.2.2.2.2.1.toNat]? = some rc ∧ (TY cT)[k.1]? = some (cT k.1, .object rc.1))) ∧
  (∀ q ∈ K, ∃ v : Int32, v.toInt = q.2 ∧ (Cond.constant own q.1 v).before args s = true) ∧ (∀ q ∈ K2, ∃ v : Int64, v.toInt = q.2 ∧ (Cond.constantLong own q.1 v).before args s = true) ∧ (∀ q ∈ q9eK n, ∀ w ∈ q9MTw own q, w.before args s = true) ∧ H0 = s.heap ∧ q9SD z A s H0 ∧ True
theorem q9step0_ok {own : String} {ALL : List Cond} {n : q9EN} {K K2 : List (Nat × Int)} {mac : Nat → q9ST → Option (List (Nat × q9ST))} {rt : Nat → q9ST → Bool} {z0 : q9ZZ} (hE : q9EV O p l R ko s m args c cc D cT A H0 G0 own ALL n K K2 z0) (hTH : q9THok p l e R ko s m args below meth c Q (q9WM D cT (q9eB n) A H0 G0 ws0 (q9eW n)) own (q9eT n))
    (hmac : ∀ (pc : Nat) (x : q9ST) (ss : List (Nat × q9ST)) (r : Nat → Value), q9wfB x = true → mac pc x = some ss → q9NX O p l e R ko s m args below meth c Q (q9eN n) g (q9WM D cT (q9eB n) A H0 G0 ws0 (q9eW n)) ss x r → q9GO O p l e R ko s m args below meth c Q (q9eN n) g (q9WM D cT (q9eB n) A H0 G0 ws0 (q9eW n)) pc x r)
    (hrt : ∀ (pc : Nat) (x : q9ST) (r : Nat → Value) (k : Nat), q9wfB x = true → (k = 0 ∧ decode cc pc = .ok (.ireturn, 1) ∨ k = 1 ∧ decode cc pc = .ok (.areturn, 1) ∨ k = 2 ∧ decode cc pc = .ok (.return_, 1) ∨ k = 3 ∧ decode cc pc = .ok (.lreturn, 1)) → rt k x = true → q9GO O p l e R ko s m args below meth c Q (q9eN n) g (q9WM D cT (q9eB n) A H0 G0 ws0 (q9eW n)) pc x r) :
    ∀ (pc : Nat) (x : q9ST) (ss : List (Nat × q9ST)) (r : Nat → Value), q9wfB x = true → q9step0 n K K2 mac rt cc pc x = some ss → q9NX O p l e R ko s m args below meth c Q (q9eN n) g (q9WM D cT (q9eB n) A H0 G0 ws0 (q9eW n)) ss x r → q9GO O p l e R ko s m args below meth c Q (q9eN n) g (q9WM D cT (q9eB n) A H0 G0 ws0 (q9eW n)) pc x r := by
  obtain ⟨hx, hb, hml, hown, hts, hAll, hK, hG, hZ, hA, hF, hPp, hV, hS, hR, hKA, hKc, hKl, hMT, hH0, hZz, hzG⟩ := hE
  intro pc x ss r hw h hn
  unfold q9step0 at h
  split at h
  · rename_i ss' hm
    cases h
    exact hmac pc x ss r hw hm hn
  · split at h
    · cases h
    · rename_i i len hdg
      unfold q9stpI at h
      split at h
      · rename_i k o q9two hcc
        split at h
        · rename_i hl
          subst hl
          split at h
          · rename_i t ht
            cases q9two with
            | true => exact q9br2_ok hw h hn fun u v H locs cells slots ls rest kt kf => q9row_c2 hx hb hcc hdg ht u v H locs cells slots ls rest kt kf
            | false => exact q9br1_ok hw h hn fun u H locs cells slots ls rest kt kf => q9row_c1 hx hb hcc hdg ht u H locs cells slots ls rest kt kf
          · cases h
        · cases h
      · split at h
        · rename_i o hbc
          split at h
          · rename_i hl
            subst hl
            exact q9bin_ok hw h hn fun a b v hv h1 h2 => q9row_b hx hb hbc hdg a b v hv h1 h2
          · cases h
        · split at h
          · rename_i o huc
            split at h
            · rename_i hl
              subst hl
              exact q9un_ok hw h hn fun a v hv => q9row_u hx hb huc hdg a v hv
            · cases h
          · split at h
            · rename_i k
              split at h
              · exact q9cst_ok h hn fun H locs cells slots ls rest k9 => lv_iconst hx hb hdg rfl k9
              · cases h
            · rename_i k
              split at h
              · rename_i hk
                exact q9cst_ok h hn fun H locs cells slots ls rest k9 => lv_bipush hx hb hdg (q9c8 hk.1 hk.2) k9
              · cases h
            · rename_i k
              split at h
              · rename_i hk
                exact q9cst_ok h hn fun H locs cells slots ls rest k9 => lv_sipush hx hb hdg (q9c16 hk.1 hk.2) k9
              · cases h
            · rename_i j
              split at h
              · rename_i q hq
                split at h
                · rename_i hk
                  obtain ⟨v, v1, v2⟩ := hKc q (List.mem_of_find?_eq_some hq)
                  have q1 := List.find?_some hq
                  simp only [beq_iff_eq] at q1
                  rw [q1] at v2
                  have hv : v = Int32.ofInt q.2 := Int32.toInt_inj.mp (by rw [v1, q9ofInt_toInt32 hk.1 hk.2])
                  exact q9cst_ok h hn fun H locs cells slots ls rest k9 => lv_ldc hx hb hown (by rw [← hv]; exact v2) hdg k9
                · cases h
              · cases h
            · rename_i j
              split at h
              · rename_i q hq
                split at h
                · rename_i hk
                  obtain ⟨v, v1, v2⟩ := hKc q (List.mem_of_find?_eq_some hq)
                  have q1 := List.find?_some hq
                  simp only [beq_iff_eq] at q1
                  rw [q1] at v2
                  have hv : v = Int32.ofInt q.2 := Int32.toInt_inj.mp (by rw [v1, q9ofInt_toInt32 hk.1 hk.2])
                  exact q9cst_ok h hn fun H locs cells slots ls rest k9 => lv_ldcw hx hb hown (by rw [← hv]; exact v2) hdg k9
                · cases h
              · cases h
            · rename_i j
              split at h
              · rename_i q hq
                split at h
                · obtain ⟨v, v1, v2⟩ := hKl q (List.mem_of_find?_eq_some hq)
                  have q1 := List.find?_some hq
                  simp only [beq_iff_eq] at q1
                  rw [q1] at v2
                  exact q9exLong_ok hw v1 h hn fun H locs cells slots ls rest k9 => lv_ldc2 hx hb hown v2 hdg k9
                · cases h
              · cases h
            · exact q9exLong_ok hw (q9lc2 _) h hn fun H locs cells slots ls rest k9 => lv_lconst hx hb hdg rfl k9
            · exact q9exNull_ok hx hb hw hdg h hn
            · exact q9ld_ok hw h hn fun G t v hk hv H locs cells slots ls rest hl k9 => by
                obtain ⟨y, rfl⟩ := q9tyI hk hv
                exact lv_iload_n hx hb hdg rfl hl k9
            · exact q9ld_ok hw h hn fun G t v hk hv H locs cells slots ls rest hl k9 => by
                obtain ⟨y, rfl⟩ := q9tyI hk hv
                exact lv_iload hx hb hdg hl k9
            · exact q9ld_ok hw h hn fun G t v hk hv H locs cells slots ls rest hl k9 => by
                obtain ⟨y, rfl⟩ := q9tyJ hk hv
                exact lv_lload_n hx hb hdg rfl hl k9
            · exact q9ld_ok hw h hn fun G t v hk hv H locs cells slots ls rest hl k9 => by
                obtain ⟨y, rfl⟩ := q9tyJ hk hv
                exact lv_lload hx hb hdg hl k9
            · exact q9ld_ok hw h hn fun G t v hk hv H locs cells slots ls rest hl k9 => by
                rcases q9tyR hk hv with rfl | ⟨y, rfl⟩
                · exact lv_aload_nN hx hb hdg rfl hl k9
                · exact lv_aload_n hx hb hdg rfl hl k9
            · exact q9ld_ok hw h hn fun G t v hk hv H locs cells slots ls rest hl k9 => by
                rcases q9tyR hk hv with rfl | ⟨y, rfl⟩
                · exact lv_aloadN hx hb hdg hl k9
                · exact lv_aload hx hb hdg hl k9
            · exact q9sto_ok hw h hn fun G t v hk hv hi H locs cells slots ls rest lv hl k9 => by
                obtain ⟨y, rfl⟩ := q9tyI hk hv
                exact lv_istore_n hx hb hdg rfl hl hi rfl fun ls' h9 => k9 ls' (by simpa using h9)
            · exact q9sto_ok hw h hn fun G t v hk hv hi H locs cells slots ls rest lv hl k9 => by
                obtain ⟨y, rfl⟩ := q9tyI hk hv
                exact lv_istore hx hb hdg hl hi rfl fun ls' h9 => k9 ls' (by simpa using h9)
            · exact q9sto_ok hw h hn fun G t v hk hv hi H locs cells slots ls rest lv hl k9 => by
                obtain ⟨y, rfl⟩ := q9tyJ hk hv
                exact lv_lstore_n hx hb hdg rfl hl hi rfl fun ls' h9 => k9 ls' (by simpa using h9)
            · exact q9sto_ok hw h hn fun G t v hk hv hi H locs cells slots ls rest lv hl k9 => by
                obtain ⟨y, rfl⟩ := q9tyJ hk hv
                exact lv_lstore hx hb hdg hl hi rfl fun ls' h9 => k9 ls' (by simpa using h9)
            · exact q9sto_ok hw h hn fun G t v hk hv hi H locs cells slots ls rest lv hl k9 => by
                rcases q9tyR hk hv with rfl | ⟨y, rfl⟩
                · exact lv_astore_nN hx hb hdg rfl hl hi rfl fun ls' h9 => k9 ls' (by simpa using h9)
                · exact lv_astore_n hx hb hdg rfl hl hi rfl fun ls' h9 => k9 ls' (by simpa using h9)
            · exact q9sto_ok hw h hn fun G t v hk hv hi H locs cells slots ls rest lv hl k9 => by
                rcases q9tyR hk hv with rfl | ⟨y, rfl⟩
                · exact lv_astoreN hx hb hdg hl hi rfl fun ls' h9 => k9 ls' (by simpa using h9)
                · exact lv_astore hx hb hdg hl hi rfl fun ls' h9 => k9 ls' (by simpa using h9)
            · exact q9exInc_ok hx hb hw hdg h hn
            · exact q9addx_ok hw h hn fun a b H locs cells slots ls rest k9 => lv_iadd hx hb hdg k9
            · exact q9subx_ok hw h hn fun a b H locs cells slots ls rest k9 => lv_isub hx hb hdg k9
            · exact q9exDup_ok hx hb hw hdg h hn
            · exact q9exDup2_ok hx hb hw hdg h hn
            · exact q9exPop_ok hx hb hw hdg h hn
            · split at h
              · rename_i t ht
                cases h
                intro G ws H locs ls st hM hW
                exact lv_goto hx hb hdg (q9tgt_ok ht) (hn.one q9agr.rf (Nat.le_refl _) G ws H locs ls st hM hW)
              · cases h
            · split at h
              · rename_i t ht
                exact q9brN_ok hw h hn (fun u H locs cells slots ls rest k9 => lv_ifnull hx hb hdg k9) (fun H locs cells slots ls rest k9 => lv_ifnullN hx hb hdg (q9tgt_ok ht) k9)
              · cases h
            · split at h
              · rename_i t ht
                exact q9brN_ok hw h hn (fun u H locs cells slots ls rest k9 => lv_ifnonnull hx hb hdg (q9tgt_ok ht) k9) (fun H locs cells slots ls rest k9 => lv_ifnonnullN hx hb hdg k9)
              · cases h
            · exact q9exTab_ok hx hb hw hdg h hn
            · exact q9exG_ok hx hb hown hK hF hw hdg h hn
            · exact q9exP_ok hx hb hown hK (fun q hq => (hPp q hq).1) (fun q hq => (hPp q hq).2) hw hdg h hn
            · exact q9exGS_ok hx hb hown hMT hH0 hZz hzG hw hdg h hn
            · exact q9exLen_ok hx hb hK (fun k hk => (hKA k hk).1) hw hdg h hn
            · exact q9exLd_ok hw h hn fun G k n ce hk hA9 ws q b i H locs cells slots ls rest hP hq hi k9 => by
                obtain ⟨t, N, fx, et⟩ := k
                have hk : t = 0 := by simpa using hk
                subst hk
                obtain ⟨-, -, f, e9, -⟩ := hA9
                subst e9
                exact va_iald hx hb hK hP q 0 hq rfl hi hdg k9
            · exact q9exLd_ok hw h hn fun G k n ce hk hA9 ws q b i H locs cells slots ls rest hP hq hi k9 => by
                obtain ⟨t, N, fx, et⟩ := k
                have hk : t = 1 ∨ t = 3 := by simpa using hk
                rcases hk with hk | hk
                · subst hk
                  obtain ⟨-, -, f, e9, -⟩ := hA9
                  subst e9
                  exact va_bald hx hb hK hP q 1 hq rfl hi hdg k9
                · subst hk
                  obtain ⟨-, -, f, e9, -⟩ := hA9
                  subst e9
                  exact va_zald hx hb hK hP q 3 hq rfl hi hdg k9
            · exact q9exLd_ok hw h hn fun G k n ce hk hA9 ws q b i H locs cells slots ls rest hP hq hi k9 => by
                obtain ⟨t, N, fx, et⟩ := k
                have hk : t = 2 := by simpa using hk
                subst hk
                obtain ⟨-, -, f, e9, -⟩ := hA9
                subst e9
                exact va_lald hx hb hK hP q 2 hq rfl hi hdg k9
            · exact q9exLd_ok hw h hn fun G k n ce hk hA9 ws q b i H locs cells slots ls rest hP hq hi k9 => by
                obtain ⟨t, N, fx, et⟩ := k
                have hk : t = 4 ∨ t = 5 ∨ t = 6 := by simpa using hk
                rcases hk with hk | hk | hk
                · subst hk
                  obtain ⟨-, -, f, e9, -⟩ := hA9
                  subst e9
                  exact va_aldq hx hb hK hP q 4 hq rfl hi hdg k9
                · subst hk
                  obtain ⟨-, -, f, e9, -⟩ := hA9
                  subst e9
                  exact va_aldq hx hb hK hP q 5 hq rfl hi hdg k9
                · subst hk
                  obtain ⟨-, -, f, e9, -⟩ := hA9
                  subst e9
                  exact va_aldq hx hb hK hP q 6 hq rfl hi hdg k9
            · exact q9exSt_ok hw h hn fun G k n ce v cd hk hKk hA9 hv hnar ws q b i H locs cells slots ls rest hP hD hS9 hq hi h4 h5 h6 k9 => by
                obtain ⟨t, N, fx, et⟩ := k
                have hk : t = 0 := by simpa using hk
                subst hk
                obtain ⟨-, -, f, e9, -⟩ := hA9
                subst e9
                obtain ⟨u, rfl⟩ := h5 rfl
                exact va_iast hx hb hK hP hD hS9 q 0 hq rfl hi hdg fun H1 locs1 a1 a2 a3 => k9 H1 locs1 a1 a2 a3
            · exact q9exSt_ok hw h hn fun G k n ce v cd hk hKk hA9 hv hnar ws q b i H locs cells slots ls rest hP hD hS9 hq hi h4 h5 h6 k9 => by
                obtain ⟨t, N, fx, et⟩ := k
                have hk : t = 1 ∨ t = 3 := by simpa using hk
                rcases hk with hk | hk
                · subst hk
                  obtain ⟨-, -, f, e9, -⟩ := hA9
                  subst e9
                  obtain ⟨u, rfl⟩ := h5 rfl
                  have hnn : vp_nar .byte u = u := q9nar8 (q9narB1 hnar hv).1 (q9narB1 hnar hv).2
                  refine va_bast hx hb hK hP hD hS9 q 1 hq rfl hi hdg fun H1 locs1 a1 a2 a3 => ?_
                  rw [hnn] at a1 a2
                  exact k9 H1 locs1 a1 a2 a3
                · subst hk
                  obtain ⟨-, -, f, e9, -⟩ := hA9
                  subst e9
                  obtain ⟨u, rfl⟩ := h5 rfl
                  have hnn : vp_nar .boolean u = u := q9nar1 (q9narB3 hnar hv).1 (q9narB3 hnar hv).2
                  refine va_zast hx hb hK hP hD hS9 q 3 hq rfl hi hdg fun H1 locs1 a1 a2 a3 => ?_
                  rw [hnn] at a1 a2
                  exact k9 H1 locs1 a1 a2 a3
            · exact q9exSt_ok hw h hn fun G k n ce v cd hk hKk hA9 hv hnar ws q b i H locs cells slots ls rest hP hD hS9 hq hi h4 h5 h6 k9 => by
                obtain ⟨t, N, fx, et⟩ := k
                have hk : t = 2 := by simpa using hk
                subst hk
                obtain ⟨-, -, f, e9, -⟩ := hA9
                subst e9
                obtain ⟨u, rfl⟩ := h6 rfl
                exact va_last hx hb hK hP hD hS9 q 2 hq rfl hi hdg fun H1 locs1 a1 a2 a3 => k9 H1 locs1 a1 a2 a3
            · exact q9exSt_ok hw h hn fun G k n ce v cd hk hKk hA9 hv hnar ws q b i H locs cells slots ls rest hP hD hS9 hq hi h4 h5 h6 k9 => by
                obtain ⟨hk7, hk8⟩ := hKA k (List.mem_of_getElem? hKk)
                have hk4 : 4 ≤ k.1 := by
                  have : k.1 = 4 ∨ k.1 = 5 ∨ k.1 = 6 := by simpa using hk
                  omega
                obtain ⟨rc, r1, r2⟩ := hk8 hk4
                obtain ⟨qk, z, vs, rfl, w2⟩ := h4 hk4
                obtain ⟨t, N, fx, et⟩ := k
                obtain ⟨-, -, hA9⟩ := hA9
                match t, hA9, hk4, r2 with
                | tt + 4, ⟨f, e9, _⟩, _, r2 =>
                  subst e9
                  exact va_astq hx hb hK hP hD hS9 q (tt + 4) qk et.2.1.toNat hq r2 w2 r1 hi hdg fun H1 locs1 a1 a2 a3 => k9 H1 locs1 a1 a2 a3
            · exact q9exC_ok hx hb hml hown hts hAll hK hG hZ hA hZz hzG hTH (fun q hq => (hV q hq).1) hR hw (.inl ⟨hdg, fun q hq => (hV q hq).2⟩) h hn
            · split at h
              · rename_i q hq
                have q1 := List.find?_some hq
                simp only [beq_iff_eq] at q1
                have hC := hMT q (List.mem_of_find?_eq_some hq)
                rw [← q1] at hdg
                split at h
                · rename_i h0
                  obtain ⟨i9, k9⟩ := q
                  have h0 : k9 = 0 := h0
                  subst h0
                  exact q9exCopy_ok hx hb hml hown hK ⟨hC _ (by simp [q9MTw]), hC _ (by simp [q9MTw]), hC _ (by simp [q9MTw]), hC _ (by simp [q9MTw])⟩ hR hw hdg h hn
                · exact q9exMath_ok hx hb hml hown hC hR hw hdg h hn
              · exact q9exC_ok hx hb hml hown hts hAll hK hG hZ hA hZz hzG hTH (fun q hq => (hS q hq).1) hR hw (.inr ⟨hdg, fun q hq => (hS q hq).2⟩) h hn
            · split at h
              · rename_i hr9
                exact hrt pc x r 0 hw (.inl ⟨rfl, hdg⟩) hr9
              · cases h
            · split at h
              · rename_i hr9
                exact hrt pc x r 1 hw (.inr (.inl ⟨rfl, hdg⟩)) hr9
              · cases h
            · split at h
              · rename_i hr9
                exact hrt pc x r 2 hw (.inr (.inr (.inl ⟨rfl, hdg⟩))) hr9
              · cases h
            · split at h
              · rename_i hr9
                exact hrt pc x r 3 hw (.inr (.inr (.inr ⟨rfl, hdg⟩))) hr9
              · cases h
            · cases h
end q9ST
