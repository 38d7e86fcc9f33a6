/-! a state written out in full before the walk goes on: it is the same state, but nothing of it waits to be reckoned -/
noncomputable def q9fcN (n : Nat) (k : Nat → Bool) : Bool := Nat.rec (motive := fun _ => Bool) (k 0) (fun m _ => k (Nat.succ m)) n
noncomputable def q9fcI (i : Int) (k : Int → Bool) : Bool := Int.rec (motive := fun _ => Bool) (fun n => q9fcN n (fun m => k (Int.ofNat m))) (fun n => q9fcN n (fun m => k (Int.negSucc m))) i
noncomputable def q9fcA (a : q9AV) (k : q9AV → Bool) : Bool := q9fcN a.1 (fun u => q9fcI a.2 (fun v => k (u, v)))
noncomputable def q9fcE (a : q9ET) (k : q9ET → Bool) : Bool := q9fcN a.1 (fun u => q9fcI a.2.1 (fun v => q9fcI a.2.2 (fun w => k (u, v, w))))
noncomputable def q9fcLv (a : Nat × q9AV) (k : Nat × q9AV → Bool) : Bool := q9fcN a.1 (fun u => q9fcA a.2 (fun v => k (u, v)))
noncomputable def q9fcFv (a : Nat × Nat × q9AV) (k : Nat × Nat × q9AV → Bool) : Bool := q9fcN a.1 (fun u => q9fcN a.2.1 (fun v => q9fcA a.2.2 (fun w => k (u, v, w))))
noncomputable def q9fcAv (a : Nat × q9AV × q9AV) (k : Nat × q9AV × q9AV → Bool) : Bool := q9fcN a.1 (fun u => q9fcA a.2.1 (fun v => q9fcA a.2.2 (fun w => k (u, v, w))))
noncomputable def q9fcCv (a : Nat × Nat × Int) (k : Nat × Nat × Int → Bool) : Bool := q9fcN a.1 (fun u => q9fcN a.2.1 (fun v => q9fcI a.2.2 (fun w => k (u, v, w))))
noncomputable def q9fcXv (a : Nat × q9AV × q9AV × Nat) (k : Nat × q9AV × q9AV × Nat → Bool) : Bool := q9fcN a.1 (fun u => q9fcA a.2.1 (fun v => q9fcA a.2.2.1 (fun w => q9fcN a.2.2.2 (fun z => k (u, v, w, z)))))
noncomputable def q9fcL {α : Type} (fa : α → (α → Bool) → Bool) (l : List α) : (List α → Bool) → Bool := List.rec (motive := fun _ => (List α → Bool) → Bool) (fun k => k []) (fun a _ ih k => fa a (fun u => ih (fun w => k (u :: w)))) l
noncomputable def q9fcX (x : q9ST) (k : q9ST → Bool) : Bool := q9fcL q9fcE (q9tE x) (fun e => q9fcL q9fcLv (q9tL x) (fun l => q9fcL q9fcA (q9tS x) (fun s => q9fcL q9fcA (q9tG x) (fun g => q9fcL q9fcFv (q9tF x) (fun f => q9fcL q9fcAv (q9tA x) (fun a => q9fcL q9fcCv (q9tC x) (fun c => q9fcL q9fcXv (q9tX x) (fun o => q9fcN (q9tN x) (fun n => q9fcN (q9tM x) (fun m => k (e, l, s, g, f, a, c, o, n, m)))))))))))
noncomputable def q9fcS (p : Nat) (x : q9ST) (k : Nat → q9ST → Bool) : Bool := q9fcN p (fun q => q9fcX x (k q))
theorem q9fcN_eq (n : Nat) (k : Nat → Bool) : q9fcN n k = k n := by cases n <;> rfl
theorem q9fcI_eq (i : Int) (k : Int → Bool) : q9fcI i k = k i := by
  cases i with
  | ofNat n => exact q9fcN_eq n (fun m => k (Int.ofNat m))
  | negSucc n => exact q9fcN_eq n (fun m => k (Int.negSucc m))
theorem q9fcA_eq (a : q9AV) (k : q9AV → Bool) : q9fcA a k = k a := by
  obtain ⟨u, v⟩ := a
  show q9fcN u (fun u => q9fcI v (fun v => k (u, v))) = k (u, v)
  rw [q9fcN_eq, q9fcI_eq]
theorem q9fcE_eq (a : q9ET) (k : q9ET → Bool) : q9fcE a k = k a := by
  obtain ⟨u, v, w⟩ := a
  show q9fcN u (fun u => q9fcI v (fun v => q9fcI w (fun w => k (u, v, w)))) = k (u, v, w)
  rw [q9fcN_eq, q9fcI_eq, q9fcI_eq]
theorem q9fcLv_eq (a : Nat × q9AV) (k : Nat × q9AV → Bool) : q9fcLv a k = k a := by
  obtain ⟨u, v⟩ := a
  show q9fcN u (fun u => q9fcA v (fun v => k (u, v))) = k (u, v)
  rw [q9fcN_eq, q9fcA_eq]
theorem q9fcFv_eq (a : Nat × Nat × q9AV) (k : Nat × Nat × q9AV → Bool) : q9fcFv a k = k a := by
  obtain ⟨u, v, w⟩ := a
  show q9fcN u (fun u => q9fcN v (fun v => q9fcA w (fun w => k (u, v, w)))) = k (u, v, w)
  rw [q9fcN_eq, q9fcN_eq, q9fcA_eq]
theorem q9fcAv_eq (a : Nat × q9AV × q9AV) (k : Nat × q9AV × q9AV → Bool) : q9fcAv a k = k a := by
  obtain ⟨u, v, w⟩ := a
  show q9fcN u (fun u => q9fcA v (fun v => q9fcA w (fun w => k (u, v, w)))) = k (u, v, w)
  rw [q9fcN_eq, q9fcA_eq, q9fcA_eq]
theorem q9fcCv_eq (a : Nat × Nat × Int) (k : Nat × Nat × Int → Bool) : q9fcCv a k = k a := by
  obtain ⟨u, v, w⟩ := a
  show q9fcN u (fun u => q9fcN v (fun v => q9fcI w (fun w => k (u, v, w)))) = k (u, v, w)
  rw [q9fcN_eq, q9fcN_eq, q9fcI_eq]
theorem q9fcXv_eq (a : Nat × q9AV × q9AV × Nat) (k : Nat × q9AV × q9AV × Nat → Bool) : q9fcXv a k = k a := by
  obtain ⟨u, v, w, z⟩ := a
  show q9fcN u (fun u => q9fcA v (fun v => q9fcA w (fun w => q9fcN z (fun z => k (u, v, w, z))))) = k (u, v, w, z)
  rw [q9fcN_eq, q9fcA_eq, q9fcA_eq, q9fcN_eq]
theorem q9fcL_eq {α : Type} {fa : α → (α → Bool) → Bool} (h : ∀ (a : α) (k : α → Bool), fa a k = k a) : ∀ (l : List α) (k : List α → Bool), q9fcL fa l k = k l
  | [], _ => rfl
  | a :: l, k => by
    show fa a (fun u => q9fcL fa l (fun w => k (u :: w))) = k (a :: l)
    rw [h, q9fcL_eq h l]
theorem q9fcX_eq (x : q9ST) (k : q9ST → Bool) : q9fcX x k = k x := by
  obtain ⟨e, l, s, g, f, a, c, o, n, m⟩ := x
  show q9fcL q9fcE e (fun e => q9fcL q9fcLv l (fun l => q9fcL q9fcA s (fun s => q9fcL q9fcA g (fun g => q9fcL q9fcFv f (fun f => q9fcL q9fcAv a (fun a => q9fcL q9fcCv c (fun c => q9fcL q9fcXv o (fun o => q9fcN n (fun n => q9fcN m (fun m => k (e, l, s, g, f, a, c, o, n, m))))))))))) = k (e, l, s, g, f, a, c, o, n, m)
  rw [q9fcL_eq q9fcE_eq, q9fcL_eq q9fcLv_eq, q9fcL_eq q9fcA_eq, q9fcL_eq q9fcA_eq, q9fcL_eq q9fcFv_eq, q9fcL_eq q9fcAv_eq, q9fcL_eq q9fcCv_eq, q9fcL_eq q9fcXv_eq, q9fcN_eq, q9fcN_eq]
theorem q9fcS_eq (p : Nat) (x : q9ST) (k : Nat → q9ST → Bool) : q9fcS p x k = k p x := by
  show q9fcN p (fun q => q9fcX x (k q)) = k p x
  rw [q9fcN_eq, q9fcX_eq]
/-- written out in full at every fourth place alone -/
noncomputable def q9fcD (f p : Nat) (x : q9ST) (k : Nat → q9ST → Bool) : Bool := q9fcN p (fun q => cond (Nat.beq (Nat.mod f 4) 0) (q9fcX x (k q)) (k q x))
theorem q9fcD_eq (f p : Nat) (x : q9ST) (k : Nat → q9ST → Bool) : q9fcD f p x k = k p x := by
  show q9fcN p (fun q => cond (Nat.beq (Nat.mod f 4) 0) (q9fcX x (k q)) (k q x)) = k p x
  rw [q9fcN_eq]
  cases Nat.beq (Nat.mod f 4) 0 with
  | true => exact q9fcX_eq x (k p)
  | false => rfl
