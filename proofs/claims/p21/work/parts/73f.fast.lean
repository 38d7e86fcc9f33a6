variable {O : ORC}
/-! a method's bytes as q9one number, out of which an instruction is read at once: the same q9step, sooner found -/
noncomputable def q9fcO {α : Type} (n : Nat) (k : Nat → α) : α := Nat.rec (motive := fun _ => α) (k 0) (fun m _ => k (Nat.succ m)) n
noncomputable def q9fcOI {α : Type} (i : Int) (k : Int → α) : α := Int.rec (motive := fun _ => α) (fun n => q9fcO n (fun m => k (Int.ofNat m))) (fun n => q9fcO n (fun m => k (Int.negSucc m))) i
theorem q9fcO_eq {α : Type} (n : Nat) (k : Nat → α) : q9fcO n k = k n := by cases n <;> rfl
theorem q9fcOI_eq {α : Type} (i : Int) (k : Int → α) : q9fcOI i k = k i := by
  cases i with
  | ofNat n => exact q9fcO_eq n (fun m => k (Int.ofNat m))
  | negSucc n => exact q9fcO_eq n (fun m => k (Int.negSucc m))
noncomputable def q9bnum (l : List UInt8) : Nat := List.rec (motive := fun _ => Nat) 1 (fun b _ ih => Nat.add b.toNat (Nat.mul 256 ih)) l
theorem q9bnum_cons (b : UInt8) (l : List UInt8) : q9bnum (b :: l) = b.toNat + 256 * q9bnum l := rfl
theorem q9bnum_sh (b : UInt8) (t k : Nat) : (b.toNat + 256 * t) >>> (8 * (k + 1)) = t >>> (8 * k) := by
  have hb : b.toNat < 256 := b.toNat_lt
  have e : (b.toNat + 256 * t) / 2 ^ 8 = t := by omega
  rw [show 8 * (k + 1) = 8 + 8 * k by omega, Nat.shiftRight_add, Nat.shiftRight_eq_div_pow (b.toNat + 256 * t) 8, e]
theorem q9bnum_at : ∀ (l : List UInt8) (k : Nat), 1 ≤ q9bnum l >>> (8 * (k + 1)) → ∃ h : k < l.length, (l[k]).toNat = (q9bnum l >>> (8 * k)) % 256
  | [], k, h => by
    have h : 1 ≤ 1 >>> (8 * (k + 1)) := h
    rw [Nat.shiftRight_eq_div_pow] at h
    have h2 : 2 ^ 8 ≤ 2 ^ (8 * (k + 1)) := Nat.pow_le_pow_right (by omega) (by omega)
    rw [Nat.div_eq_of_lt (by omega)] at h
    omega
  | b :: l, 0, _ => by
    refine ⟨Nat.zero_lt_succ _, ?_⟩
    have hb : b.toNat < 256 := b.toNat_lt
    show b.toNat = (q9bnum (b :: l) >>> (8 * 0)) % 256
    rw [Nat.mul_zero, Nat.shiftRight_zero, q9bnum_cons]
    omega
  | b :: l, k + 1, h => by
    rw [q9bnum_cons, q9bnum_sh] at h
    obtain ⟨h1, h2⟩ := q9bnum_at l k h
    refine ⟨Nat.succ_lt_succ h1, ?_⟩
    show (l[k]).toNat = _
    rw [h2, q9bnum_cons, q9bnum_sh]
theorem q9bb1 {cc : ByteArray} {k : Nat} (h : 1 ≤ q9bnum cc.data.toList >>> (8 * (k + 1))) : ∃ h : k < cc.size, (cc[k]).toNat = (q9bnum cc.data.toList >>> (8 * k)) % 256 := by
  obtain ⟨d⟩ := cc
  obtain ⟨h1, h2⟩ := q9bnum_at _ _ h
  have h3 : k < d.size := by rw [← Array.length_toList]; exact h1
  refine ⟨h3, ?_⟩
  rw [← h2]
  show (d[k]).toNat = _
  rw [Array.getElem_toList]
theorem q9rd1 {cc : ByteArray} {pc s op : Nat} (hs : s = q9bnum cc.data.toList >>> (8 * pc)) (ho : s % 256 = op) (h : Nat.ble 1 (Nat.shiftRight s 8) = true) : ∃ h : pc < cc.size, (cc[pc]).toNat = op := by
  have h := Nat.le_of_ble_eq_true h
  rw [← ho, hs]
  rw [hs] at h
  exact q9bb1 (by rw [show 8 * (pc + 1) = 8 * pc + 8 by omega, Nat.shiftRight_add]; exact h)
theorem q9rd2 {cc : ByteArray} {pc s a : Nat} (hs : s = q9bnum cc.data.toList >>> (8 * pc)) (ha : a = (Nat.shiftRight s 8) % 256) (h : Nat.ble 1 (Nat.shiftRight s 16) = true) : ∃ h : pc + 1 < cc.size, (cc[pc + 1]).toNat = a := by
  have h := Nat.le_of_ble_eq_true h
  rw [ha, hs]
  rw [hs] at h
  have k := q9bb1 (cc := cc) (k := pc + 1) (by rw [show 8 * (pc + 1 + 1) = 8 * pc + 16 by omega, Nat.shiftRight_add]; exact h)
  rw [show 8 * (pc + 1) = 8 * pc + 8 by omega, Nat.shiftRight_add] at k
  exact k
theorem q9rd3 {cc : ByteArray} {pc s a : Nat} (hs : s = q9bnum cc.data.toList >>> (8 * pc)) (ha : a = (Nat.shiftRight s 16) % 256) (h : Nat.ble 1 (Nat.shiftRight s 24) = true) : ∃ h : pc + 2 < cc.size, (cc[pc + 2]).toNat = a := by
  have h := Nat.le_of_ble_eq_true h
  rw [ha, hs]
  rw [hs] at h
  have k := q9bb1 (cc := cc) (k := pc + 2) (by rw [show 8 * (pc + 2 + 1) = 8 * pc + 24 by omega, Nat.shiftRight_add]; exact h)
  rw [show 8 * (pc + 2) = 8 * pc + 16 by omega, Nat.shiftRight_add] at k
  exact k
theorem q9bl8 {s a : Nat} (h : Nat.ble 1 (Nat.shiftRight s (a + 8)) = true) : Nat.ble 1 (Nat.shiftRight s a) = true := by
  have h := Nat.le_of_ble_eq_true h
  have e : Nat.shiftRight s (a + 8) = (Nat.shiftRight s a) / 2 ^ 8 := by
    show s >>> (a + 8) = (s >>> a) / 2 ^ 8
    rw [Nat.shiftRight_add, Nat.shiftRight_eq_div_pow (s >>> a)]
  rw [e] at h
  generalize Nat.shiftRight s a = u at h ⊢
  exact Nat.ble_eq_true_of_le (by omega)
theorem q9u1r {cc : ByteArray} {p b : Nat} (h : ∃ h : p < cc.size, (cc[p]).toNat = b) : (Reader.u1 : Decoder Nat) cc p = .ok (b, p + 1) := by
  obtain ⟨h, rfl⟩ := h
  show (dite (p < cc.size) (fun h => ((do set (p + 1); Pure.pure (cc[p]).toNat) : Decoder Nat)) (fun _ => throw (HasTruncated.truncated p))) cc p = _
  rw [dif_pos h]
  rfl
theorem q9u2r {cc : ByteArray} {p a b : Nat} (h1 : ∃ h : p < cc.size, (cc[p]).toNat = a) (h2 : ∃ h : p + 1 < cc.size, (cc[p + 1]).toNat = b) : (Reader.u2 : Decoder Nat) cc p = .ok (a * 256 + b, p + 2) := by
  show (((Reader.u1 : Decoder Nat) cc p) >>= fun q => (((Reader.u1 : Decoder Nat) cc q.2) >>= fun z => (Pure.pure (q.1 * 256 + z.1, z.2) : Except DecodeError (Nat × Nat)))) = _
  rw [q9u1r h1]
  show (((Reader.u1 : Decoder Nat) cc (p + 1)) >>= fun z => (Pure.pure (a * 256 + z.1, z.2) : Except DecodeError (Nat × Nat))) = _
  rw [q9u1r h2]
  rfl
theorem q9s1r {cc : ByteArray} {p b : Nat} (h : ∃ h : p < cc.size, (cc[p]).toNat = b) : (Reader.s1 : Decoder Int) cc p = .ok (Reader.signed 8 b, p + 1) := by
  show (((Reader.u1 : Decoder Nat) cc p) >>= fun q => (Pure.pure (Reader.signed 8 q.1, q.2) : Except DecodeError (Int × Nat))) = _
  rw [q9u1r h]
  rfl
theorem q9s2r {cc : ByteArray} {p a b : Nat} (h1 : ∃ h : p < cc.size, (cc[p]).toNat = a) (h2 : ∃ h : p + 1 < cc.size, (cc[p + 1]).toNat = b) : (Reader.s2 : Decoder Int) cc p = .ok (Reader.signed 16 (a * 256 + b), p + 2) := by
  show (((Reader.u2 : Decoder Nat) cc p) >>= fun q => (Pure.pure (Reader.signed 16 q.1, q.2) : Except DecodeError (Int × Nat))) = _
  rw [q9u2r h1 h2]
  rfl
theorem q9decr {cc : ByteArray} {pc n : Nat} {i : Jvm.ClassFile.Instr} (h : Decoder.instr pc cc pc = .ok (i, n)) : decode cc pc = .ok (i, n - pc) := by
  show ((Decoder.instr pc cc pc) >>= fun q => (Pure.pure (q.1, q.2 - pc) : Except DecodeError (Jvm.ClassFile.Instr × Nat))) = _
  rw [h]
  rfl
theorem q9insr {cc : ByteArray} {pc op : Nat} {K : Nat → Decoder Jvm.ClassFile.Instr} (hK : Decoder.instr pc = (Reader.u1 >>= K)) (h : ∃ h : pc < cc.size, (cc[pc]).toNat = op) : Decoder.instr pc cc pc = K op cc (pc + 1) := by
  rw [hK]
  show (((Reader.u1 : Decoder Nat) cc pc) >>= fun q => K q.1 cc q.2) = _
  rw [q9u1r h]
  rfl
theorem q9dk0 {cc : ByteArray} {pc op s : Nat} {i : Jvm.ClassFile.Instr} (hK : ∃ K : Nat → Decoder Jvm.ClassFile.Instr, Decoder.instr pc = (Reader.u1 >>= K) ∧ K op = Pure.pure i) (hs : s = q9bnum cc.data.toList >>> (8 * pc)) (ho : s % 256 = op) (h : Nat.ble 1 (Nat.shiftRight s 8) = true) : decode cc pc = .ok (i, 1) := by
  obtain ⟨K, k1, k2⟩ := hK
  have e := q9decr (cc := cc) (i := i) (n := pc + 1) (by rw [q9insr k1 (q9rd1 hs ho h), k2]; rfl)
  rw [e, show pc + 1 - pc = 1 by omega]

theorem q9dk1 {cc : ByteArray} {pc op s a b : Nat} {mk : Nat → Jvm.ClassFile.Instr} (hK : ∃ K : Nat → Decoder Jvm.ClassFile.Instr, Decoder.instr pc = (Reader.u1 >>= K) ∧ K op = (Reader.u1 >>= fun a => Pure.pure (mk a))) (hs : s = q9bnum cc.data.toList >>> (8 * pc)) (ho : s % 256 = op) (ha : a = (Nat.shiftRight s 8) % 256) (hb : b = (Nat.shiftRight s 16) % 256) (h : Nat.ble 1 (Nat.shiftRight s 16) = true) : decode cc pc = .ok (mk a, 2) := by
  obtain ⟨K, k1, k2⟩ := hK
  have e := q9decr (cc := cc) (i := mk a) (n := pc + 2) (by
    rw [q9insr k1 (q9rd1 hs ho (q9bl8 (a := 8) h)), k2]
    show (((Reader.u1 : Decoder Nat) cc (pc + 1)) >>= fun q => (Pure.pure (mk q.1, q.2) : Except DecodeError (Jvm.ClassFile.Instr × Nat))) = _
    rw [q9u1r (q9rd2 hs ha h)]
    rfl)
  rw [e, show pc + 2 - pc = 2 by omega]

theorem q9dk1s {cc : ByteArray} {pc op s a b : Nat} {mk : Int → Jvm.ClassFile.Instr} (hK : ∃ K : Nat → Decoder Jvm.ClassFile.Instr, Decoder.instr pc = (Reader.u1 >>= K) ∧ K op = (Reader.s1 >>= fun a => Pure.pure (mk a))) (hs : s = q9bnum cc.data.toList >>> (8 * pc)) (ho : s % 256 = op) (ha : a = (Nat.shiftRight s 8) % 256) (hb : b = (Nat.shiftRight s 16) % 256) (h : Nat.ble 1 (Nat.shiftRight s 16) = true) : decode cc pc = .ok (mk (Reader.signed 8 a), 2) := by
  obtain ⟨K, k1, k2⟩ := hK
  have e := q9decr (cc := cc) (i := mk (Reader.signed 8 a)) (n := pc + 2) (by
    rw [q9insr k1 (q9rd1 hs ho (q9bl8 (a := 8) h)), k2]
    show (((Reader.s1 : Decoder Int) cc (pc + 1)) >>= fun q => (Pure.pure (mk q.1, q.2) : Except DecodeError (Jvm.ClassFile.Instr × Nat))) = _
    rw [q9s1r (q9rd2 hs ha h)]
    rfl)
  rw [e, show pc + 2 - pc = 2 by omega]

theorem q9dk2 {cc : ByteArray} {pc op s a b : Nat} {mk : Nat → Jvm.ClassFile.Instr} (hK : ∃ K : Nat → Decoder Jvm.ClassFile.Instr, Decoder.instr pc = (Reader.u1 >>= K) ∧ K op = (Reader.u2 >>= fun a => Pure.pure (mk a))) (hs : s = q9bnum cc.data.toList >>> (8 * pc)) (ho : s % 256 = op) (ha : a = (Nat.shiftRight s 8) % 256) (hb : b = (Nat.shiftRight s 16) % 256) (h : Nat.ble 1 (Nat.shiftRight s 24) = true) : decode cc pc = .ok (mk (Nat.add (Nat.mul a 256) b), 3) := by
  obtain ⟨K, k1, k2⟩ := hK
  have e := q9decr (cc := cc) (i := mk (Nat.add (Nat.mul a 256) b)) (n := pc + 3) (by
    rw [q9insr k1 (q9rd1 hs ho (q9bl8 (a := 8) (q9bl8 (a := 16) h))), k2]
    show (((Reader.u2 : Decoder Nat) cc (pc + 1)) >>= fun q => (Pure.pure (mk q.1, q.2) : Except DecodeError (Jvm.ClassFile.Instr × Nat))) = _
    rw [q9u2r (q9rd2 hs ha (q9bl8 (a := 16) h)) (q9rd3 hs hb h)]
    rfl)
  rw [e, show pc + 3 - pc = 3 by omega]

theorem q9dk2s {cc : ByteArray} {pc op s a b : Nat} {mk : Int → Jvm.ClassFile.Instr} (hK : ∃ K : Nat → Decoder Jvm.ClassFile.Instr, Decoder.instr pc = (Reader.u1 >>= K) ∧ K op = (Reader.s2 >>= fun a => Pure.pure (mk a))) (hs : s = q9bnum cc.data.toList >>> (8 * pc)) (ho : s % 256 = op) (ha : a = (Nat.shiftRight s 8) % 256) (hb : b = (Nat.shiftRight s 16) % 256) (h : Nat.ble 1 (Nat.shiftRight s 24) = true) : decode cc pc = .ok (mk (Reader.signed 16 (Nat.add (Nat.mul a 256) b)), 3) := by
  obtain ⟨K, k1, k2⟩ := hK
  have e := q9decr (cc := cc) (i := mk (Reader.signed 16 (Nat.add (Nat.mul a 256) b))) (n := pc + 3) (by
    rw [q9insr k1 (q9rd1 hs ho (q9bl8 (a := 8) (q9bl8 (a := 16) h))), k2]
    show (((Reader.s2 : Decoder Int) cc (pc + 1)) >>= fun q => (Pure.pure (mk q.1, q.2) : Except DecodeError (Jvm.ClassFile.Instr × Nat))) = _
    rw [q9s2r (q9rd2 hs ha (q9bl8 (a := 16) h)) (q9rd3 hs hb h)]
    rfl)
  rw [e, show pc + 3 - pc = 3 by omega]

theorem q9dki {cc : ByteArray} {pc op s a b : Nat} {mk : Nat → Int → Jvm.ClassFile.Instr} (hK : ∃ K : Nat → Decoder Jvm.ClassFile.Instr, Decoder.instr pc = (Reader.u1 >>= K) ∧ K op = (Reader.u1 >>= fun a => Reader.s1 >>= fun b => Pure.pure (mk a b))) (hs : s = q9bnum cc.data.toList >>> (8 * pc)) (ho : s % 256 = op) (ha : a = (Nat.shiftRight s 8) % 256) (hb : b = (Nat.shiftRight s 16) % 256) (h : Nat.ble 1 (Nat.shiftRight s 24) = true) : decode cc pc = .ok (mk a (Reader.signed 8 b), 3) := by
  obtain ⟨K, k1, k2⟩ := hK
  have e := q9decr (cc := cc) (i := mk a (Reader.signed 8 b)) (n := pc + 3) (by
    rw [q9insr k1 (q9rd1 hs ho (q9bl8 (a := 8) (q9bl8 (a := 16) h))), k2]
    show (((Reader.u1 : Decoder Nat) cc (pc + 1)) >>= fun q => (((Reader.s1 : Decoder Int) cc q.2) >>= fun z => (Pure.pure (mk q.1 z.1, z.2) : Except DecodeError (Jvm.ClassFile.Instr × Nat)))) = _
    rw [q9u1r (q9rd2 hs ha (q9bl8 (a := 16) h))]
    show (((Reader.s1 : Decoder Int) cc (pc + 2)) >>= fun z => (Pure.pure (mk a z.1, z.2) : Except DecodeError (Jvm.ClassFile.Instr × Nat))) = _
    rw [q9s1r (q9rd3 hs hb h)]
    rfl)
  rw [e, show pc + 3 - pc = 3 by omega]

theorem q9s0r {n : q9EN} {K K2 : List (Nat × Int)} {rt : Nat → q9ST → Bool} {cc : ByteArray} {pc len : Nat} {x : q9ST} {i : Jvm.ClassFile.Instr} (h : decode cc pc = .ok (i, len)) : q9step0 n K K2 (fun _ _ => none) rt cc pc x = q9stpI n K K2 rt pc x i len := by
  show (match decode cc pc with
    | .error _ => none
    | .ok (i, len) => q9stpI n K K2 rt pc x i len) = _
  rw [h]
theorem q9cndN {α : Type} {c : Bool} {A : Option α} {s : α} (h : cond c A none = some s) : c = true ∧ A = some s := by
  cases c with
  | true => exact ⟨rfl, h⟩
  | false => cases h
theorem q9cndB {α : Type} {c : Bool} {A B : Option α} {s : α} (h : cond c A B = some s) : c = true ∧ A = some s ∨ B = some s := by
  cases c with
  | true => exact .inl ⟨rfl, h⟩
  | false => exact .inr h
noncomputable def q9lf1 (n : q9EN) (K K2 : List (Nat × Int)) (rt : Nat → q9ST → Bool) (pc : Nat) (x : q9ST) (s a b : Nat) : Option (List (Nat × q9ST)) := cond (Nat.ble 1 (Nat.shiftRight s 8)) (q9exNull x (pc + 1)) none
theorem q9lf1_ok {n : q9EN} {K K2 : List (Nat × Int)} {rt : Nat → q9ST → Bool} {cc : ByteArray} {pc : Nat} {x : q9ST} {s a b : Nat} {ss : List (Nat × q9ST)} (hs : s = q9bnum cc.data.toList >>> (8 * pc)) (ha : a = (Nat.shiftRight s 8) % 256) (hb : b = (Nat.shiftRight s 16) % 256) (ho : s % 256 = 1) (h : q9lf1 n K K2 rt pc x s a b = some ss) : q9step0 n K K2 (fun _ _ => none) rt cc pc x = some ss := by
  unfold q9lf1 at h
  obtain ⟨h1, h2⟩ := q9cndN h
  exact (q9s0r (q9dk0 (i := .aconst_null) ⟨_, rfl, rfl⟩ hs ho h1)).trans h2
noncomputable def q9lf2 (n : q9EN) (K K2 : List (Nat × Int)) (rt : Nat → q9ST → Bool) (pc : Nat) (x : q9ST) (s a b : Nat) : Option (List (Nat × q9ST)) := cond (Nat.ble 1 (Nat.shiftRight s 8)) (q9cst x (-1) (pc + 1)) none
theorem q9lf2_ok {n : q9EN} {K K2 : List (Nat × Int)} {rt : Nat → q9ST → Bool} {cc : ByteArray} {pc : Nat} {x : q9ST} {s a b : Nat} {ss : List (Nat × q9ST)} (hs : s = q9bnum cc.data.toList >>> (8 * pc)) (ha : a = (Nat.shiftRight s 8) % 256) (hb : b = (Nat.shiftRight s 16) % 256) (ho : s % 256 = 2) (h : q9lf2 n K K2 rt pc x s a b = some ss) : q9step0 n K K2 (fun _ _ => none) rt cc pc x = some ss := by
  unfold q9lf2 at h
  obtain ⟨h1, h2⟩ := q9cndN h
  exact (q9s0r (q9dk0 (i := .iconst (-1)) ⟨_, rfl, rfl⟩ hs ho h1)).trans ((show q9stpI n K K2 rt pc x (.iconst (-1)) 1 = q9cst x (-1) (pc + 1) by unfold q9stpI; exact if_pos (by decide)).trans h2)
noncomputable def q9lf3 (n : q9EN) (K K2 : List (Nat × Int)) (rt : Nat → q9ST → Bool) (pc : Nat) (x : q9ST) (s a b : Nat) : Option (List (Nat × q9ST)) := cond (Nat.ble 1 (Nat.shiftRight s 8)) (q9cst x (0) (pc + 1)) none
theorem q9lf3_ok {n : q9EN} {K K2 : List (Nat × Int)} {rt : Nat → q9ST → Bool} {cc : ByteArray} {pc : Nat} {x : q9ST} {s a b : Nat} {ss : List (Nat × q9ST)} (hs : s = q9bnum cc.data.toList >>> (8 * pc)) (ha : a = (Nat.shiftRight s 8) % 256) (hb : b = (Nat.shiftRight s 16) % 256) (ho : s % 256 = 3) (h : q9lf3 n K K2 rt pc x s a b = some ss) : q9step0 n K K2 (fun _ _ => none) rt cc pc x = some ss := by
  unfold q9lf3 at h
  obtain ⟨h1, h2⟩ := q9cndN h
  exact (q9s0r (q9dk0 (i := .iconst (0)) ⟨_, rfl, rfl⟩ hs ho h1)).trans (show (if -2147483648 ≤ (0 : Int) ∧ (0 : Int) ≤ 2147483647 then q9cst x (0) (pc + 1) else none) = some ss from (if_pos (by decide)).trans h2)
noncomputable def q9lf4 (n : q9EN) (K K2 : List (Nat × Int)) (rt : Nat → q9ST → Bool) (pc : Nat) (x : q9ST) (s a b : Nat) : Option (List (Nat × q9ST)) := cond (Nat.ble 1 (Nat.shiftRight s 8)) (q9cst x (1) (pc + 1)) none
theorem q9lf4_ok {n : q9EN} {K K2 : List (Nat × Int)} {rt : Nat → q9ST → Bool} {cc : ByteArray} {pc : Nat} {x : q9ST} {s a b : Nat} {ss : List (Nat × q9ST)} (hs : s = q9bnum cc.data.toList >>> (8 * pc)) (ha : a = (Nat.shiftRight s 8) % 256) (hb : b = (Nat.shiftRight s 16) % 256) (ho : s % 256 = 4) (h : q9lf4 n K K2 rt pc x s a b = some ss) : q9step0 n K K2 (fun _ _ => none) rt cc pc x = some ss := by
  unfold q9lf4 at h
  obtain ⟨h1, h2⟩ := q9cndN h
  exact (q9s0r (q9dk0 (i := .iconst (1)) ⟨_, rfl, rfl⟩ hs ho h1)).trans (show (if -2147483648 ≤ (1 : Int) ∧ (1 : Int) ≤ 2147483647 then q9cst x (1) (pc + 1) else none) = some ss from (if_pos (by decide)).trans h2)
noncomputable def q9lf5 (n : q9EN) (K K2 : List (Nat × Int)) (rt : Nat → q9ST → Bool) (pc : Nat) (x : q9ST) (s a b : Nat) : Option (List (Nat × q9ST)) := cond (Nat.ble 1 (Nat.shiftRight s 8)) (q9cst x (2) (pc + 1)) none
theorem q9lf5_ok {n : q9EN} {K K2 : List (Nat × Int)} {rt : Nat → q9ST → Bool} {cc : ByteArray} {pc : Nat} {x : q9ST} {s a b : Nat} {ss : List (Nat × q9ST)} (hs : s = q9bnum cc.data.toList >>> (8 * pc)) (ha : a = (Nat.shiftRight s 8) % 256) (hb : b = (Nat.shiftRight s 16) % 256) (ho : s % 256 = 5) (h : q9lf5 n K K2 rt pc x s a b = some ss) : q9step0 n K K2 (fun _ _ => none) rt cc pc x = some ss := by
  unfold q9lf5 at h
  obtain ⟨h1, h2⟩ := q9cndN h
  exact (q9s0r (q9dk0 (i := .iconst (2)) ⟨_, rfl, rfl⟩ hs ho h1)).trans (show (if -2147483648 ≤ (2 : Int) ∧ (2 : Int) ≤ 2147483647 then q9cst x (2) (pc + 1) else none) = some ss from (if_pos (by decide)).trans h2)
noncomputable def q9lf6 (n : q9EN) (K K2 : List (Nat × Int)) (rt : Nat → q9ST → Bool) (pc : Nat) (x : q9ST) (s a b : Nat) : Option (List (Nat × q9ST)) := cond (Nat.ble 1 (Nat.shiftRight s 8)) (q9cst x (3) (pc + 1)) none
theorem q9lf6_ok {n : q9EN} {K K2 : List (Nat × Int)} {rt : Nat → q9ST → Bool} {cc : ByteArray} {pc : Nat} {x : q9ST} {s a b : Nat} {ss : List (Nat × q9ST)} (hs : s = q9bnum cc.data.toList >>> (8 * pc)) (ha : a = (Nat.shiftRight s 8) % 256) (hb : b = (Nat.shiftRight s 16) % 256) (ho : s % 256 = 6) (h : q9lf6 n K K2 rt pc x s a b = some ss) : q9step0 n K K2 (fun _ _ => none) rt cc pc x = some ss := by
  unfold q9lf6 at h
  obtain ⟨h1, h2⟩ := q9cndN h
  exact (q9s0r (q9dk0 (i := .iconst (3)) ⟨_, rfl, rfl⟩ hs ho h1)).trans (show (if -2147483648 ≤ (3 : Int) ∧ (3 : Int) ≤ 2147483647 then q9cst x (3) (pc + 1) else none) = some ss from (if_pos (by decide)).trans h2)
noncomputable def q9lf7 (n : q9EN) (K K2 : List (Nat × Int)) (rt : Nat → q9ST → Bool) (pc : Nat) (x : q9ST) (s a b : Nat) : Option (List (Nat × q9ST)) := cond (Nat.ble 1 (Nat.shiftRight s 8)) (q9cst x (4) (pc + 1)) none
theorem q9lf7_ok {n : q9EN} {K K2 : List (Nat × Int)} {rt : Nat → q9ST → Bool} {cc : ByteArray} {pc : Nat} {x : q9ST} {s a b : Nat} {ss : List (Nat × q9ST)} (hs : s = q9bnum cc.data.toList >>> (8 * pc)) (ha : a = (Nat.shiftRight s 8) % 256) (hb : b = (Nat.shiftRight s 16) % 256) (ho : s % 256 = 7) (h : q9lf7 n K K2 rt pc x s a b = some ss) : q9step0 n K K2 (fun _ _ => none) rt cc pc x = some ss := by
  unfold q9lf7 at h
  obtain ⟨h1, h2⟩ := q9cndN h
  exact (q9s0r (q9dk0 (i := .iconst (4)) ⟨_, rfl, rfl⟩ hs ho h1)).trans (show (if -2147483648 ≤ (4 : Int) ∧ (4 : Int) ≤ 2147483647 then q9cst x (4) (pc + 1) else none) = some ss from (if_pos (by decide)).trans h2)
noncomputable def q9lf8 (n : q9EN) (K K2 : List (Nat × Int)) (rt : Nat → q9ST → Bool) (pc : Nat) (x : q9ST) (s a b : Nat) : Option (List (Nat × q9ST)) := cond (Nat.ble 1 (Nat.shiftRight s 8)) (q9cst x (5) (pc + 1)) none
theorem q9lf8_ok {n : q9EN} {K K2 : List (Nat × Int)} {rt : Nat → q9ST → Bool} {cc : ByteArray} {pc : Nat} {x : q9ST} {s a b : Nat} {ss : List (Nat × q9ST)} (hs : s = q9bnum cc.data.toList >>> (8 * pc)) (ha : a = (Nat.shiftRight s 8) % 256) (hb : b = (Nat.shiftRight s 16) % 256) (ho : s % 256 = 8) (h : q9lf8 n K K2 rt pc x s a b = some ss) : q9step0 n K K2 (fun _ _ => none) rt cc pc x = some ss := by
  unfold q9lf8 at h
  obtain ⟨h1, h2⟩ := q9cndN h
  exact (q9s0r (q9dk0 (i := .iconst (5)) ⟨_, rfl, rfl⟩ hs ho h1)).trans (show (if -2147483648 ≤ (5 : Int) ∧ (5 : Int) ≤ 2147483647 then q9cst x (5) (pc + 1) else none) = some ss from (if_pos (by decide)).trans h2)
noncomputable def q9lf9 (n : q9EN) (K K2 : List (Nat × Int)) (rt : Nat → q9ST → Bool) (pc : Nat) (x : q9ST) (s a b : Nat) : Option (List (Nat × q9ST)) := cond (Nat.ble 1 (Nat.shiftRight s 8)) (q9exLong x (0 : Nat) (pc + 1)) none
theorem q9lf9_ok {n : q9EN} {K K2 : List (Nat × Int)} {rt : Nat → q9ST → Bool} {cc : ByteArray} {pc : Nat} {x : q9ST} {s a b : Nat} {ss : List (Nat × q9ST)} (hs : s = q9bnum cc.data.toList >>> (8 * pc)) (ha : a = (Nat.shiftRight s 8) % 256) (hb : b = (Nat.shiftRight s 16) % 256) (ho : s % 256 = 9) (h : q9lf9 n K K2 rt pc x s a b = some ss) : q9step0 n K K2 (fun _ _ => none) rt cc pc x = some ss := by
  unfold q9lf9 at h
  obtain ⟨h1, h2⟩ := q9cndN h
  exact (q9s0r (q9dk0 (i := .lconst 0) ⟨_, rfl, rfl⟩ hs ho h1)).trans h2
noncomputable def q9lf10 (n : q9EN) (K K2 : List (Nat × Int)) (rt : Nat → q9ST → Bool) (pc : Nat) (x : q9ST) (s a b : Nat) : Option (List (Nat × q9ST)) := cond (Nat.ble 1 (Nat.shiftRight s 8)) (q9exLong x (1 : Nat) (pc + 1)) none
theorem q9lf10_ok {n : q9EN} {K K2 : List (Nat × Int)} {rt : Nat → q9ST → Bool} {cc : ByteArray} {pc : Nat} {x : q9ST} {s a b : Nat} {ss : List (Nat × q9ST)} (hs : s = q9bnum cc.data.toList >>> (8 * pc)) (ha : a = (Nat.shiftRight s 8) % 256) (hb : b = (Nat.shiftRight s 16) % 256) (ho : s % 256 = 10) (h : q9lf10 n K K2 rt pc x s a b = some ss) : q9step0 n K K2 (fun _ _ => none) rt cc pc x = some ss := by
  unfold q9lf10 at h
  obtain ⟨h1, h2⟩ := q9cndN h
  exact (q9s0r (q9dk0 (i := .lconst 1) ⟨_, rfl, rfl⟩ hs ho h1)).trans h2
noncomputable def q9lf16 (n : q9EN) (K K2 : List (Nat × Int)) (rt : Nat → q9ST → Bool) (pc : Nat) (x : q9ST) (s a b : Nat) : Option (List (Nat × q9ST)) := cond (Nat.ble 1 (Nat.shiftRight s 16)) (q9fcOI (Reader.signed 8 a) (fun j => if -128 ≤ j ∧ j ≤ 127 then q9cst x j (pc + 2) else none)) none
theorem q9lf16_ok {n : q9EN} {K K2 : List (Nat × Int)} {rt : Nat → q9ST → Bool} {cc : ByteArray} {pc : Nat} {x : q9ST} {s a b : Nat} {ss : List (Nat × q9ST)} (hs : s = q9bnum cc.data.toList >>> (8 * pc)) (ha : a = (Nat.shiftRight s 8) % 256) (hb : b = (Nat.shiftRight s 16) % 256) (ho : s % 256 = 16) (h : q9lf16 n K K2 rt pc x s a b = some ss) : q9step0 n K K2 (fun _ _ => none) rt cc pc x = some ss := by
  unfold q9lf16 at h
  obtain ⟨h1, h2⟩ := q9cndN h
  rw [q9fcOI_eq] at h2
  exact (q9s0r (q9dk1s (mk := .bipush) ⟨_, rfl, rfl⟩ hs ho ha hb h1)).trans h2
noncomputable def q9lf17 (n : q9EN) (K K2 : List (Nat × Int)) (rt : Nat → q9ST → Bool) (pc : Nat) (x : q9ST) (s a b : Nat) : Option (List (Nat × q9ST)) := cond (Nat.ble 1 (Nat.shiftRight s 24)) (q9fcOI (Reader.signed 16 (Nat.add (Nat.mul a 256) b)) (fun j => if -32768 ≤ j ∧ j ≤ 32767 then q9cst x j (pc + 3) else none)) none
theorem q9lf17_ok {n : q9EN} {K K2 : List (Nat × Int)} {rt : Nat → q9ST → Bool} {cc : ByteArray} {pc : Nat} {x : q9ST} {s a b : Nat} {ss : List (Nat × q9ST)} (hs : s = q9bnum cc.data.toList >>> (8 * pc)) (ha : a = (Nat.shiftRight s 8) % 256) (hb : b = (Nat.shiftRight s 16) % 256) (ho : s % 256 = 17) (h : q9lf17 n K K2 rt pc x s a b = some ss) : q9step0 n K K2 (fun _ _ => none) rt cc pc x = some ss := by
  unfold q9lf17 at h
  obtain ⟨h1, h2⟩ := q9cndN h
  rw [q9fcOI_eq] at h2
  exact (q9s0r (q9dk2s (mk := .sipush) ⟨_, rfl, rfl⟩ hs ho ha hb h1)).trans h2
noncomputable def q9lf18 (n : q9EN) (K K2 : List (Nat × Int)) (rt : Nat → q9ST → Bool) (pc : Nat) (x : q9ST) (s a b : Nat) : Option (List (Nat × q9ST)) := cond (Nat.ble 1 (Nat.shiftRight s 16)) (q9fcO a (fun j => (match K.find? (fun q => q.1 == j) with
              | some q => if -2147483648 ≤ q.2 ∧ q.2 ≤ 2147483647 then q9cst x q.2 (pc + 2) else none
              | none => none))) none
theorem q9lf18_ok {n : q9EN} {K K2 : List (Nat × Int)} {rt : Nat → q9ST → Bool} {cc : ByteArray} {pc : Nat} {x : q9ST} {s a b : Nat} {ss : List (Nat × q9ST)} (hs : s = q9bnum cc.data.toList >>> (8 * pc)) (ha : a = (Nat.shiftRight s 8) % 256) (hb : b = (Nat.shiftRight s 16) % 256) (ho : s % 256 = 18) (h : q9lf18 n K K2 rt pc x s a b = some ss) : q9step0 n K K2 (fun _ _ => none) rt cc pc x = some ss := by
  unfold q9lf18 at h
  obtain ⟨h1, h2⟩ := q9cndN h
  rw [q9fcO_eq] at h2
  exact (q9s0r (q9dk1 (mk := .ldc) ⟨_, rfl, rfl⟩ hs ho ha hb h1)).trans h2
noncomputable def q9lf19 (n : q9EN) (K K2 : List (Nat × Int)) (rt : Nat → q9ST → Bool) (pc : Nat) (x : q9ST) (s a b : Nat) : Option (List (Nat × q9ST)) := cond (Nat.ble 1 (Nat.shiftRight s 24)) (q9fcO (Nat.add (Nat.mul a 256) b) (fun j => (match K.find? (fun q => q.1 == j) with
              | some q => if -2147483648 ≤ q.2 ∧ q.2 ≤ 2147483647 then q9cst x q.2 (pc + 3) else none
              | none => none))) none
theorem q9lf19_ok {n : q9EN} {K K2 : List (Nat × Int)} {rt : Nat → q9ST → Bool} {cc : ByteArray} {pc : Nat} {x : q9ST} {s a b : Nat} {ss : List (Nat × q9ST)} (hs : s = q9bnum cc.data.toList >>> (8 * pc)) (ha : a = (Nat.shiftRight s 8) % 256) (hb : b = (Nat.shiftRight s 16) % 256) (ho : s % 256 = 19) (h : q9lf19 n K K2 rt pc x s a b = some ss) : q9step0 n K K2 (fun _ _ => none) rt cc pc x = some ss := by
  unfold q9lf19 at h
  obtain ⟨h1, h2⟩ := q9cndN h
  rw [q9fcO_eq] at h2
  exact (q9s0r (q9dk2 (mk := .ldc_w) ⟨_, rfl, rfl⟩ hs ho ha hb h1)).trans h2
noncomputable def q9lf20 (n : q9EN) (K K2 : List (Nat × Int)) (rt : Nat → q9ST → Bool) (pc : Nat) (x : q9ST) (s a b : Nat) : Option (List (Nat × q9ST)) := cond (Nat.ble 1 (Nat.shiftRight s 24)) (q9fcO (Nat.add (Nat.mul a 256) b) (fun j => (match K2.find? (fun q => q.1 == j) with
              | some q => if -9223372036854775808 ≤ q.2 ∧ q.2 ≤ 9223372036854775807 then q9exLong x q.2 (pc + 3) else none
              | none => none))) none
theorem q9lf20_ok {n : q9EN} {K K2 : List (Nat × Int)} {rt : Nat → q9ST → Bool} {cc : ByteArray} {pc : Nat} {x : q9ST} {s a b : Nat} {ss : List (Nat × q9ST)} (hs : s = q9bnum cc.data.toList >>> (8 * pc)) (ha : a = (Nat.shiftRight s 8) % 256) (hb : b = (Nat.shiftRight s 16) % 256) (ho : s % 256 = 20) (h : q9lf20 n K K2 rt pc x s a b = some ss) : q9step0 n K K2 (fun _ _ => none) rt cc pc x = some ss := by
  unfold q9lf20 at h
  obtain ⟨h1, h2⟩ := q9cndN h
  rw [q9fcO_eq] at h2
  exact (q9s0r (q9dk2 (mk := .ldc2_w) ⟨_, rfl, rfl⟩ hs ho ha hb h1)).trans h2
noncomputable def q9lf21 (n : q9EN) (K K2 : List (Nat × Int)) (rt : Nat → q9ST → Bool) (pc : Nat) (x : q9ST) (s a b : Nat) : Option (List (Nat × q9ST)) := cond (Nat.ble 1 (Nat.shiftRight s 16)) (q9fcO a (fun j => q9ld x j q9isI (pc + 2))) none
theorem q9lf21_ok {n : q9EN} {K K2 : List (Nat × Int)} {rt : Nat → q9ST → Bool} {cc : ByteArray} {pc : Nat} {x : q9ST} {s a b : Nat} {ss : List (Nat × q9ST)} (hs : s = q9bnum cc.data.toList >>> (8 * pc)) (ha : a = (Nat.shiftRight s 8) % 256) (hb : b = (Nat.shiftRight s 16) % 256) (ho : s % 256 = 21) (h : q9lf21 n K K2 rt pc x s a b = some ss) : q9step0 n K K2 (fun _ _ => none) rt cc pc x = some ss := by
  unfold q9lf21 at h
  obtain ⟨h1, h2⟩ := q9cndN h
  rw [q9fcO_eq] at h2
  exact (q9s0r (q9dk1 (mk := .iload) ⟨_, rfl, rfl⟩ hs ho ha hb h1)).trans h2
noncomputable def q9lf22 (n : q9EN) (K K2 : List (Nat × Int)) (rt : Nat → q9ST → Bool) (pc : Nat) (x : q9ST) (s a b : Nat) : Option (List (Nat × q9ST)) := cond (Nat.ble 1 (Nat.shiftRight s 16)) (q9fcO a (fun j => q9ld x j q9isJ (pc + 2))) none
theorem q9lf22_ok {n : q9EN} {K K2 : List (Nat × Int)} {rt : Nat → q9ST → Bool} {cc : ByteArray} {pc : Nat} {x : q9ST} {s a b : Nat} {ss : List (Nat × q9ST)} (hs : s = q9bnum cc.data.toList >>> (8 * pc)) (ha : a = (Nat.shiftRight s 8) % 256) (hb : b = (Nat.shiftRight s 16) % 256) (ho : s % 256 = 22) (h : q9lf22 n K K2 rt pc x s a b = some ss) : q9step0 n K K2 (fun _ _ => none) rt cc pc x = some ss := by
  unfold q9lf22 at h
  obtain ⟨h1, h2⟩ := q9cndN h
  rw [q9fcO_eq] at h2
  exact (q9s0r (q9dk1 (mk := .lload) ⟨_, rfl, rfl⟩ hs ho ha hb h1)).trans h2
noncomputable def q9lf25 (n : q9EN) (K K2 : List (Nat × Int)) (rt : Nat → q9ST → Bool) (pc : Nat) (x : q9ST) (s a b : Nat) : Option (List (Nat × q9ST)) := cond (Nat.ble 1 (Nat.shiftRight s 16)) (q9fcO a (fun j => q9ld x j q9isA (pc + 2))) none
theorem q9lf25_ok {n : q9EN} {K K2 : List (Nat × Int)} {rt : Nat → q9ST → Bool} {cc : ByteArray} {pc : Nat} {x : q9ST} {s a b : Nat} {ss : List (Nat × q9ST)} (hs : s = q9bnum cc.data.toList >>> (8 * pc)) (ha : a = (Nat.shiftRight s 8) % 256) (hb : b = (Nat.shiftRight s 16) % 256) (ho : s % 256 = 25) (h : q9lf25 n K K2 rt pc x s a b = some ss) : q9step0 n K K2 (fun _ _ => none) rt cc pc x = some ss := by
  unfold q9lf25 at h
  obtain ⟨h1, h2⟩ := q9cndN h
  rw [q9fcO_eq] at h2
  exact (q9s0r (q9dk1 (mk := .aload) ⟨_, rfl, rfl⟩ hs ho ha hb h1)).trans h2
noncomputable def q9lf26 (n : q9EN) (K K2 : List (Nat × Int)) (rt : Nat → q9ST → Bool) (pc : Nat) (x : q9ST) (s a b : Nat) : Option (List (Nat × q9ST)) := cond (Nat.ble 1 (Nat.shiftRight s 8)) (q9ld x 0 q9isI (pc + 1)) none
theorem q9lf26_ok {n : q9EN} {K K2 : List (Nat × Int)} {rt : Nat → q9ST → Bool} {cc : ByteArray} {pc : Nat} {x : q9ST} {s a b : Nat} {ss : List (Nat × q9ST)} (hs : s = q9bnum cc.data.toList >>> (8 * pc)) (ha : a = (Nat.shiftRight s 8) % 256) (hb : b = (Nat.shiftRight s 16) % 256) (ho : s % 256 = 26) (h : q9lf26 n K K2 rt pc x s a b = some ss) : q9step0 n K K2 (fun _ _ => none) rt cc pc x = some ss := by
  unfold q9lf26 at h
  obtain ⟨h1, h2⟩ := q9cndN h
  exact (q9s0r (q9dk0 (i := .iload_n 0) ⟨_, rfl, rfl⟩ hs ho h1)).trans h2
noncomputable def q9lf27 (n : q9EN) (K K2 : List (Nat × Int)) (rt : Nat → q9ST → Bool) (pc : Nat) (x : q9ST) (s a b : Nat) : Option (List (Nat × q9ST)) := cond (Nat.ble 1 (Nat.shiftRight s 8)) (q9ld x 1 q9isI (pc + 1)) none
theorem q9lf27_ok {n : q9EN} {K K2 : List (Nat × Int)} {rt : Nat → q9ST → Bool} {cc : ByteArray} {pc : Nat} {x : q9ST} {s a b : Nat} {ss : List (Nat × q9ST)} (hs : s = q9bnum cc.data.toList >>> (8 * pc)) (ha : a = (Nat.shiftRight s 8) % 256) (hb : b = (Nat.shiftRight s 16) % 256) (ho : s % 256 = 27) (h : q9lf27 n K K2 rt pc x s a b = some ss) : q9step0 n K K2 (fun _ _ => none) rt cc pc x = some ss := by
  unfold q9lf27 at h
  obtain ⟨h1, h2⟩ := q9cndN h
  exact (q9s0r (q9dk0 (i := .iload_n 1) ⟨_, rfl, rfl⟩ hs ho h1)).trans h2
noncomputable def q9lf28 (n : q9EN) (K K2 : List (Nat × Int)) (rt : Nat → q9ST → Bool) (pc : Nat) (x : q9ST) (s a b : Nat) : Option (List (Nat × q9ST)) := cond (Nat.ble 1 (Nat.shiftRight s 8)) (q9ld x 2 q9isI (pc + 1)) none
theorem q9lf28_ok {n : q9EN} {K K2 : List (Nat × Int)} {rt : Nat → q9ST → Bool} {cc : ByteArray} {pc : Nat} {x : q9ST} {s a b : Nat} {ss : List (Nat × q9ST)} (hs : s = q9bnum cc.data.toList >>> (8 * pc)) (ha : a = (Nat.shiftRight s 8) % 256) (hb : b = (Nat.shiftRight s 16) % 256) (ho : s % 256 = 28) (h : q9lf28 n K K2 rt pc x s a b = some ss) : q9step0 n K K2 (fun _ _ => none) rt cc pc x = some ss := by
  unfold q9lf28 at h
  obtain ⟨h1, h2⟩ := q9cndN h
  exact (q9s0r (q9dk0 (i := .iload_n 2) ⟨_, rfl, rfl⟩ hs ho h1)).trans h2
noncomputable def q9lf29 (n : q9EN) (K K2 : List (Nat × Int)) (rt : Nat → q9ST → Bool) (pc : Nat) (x : q9ST) (s a b : Nat) : Option (List (Nat × q9ST)) := cond (Nat.ble 1 (Nat.shiftRight s 8)) (q9ld x 3 q9isI (pc + 1)) none
theorem q9lf29_ok {n : q9EN} {K K2 : List (Nat × Int)} {rt : Nat → q9ST → Bool} {cc : ByteArray} {pc : Nat} {x : q9ST} {s a b : Nat} {ss : List (Nat × q9ST)} (hs : s = q9bnum cc.data.toList >>> (8 * pc)) (ha : a = (Nat.shiftRight s 8) % 256) (hb : b = (Nat.shiftRight s 16) % 256) (ho : s % 256 = 29) (h : q9lf29 n K K2 rt pc x s a b = some ss) : q9step0 n K K2 (fun _ _ => none) rt cc pc x = some ss := by
  unfold q9lf29 at h
  obtain ⟨h1, h2⟩ := q9cndN h
  exact (q9s0r (q9dk0 (i := .iload_n 3) ⟨_, rfl, rfl⟩ hs ho h1)).trans h2
noncomputable def q9lf30 (n : q9EN) (K K2 : List (Nat × Int)) (rt : Nat → q9ST → Bool) (pc : Nat) (x : q9ST) (s a b : Nat) : Option (List (Nat × q9ST)) := cond (Nat.ble 1 (Nat.shiftRight s 8)) (q9ld x 0 q9isJ (pc + 1)) none
theorem q9lf30_ok {n : q9EN} {K K2 : List (Nat × Int)} {rt : Nat → q9ST → Bool} {cc : ByteArray} {pc : Nat} {x : q9ST} {s a b : Nat} {ss : List (Nat × q9ST)} (hs : s = q9bnum cc.data.toList >>> (8 * pc)) (ha : a = (Nat.shiftRight s 8) % 256) (hb : b = (Nat.shiftRight s 16) % 256) (ho : s % 256 = 30) (h : q9lf30 n K K2 rt pc x s a b = some ss) : q9step0 n K K2 (fun _ _ => none) rt cc pc x = some ss := by
  unfold q9lf30 at h
  obtain ⟨h1, h2⟩ := q9cndN h
  exact (q9s0r (q9dk0 (i := .lload_n 0) ⟨_, rfl, rfl⟩ hs ho h1)).trans h2
noncomputable def q9lf31 (n : q9EN) (K K2 : List (Nat × Int)) (rt : Nat → q9ST → Bool) (pc : Nat) (x : q9ST) (s a b : Nat) : Option (List (Nat × q9ST)) := cond (Nat.ble 1 (Nat.shiftRight s 8)) (q9ld x 1 q9isJ (pc + 1)) none
theorem q9lf31_ok {n : q9EN} {K K2 : List (Nat × Int)} {rt : Nat → q9ST → Bool} {cc : ByteArray} {pc : Nat} {x : q9ST} {s a b : Nat} {ss : List (Nat × q9ST)} (hs : s = q9bnum cc.data.toList >>> (8 * pc)) (ha : a = (Nat.shiftRight s 8) % 256) (hb : b = (Nat.shiftRight s 16) % 256) (ho : s % 256 = 31) (h : q9lf31 n K K2 rt pc x s a b = some ss) : q9step0 n K K2 (fun _ _ => none) rt cc pc x = some ss := by
  unfold q9lf31 at h
  obtain ⟨h1, h2⟩ := q9cndN h
  exact (q9s0r (q9dk0 (i := .lload_n 1) ⟨_, rfl, rfl⟩ hs ho h1)).trans h2
noncomputable def q9lf32 (n : q9EN) (K K2 : List (Nat × Int)) (rt : Nat → q9ST → Bool) (pc : Nat) (x : q9ST) (s a b : Nat) : Option (List (Nat × q9ST)) := cond (Nat.ble 1 (Nat.shiftRight s 8)) (q9ld x 2 q9isJ (pc + 1)) none
theorem q9lf32_ok {n : q9EN} {K K2 : List (Nat × Int)} {rt : Nat → q9ST → Bool} {cc : ByteArray} {pc : Nat} {x : q9ST} {s a b : Nat} {ss : List (Nat × q9ST)} (hs : s = q9bnum cc.data.toList >>> (8 * pc)) (ha : a = (Nat.shiftRight s 8) % 256) (hb : b = (Nat.shiftRight s 16) % 256) (ho : s % 256 = 32) (h : q9lf32 n K K2 rt pc x s a b = some ss) : q9step0 n K K2 (fun _ _ => none) rt cc pc x = some ss := by
  unfold q9lf32 at h
  obtain ⟨h1, h2⟩ := q9cndN h
  exact (q9s0r (q9dk0 (i := .lload_n 2) ⟨_, rfl, rfl⟩ hs ho h1)).trans h2
noncomputable def q9lf33 (n : q9EN) (K K2 : List (Nat × Int)) (rt : Nat → q9ST → Bool) (pc : Nat) (x : q9ST) (s a b : Nat) : Option (List (Nat × q9ST)) := cond (Nat.ble 1 (Nat.shiftRight s 8)) (q9ld x 3 q9isJ (pc + 1)) none
theorem q9lf33_ok {n : q9EN} {K K2 : List (Nat × Int)} {rt : Nat → q9ST → Bool} {cc : ByteArray} {pc : Nat} {x : q9ST} {s a b : Nat} {ss : List (Nat × q9ST)} (hs : s = q9bnum cc.data.toList >>> (8 * pc)) (ha : a = (Nat.shiftRight s 8) % 256) (hb : b = (Nat.shiftRight s 16) % 256) (ho : s % 256 = 33) (h : q9lf33 n K K2 rt pc x s a b = some ss) : q9step0 n K K2 (fun _ _ => none) rt cc pc x = some ss := by
  unfold q9lf33 at h
  obtain ⟨h1, h2⟩ := q9cndN h
  exact (q9s0r (q9dk0 (i := .lload_n 3) ⟨_, rfl, rfl⟩ hs ho h1)).trans h2
noncomputable def q9lf42 (n : q9EN) (K K2 : List (Nat × Int)) (rt : Nat → q9ST → Bool) (pc : Nat) (x : q9ST) (s a b : Nat) : Option (List (Nat × q9ST)) := cond (Nat.ble 1 (Nat.shiftRight s 8)) (q9ld x 0 q9isA (pc + 1)) none
theorem q9lf42_ok {n : q9EN} {K K2 : List (Nat × Int)} {rt : Nat → q9ST → Bool} {cc : ByteArray} {pc : Nat} {x : q9ST} {s a b : Nat} {ss : List (Nat × q9ST)} (hs : s = q9bnum cc.data.toList >>> (8 * pc)) (ha : a = (Nat.shiftRight s 8) % 256) (hb : b = (Nat.shiftRight s 16) % 256) (ho : s % 256 = 42) (h : q9lf42 n K K2 rt pc x s a b = some ss) : q9step0 n K K2 (fun _ _ => none) rt cc pc x = some ss := by
  unfold q9lf42 at h
  obtain ⟨h1, h2⟩ := q9cndN h
  exact (q9s0r (q9dk0 (i := .aload_n 0) ⟨_, rfl, rfl⟩ hs ho h1)).trans h2
noncomputable def q9lf43 (n : q9EN) (K K2 : List (Nat × Int)) (rt : Nat → q9ST → Bool) (pc : Nat) (x : q9ST) (s a b : Nat) : Option (List (Nat × q9ST)) := cond (Nat.ble 1 (Nat.shiftRight s 8)) (q9ld x 1 q9isA (pc + 1)) none
theorem q9lf43_ok {n : q9EN} {K K2 : List (Nat × Int)} {rt : Nat → q9ST → Bool} {cc : ByteArray} {pc : Nat} {x : q9ST} {s a b : Nat} {ss : List (Nat × q9ST)} (hs : s = q9bnum cc.data.toList >>> (8 * pc)) (ha : a = (Nat.shiftRight s 8) % 256) (hb : b = (Nat.shiftRight s 16) % 256) (ho : s % 256 = 43) (h : q9lf43 n K K2 rt pc x s a b = some ss) : q9step0 n K K2 (fun _ _ => none) rt cc pc x = some ss := by
  unfold q9lf43 at h
  obtain ⟨h1, h2⟩ := q9cndN h
  exact (q9s0r (q9dk0 (i := .aload_n 1) ⟨_, rfl, rfl⟩ hs ho h1)).trans h2
noncomputable def q9lf44 (n : q9EN) (K K2 : List (Nat × Int)) (rt : Nat → q9ST → Bool) (pc : Nat) (x : q9ST) (s a b : Nat) : Option (List (Nat × q9ST)) := cond (Nat.ble 1 (Nat.shiftRight s 8)) (q9ld x 2 q9isA (pc + 1)) none
theorem q9lf44_ok {n : q9EN} {K K2 : List (Nat × Int)} {rt : Nat → q9ST → Bool} {cc : ByteArray} {pc : Nat} {x : q9ST} {s a b : Nat} {ss : List (Nat × q9ST)} (hs : s = q9bnum cc.data.toList >>> (8 * pc)) (ha : a = (Nat.shiftRight s 8) % 256) (hb : b = (Nat.shiftRight s 16) % 256) (ho : s % 256 = 44) (h : q9lf44 n K K2 rt pc x s a b = some ss) : q9step0 n K K2 (fun _ _ => none) rt cc pc x = some ss := by
  unfold q9lf44 at h
  obtain ⟨h1, h2⟩ := q9cndN h
  exact (q9s0r (q9dk0 (i := .aload_n 2) ⟨_, rfl, rfl⟩ hs ho h1)).trans h2
noncomputable def q9lf45 (n : q9EN) (K K2 : List (Nat × Int)) (rt : Nat → q9ST → Bool) (pc : Nat) (x : q9ST) (s a b : Nat) : Option (List (Nat × q9ST)) := cond (Nat.ble 1 (Nat.shiftRight s 8)) (q9ld x 3 q9isA (pc + 1)) none
theorem q9lf45_ok {n : q9EN} {K K2 : List (Nat × Int)} {rt : Nat → q9ST → Bool} {cc : ByteArray} {pc : Nat} {x : q9ST} {s a b : Nat} {ss : List (Nat × q9ST)} (hs : s = q9bnum cc.data.toList >>> (8 * pc)) (ha : a = (Nat.shiftRight s 8) % 256) (hb : b = (Nat.shiftRight s 16) % 256) (ho : s % 256 = 45) (h : q9lf45 n K K2 rt pc x s a b = some ss) : q9step0 n K K2 (fun _ _ => none) rt cc pc x = some ss := by
  unfold q9lf45 at h
  obtain ⟨h1, h2⟩ := q9cndN h
  exact (q9s0r (q9dk0 (i := .aload_n 3) ⟨_, rfl, rfl⟩ hs ho h1)).trans h2
noncomputable def q9lf46 (n : q9EN) (K K2 : List (Nat × Int)) (rt : Nat → q9ST → Bool) (pc : Nat) (x : q9ST) (s a b : Nat) : Option (List (Nat × q9ST)) := cond (Nat.ble 1 (Nat.shiftRight s 8)) (q9exLd (q9eB n) x [0] (pc + 1)) none
theorem q9lf46_ok {n : q9EN} {K K2 : List (Nat × Int)} {rt : Nat → q9ST → Bool} {cc : ByteArray} {pc : Nat} {x : q9ST} {s a b : Nat} {ss : List (Nat × q9ST)} (hs : s = q9bnum cc.data.toList >>> (8 * pc)) (ha : a = (Nat.shiftRight s 8) % 256) (hb : b = (Nat.shiftRight s 16) % 256) (ho : s % 256 = 46) (h : q9lf46 n K K2 rt pc x s a b = some ss) : q9step0 n K K2 (fun _ _ => none) rt cc pc x = some ss := by
  unfold q9lf46 at h
  obtain ⟨h1, h2⟩ := q9cndN h
  exact (q9s0r (q9dk0 (i := .iaload) ⟨_, rfl, rfl⟩ hs ho h1)).trans h2
noncomputable def q9lf47 (n : q9EN) (K K2 : List (Nat × Int)) (rt : Nat → q9ST → Bool) (pc : Nat) (x : q9ST) (s a b : Nat) : Option (List (Nat × q9ST)) := cond (Nat.ble 1 (Nat.shiftRight s 8)) (q9exLd (q9eB n) x [2] (pc + 1)) none
theorem q9lf47_ok {n : q9EN} {K K2 : List (Nat × Int)} {rt : Nat → q9ST → Bool} {cc : ByteArray} {pc : Nat} {x : q9ST} {s a b : Nat} {ss : List (Nat × q9ST)} (hs : s = q9bnum cc.data.toList >>> (8 * pc)) (ha : a = (Nat.shiftRight s 8) % 256) (hb : b = (Nat.shiftRight s 16) % 256) (ho : s % 256 = 47) (h : q9lf47 n K K2 rt pc x s a b = some ss) : q9step0 n K K2 (fun _ _ => none) rt cc pc x = some ss := by
  unfold q9lf47 at h
  obtain ⟨h1, h2⟩ := q9cndN h
  exact (q9s0r (q9dk0 (i := .laload) ⟨_, rfl, rfl⟩ hs ho h1)).trans h2
noncomputable def q9lf50 (n : q9EN) (K K2 : List (Nat × Int)) (rt : Nat → q9ST → Bool) (pc : Nat) (x : q9ST) (s a b : Nat) : Option (List (Nat × q9ST)) := cond (Nat.ble 1 (Nat.shiftRight s 8)) (q9exLd (q9eB n) x [4, 5, 6] (pc + 1)) none
theorem q9lf50_ok {n : q9EN} {K K2 : List (Nat × Int)} {rt : Nat → q9ST → Bool} {cc : ByteArray} {pc : Nat} {x : q9ST} {s a b : Nat} {ss : List (Nat × q9ST)} (hs : s = q9bnum cc.data.toList >>> (8 * pc)) (ha : a = (Nat.shiftRight s 8) % 256) (hb : b = (Nat.shiftRight s 16) % 256) (ho : s % 256 = 50) (h : q9lf50 n K K2 rt pc x s a b = some ss) : q9step0 n K K2 (fun _ _ => none) rt cc pc x = some ss := by
  unfold q9lf50 at h
  obtain ⟨h1, h2⟩ := q9cndN h
  exact (q9s0r (q9dk0 (i := .aaload) ⟨_, rfl, rfl⟩ hs ho h1)).trans h2
noncomputable def q9lf51 (n : q9EN) (K K2 : List (Nat × Int)) (rt : Nat → q9ST → Bool) (pc : Nat) (x : q9ST) (s a b : Nat) : Option (List (Nat × q9ST)) := cond (Nat.ble 1 (Nat.shiftRight s 8)) (q9exLd (q9eB n) x [1, 3] (pc + 1)) none
theorem q9lf51_ok {n : q9EN} {K K2 : List (Nat × Int)} {rt : Nat → q9ST → Bool} {cc : ByteArray} {pc : Nat} {x : q9ST} {s a b : Nat} {ss : List (Nat × q9ST)} (hs : s = q9bnum cc.data.toList >>> (8 * pc)) (ha : a = (Nat.shiftRight s 8) % 256) (hb : b = (Nat.shiftRight s 16) % 256) (ho : s % 256 = 51) (h : q9lf51 n K K2 rt pc x s a b = some ss) : q9step0 n K K2 (fun _ _ => none) rt cc pc x = some ss := by
  unfold q9lf51 at h
  obtain ⟨h1, h2⟩ := q9cndN h
  exact (q9s0r (q9dk0 (i := .baload) ⟨_, rfl, rfl⟩ hs ho h1)).trans h2
noncomputable def q9lf54 (n : q9EN) (K K2 : List (Nat × Int)) (rt : Nat → q9ST → Bool) (pc : Nat) (x : q9ST) (s a b : Nat) : Option (List (Nat × q9ST)) := cond (Nat.ble 1 (Nat.shiftRight s 16)) (q9fcO a (fun j => q9sto x j (q9eN n) q9isI false (pc + 2))) none
theorem q9lf54_ok {n : q9EN} {K K2 : List (Nat × Int)} {rt : Nat → q9ST → Bool} {cc : ByteArray} {pc : Nat} {x : q9ST} {s a b : Nat} {ss : List (Nat × q9ST)} (hs : s = q9bnum cc.data.toList >>> (8 * pc)) (ha : a = (Nat.shiftRight s 8) % 256) (hb : b = (Nat.shiftRight s 16) % 256) (ho : s % 256 = 54) (h : q9lf54 n K K2 rt pc x s a b = some ss) : q9step0 n K K2 (fun _ _ => none) rt cc pc x = some ss := by
  unfold q9lf54 at h
  obtain ⟨h1, h2⟩ := q9cndN h
  rw [q9fcO_eq] at h2
  exact (q9s0r (q9dk1 (mk := .istore) ⟨_, rfl, rfl⟩ hs ho ha hb h1)).trans h2
noncomputable def q9lf55 (n : q9EN) (K K2 : List (Nat × Int)) (rt : Nat → q9ST → Bool) (pc : Nat) (x : q9ST) (s a b : Nat) : Option (List (Nat × q9ST)) := cond (Nat.ble 1 (Nat.shiftRight s 16)) (q9fcO a (fun j => q9sto x j (q9eN n) q9isJ true (pc + 2))) none
theorem q9lf55_ok {n : q9EN} {K K2 : List (Nat × Int)} {rt : Nat → q9ST → Bool} {cc : ByteArray} {pc : Nat} {x : q9ST} {s a b : Nat} {ss : List (Nat × q9ST)} (hs : s = q9bnum cc.data.toList >>> (8 * pc)) (ha : a = (Nat.shiftRight s 8) % 256) (hb : b = (Nat.shiftRight s 16) % 256) (ho : s % 256 = 55) (h : q9lf55 n K K2 rt pc x s a b = some ss) : q9step0 n K K2 (fun _ _ => none) rt cc pc x = some ss := by
  unfold q9lf55 at h
  obtain ⟨h1, h2⟩ := q9cndN h
  rw [q9fcO_eq] at h2
  exact (q9s0r (q9dk1 (mk := .lstore) ⟨_, rfl, rfl⟩ hs ho ha hb h1)).trans h2
noncomputable def q9lf58 (n : q9EN) (K K2 : List (Nat × Int)) (rt : Nat → q9ST → Bool) (pc : Nat) (x : q9ST) (s a b : Nat) : Option (List (Nat × q9ST)) := cond (Nat.ble 1 (Nat.shiftRight s 16)) (q9fcO a (fun j => q9sto x j (q9eN n) q9isA false (pc + 2))) none
theorem q9lf58_ok {n : q9EN} {K K2 : List (Nat × Int)} {rt : Nat → q9ST → Bool} {cc : ByteArray} {pc : Nat} {x : q9ST} {s a b : Nat} {ss : List (Nat × q9ST)} (hs : s = q9bnum cc.data.toList >>> (8 * pc)) (ha : a = (Nat.shiftRight s 8) % 256) (hb : b = (Nat.shiftRight s 16) % 256) (ho : s % 256 = 58) (h : q9lf58 n K K2 rt pc x s a b = some ss) : q9step0 n K K2 (fun _ _ => none) rt cc pc x = some ss := by
  unfold q9lf58 at h
  obtain ⟨h1, h2⟩ := q9cndN h
  rw [q9fcO_eq] at h2
  exact (q9s0r (q9dk1 (mk := .astore) ⟨_, rfl, rfl⟩ hs ho ha hb h1)).trans h2
noncomputable def q9lf59 (n : q9EN) (K K2 : List (Nat × Int)) (rt : Nat → q9ST → Bool) (pc : Nat) (x : q9ST) (s a b : Nat) : Option (List (Nat × q9ST)) := cond (Nat.ble 1 (Nat.shiftRight s 8)) (q9sto x 0 (q9eN n) q9isI false (pc + 1)) none
theorem q9lf59_ok {n : q9EN} {K K2 : List (Nat × Int)} {rt : Nat → q9ST → Bool} {cc : ByteArray} {pc : Nat} {x : q9ST} {s a b : Nat} {ss : List (Nat × q9ST)} (hs : s = q9bnum cc.data.toList >>> (8 * pc)) (ha : a = (Nat.shiftRight s 8) % 256) (hb : b = (Nat.shiftRight s 16) % 256) (ho : s % 256 = 59) (h : q9lf59 n K K2 rt pc x s a b = some ss) : q9step0 n K K2 (fun _ _ => none) rt cc pc x = some ss := by
  unfold q9lf59 at h
  obtain ⟨h1, h2⟩ := q9cndN h
  exact (q9s0r (q9dk0 (i := .istore_n 0) ⟨_, rfl, rfl⟩ hs ho h1)).trans h2
noncomputable def q9lf60 (n : q9EN) (K K2 : List (Nat × Int)) (rt : Nat → q9ST → Bool) (pc : Nat) (x : q9ST) (s a b : Nat) : Option (List (Nat × q9ST)) := cond (Nat.ble 1 (Nat.shiftRight s 8)) (q9sto x 1 (q9eN n) q9isI false (pc + 1)) none
theorem q9lf60_ok {n : q9EN} {K K2 : List (Nat × Int)} {rt : Nat → q9ST → Bool} {cc : ByteArray} {pc : Nat} {x : q9ST} {s a b : Nat} {ss : List (Nat × q9ST)} (hs : s = q9bnum cc.data.toList >>> (8 * pc)) (ha : a = (Nat.shiftRight s 8) % 256) (hb : b = (Nat.shiftRight s 16) % 256) (ho : s % 256 = 60) (h : q9lf60 n K K2 rt pc x s a b = some ss) : q9step0 n K K2 (fun _ _ => none) rt cc pc x = some ss := by
  unfold q9lf60 at h
  obtain ⟨h1, h2⟩ := q9cndN h
  exact (q9s0r (q9dk0 (i := .istore_n 1) ⟨_, rfl, rfl⟩ hs ho h1)).trans h2
noncomputable def q9lf61 (n : q9EN) (K K2 : List (Nat × Int)) (rt : Nat → q9ST → Bool) (pc : Nat) (x : q9ST) (s a b : Nat) : Option (List (Nat × q9ST)) := cond (Nat.ble 1 (Nat.shiftRight s 8)) (q9sto x 2 (q9eN n) q9isI false (pc + 1)) none
theorem q9lf61_ok {n : q9EN} {K K2 : List (Nat × Int)} {rt : Nat → q9ST → Bool} {cc : ByteArray} {pc : Nat} {x : q9ST} {s a b : Nat} {ss : List (Nat × q9ST)} (hs : s = q9bnum cc.data.toList >>> (8 * pc)) (ha : a = (Nat.shiftRight s 8) % 256) (hb : b = (Nat.shiftRight s 16) % 256) (ho : s % 256 = 61) (h : q9lf61 n K K2 rt pc x s a b = some ss) : q9step0 n K K2 (fun _ _ => none) rt cc pc x = some ss := by
  unfold q9lf61 at h
  obtain ⟨h1, h2⟩ := q9cndN h
  exact (q9s0r (q9dk0 (i := .istore_n 2) ⟨_, rfl, rfl⟩ hs ho h1)).trans h2
noncomputable def q9lf62 (n : q9EN) (K K2 : List (Nat × Int)) (rt : Nat → q9ST → Bool) (pc : Nat) (x : q9ST) (s a b : Nat) : Option (List (Nat × q9ST)) := cond (Nat.ble 1 (Nat.shiftRight s 8)) (q9sto x 3 (q9eN n) q9isI false (pc + 1)) none
theorem q9lf62_ok {n : q9EN} {K K2 : List (Nat × Int)} {rt : Nat → q9ST → Bool} {cc : ByteArray} {pc : Nat} {x : q9ST} {s a b : Nat} {ss : List (Nat × q9ST)} (hs : s = q9bnum cc.data.toList >>> (8 * pc)) (ha : a = (Nat.shiftRight s 8) % 256) (hb : b = (Nat.shiftRight s 16) % 256) (ho : s % 256 = 62) (h : q9lf62 n K K2 rt pc x s a b = some ss) : q9step0 n K K2 (fun _ _ => none) rt cc pc x = some ss := by
  unfold q9lf62 at h
  obtain ⟨h1, h2⟩ := q9cndN h
  exact (q9s0r (q9dk0 (i := .istore_n 3) ⟨_, rfl, rfl⟩ hs ho h1)).trans h2
noncomputable def q9lf63 (n : q9EN) (K K2 : List (Nat × Int)) (rt : Nat → q9ST → Bool) (pc : Nat) (x : q9ST) (s a b : Nat) : Option (List (Nat × q9ST)) := cond (Nat.ble 1 (Nat.shiftRight s 8)) (q9sto x 0 (q9eN n) q9isJ true (pc + 1)) none
theorem q9lf63_ok {n : q9EN} {K K2 : List (Nat × Int)} {rt : Nat → q9ST → Bool} {cc : ByteArray} {pc : Nat} {x : q9ST} {s a b : Nat} {ss : List (Nat × q9ST)} (hs : s = q9bnum cc.data.toList >>> (8 * pc)) (ha : a = (Nat.shiftRight s 8) % 256) (hb : b = (Nat.shiftRight s 16) % 256) (ho : s % 256 = 63) (h : q9lf63 n K K2 rt pc x s a b = some ss) : q9step0 n K K2 (fun _ _ => none) rt cc pc x = some ss := by
  unfold q9lf63 at h
  obtain ⟨h1, h2⟩ := q9cndN h
  exact (q9s0r (q9dk0 (i := .lstore_n 0) ⟨_, rfl, rfl⟩ hs ho h1)).trans h2
noncomputable def q9lf64 (n : q9EN) (K K2 : List (Nat × Int)) (rt : Nat → q9ST → Bool) (pc : Nat) (x : q9ST) (s a b : Nat) : Option (List (Nat × q9ST)) := cond (Nat.ble 1 (Nat.shiftRight s 8)) (q9sto x 1 (q9eN n) q9isJ true (pc + 1)) none
theorem q9lf64_ok {n : q9EN} {K K2 : List (Nat × Int)} {rt : Nat → q9ST → Bool} {cc : ByteArray} {pc : Nat} {x : q9ST} {s a b : Nat} {ss : List (Nat × q9ST)} (hs : s = q9bnum cc.data.toList >>> (8 * pc)) (ha : a = (Nat.shiftRight s 8) % 256) (hb : b = (Nat.shiftRight s 16) % 256) (ho : s % 256 = 64) (h : q9lf64 n K K2 rt pc x s a b = some ss) : q9step0 n K K2 (fun _ _ => none) rt cc pc x = some ss := by
  unfold q9lf64 at h
  obtain ⟨h1, h2⟩ := q9cndN h
  exact (q9s0r (q9dk0 (i := .lstore_n 1) ⟨_, rfl, rfl⟩ hs ho h1)).trans h2
noncomputable def q9lf65 (n : q9EN) (K K2 : List (Nat × Int)) (rt : Nat → q9ST → Bool) (pc : Nat) (x : q9ST) (s a b : Nat) : Option (List (Nat × q9ST)) := cond (Nat.ble 1 (Nat.shiftRight s 8)) (q9sto x 2 (q9eN n) q9isJ true (pc + 1)) none
theorem q9lf65_ok {n : q9EN} {K K2 : List (Nat × Int)} {rt : Nat → q9ST → Bool} {cc : ByteArray} {pc : Nat} {x : q9ST} {s a b : Nat} {ss : List (Nat × q9ST)} (hs : s = q9bnum cc.data.toList >>> (8 * pc)) (ha : a = (Nat.shiftRight s 8) % 256) (hb : b = (Nat.shiftRight s 16) % 256) (ho : s % 256 = 65) (h : q9lf65 n K K2 rt pc x s a b = some ss) : q9step0 n K K2 (fun _ _ => none) rt cc pc x = some ss := by
  unfold q9lf65 at h
  obtain ⟨h1, h2⟩ := q9cndN h
  exact (q9s0r (q9dk0 (i := .lstore_n 2) ⟨_, rfl, rfl⟩ hs ho h1)).trans h2
noncomputable def q9lf66 (n : q9EN) (K K2 : List (Nat × Int)) (rt : Nat → q9ST → Bool) (pc : Nat) (x : q9ST) (s a b : Nat) : Option (List (Nat × q9ST)) := cond (Nat.ble 1 (Nat.shiftRight s 8)) (q9sto x 3 (q9eN n) q9isJ true (pc + 1)) none
theorem q9lf66_ok {n : q9EN} {K K2 : List (Nat × Int)} {rt : Nat → q9ST → Bool} {cc : ByteArray} {pc : Nat} {x : q9ST} {s a b : Nat} {ss : List (Nat × q9ST)} (hs : s = q9bnum cc.data.toList >>> (8 * pc)) (ha : a = (Nat.shiftRight s 8) % 256) (hb : b = (Nat.shiftRight s 16) % 256) (ho : s % 256 = 66) (h : q9lf66 n K K2 rt pc x s a b = some ss) : q9step0 n K K2 (fun _ _ => none) rt cc pc x = some ss := by
  unfold q9lf66 at h
  obtain ⟨h1, h2⟩ := q9cndN h
  exact (q9s0r (q9dk0 (i := .lstore_n 3) ⟨_, rfl, rfl⟩ hs ho h1)).trans h2
noncomputable def q9lf75 (n : q9EN) (K K2 : List (Nat × Int)) (rt : Nat → q9ST → Bool) (pc : Nat) (x : q9ST) (s a b : Nat) : Option (List (Nat × q9ST)) := cond (Nat.ble 1 (Nat.shiftRight s 8)) (q9sto x 0 (q9eN n) q9isA false (pc + 1)) none
theorem q9lf75_ok {n : q9EN} {K K2 : List (Nat × Int)} {rt : Nat → q9ST → Bool} {cc : ByteArray} {pc : Nat} {x : q9ST} {s a b : Nat} {ss : List (Nat × q9ST)} (hs : s = q9bnum cc.data.toList >>> (8 * pc)) (ha : a = (Nat.shiftRight s 8) % 256) (hb : b = (Nat.shiftRight s 16) % 256) (ho : s % 256 = 75) (h : q9lf75 n K K2 rt pc x s a b = some ss) : q9step0 n K K2 (fun _ _ => none) rt cc pc x = some ss := by
  unfold q9lf75 at h
  obtain ⟨h1, h2⟩ := q9cndN h
  exact (q9s0r (q9dk0 (i := .astore_n 0) ⟨_, rfl, rfl⟩ hs ho h1)).trans h2
noncomputable def q9lf76 (n : q9EN) (K K2 : List (Nat × Int)) (rt : Nat → q9ST → Bool) (pc : Nat) (x : q9ST) (s a b : Nat) : Option (List (Nat × q9ST)) := cond (Nat.ble 1 (Nat.shiftRight s 8)) (q9sto x 1 (q9eN n) q9isA false (pc + 1)) none
theorem q9lf76_ok {n : q9EN} {K K2 : List (Nat × Int)} {rt : Nat → q9ST → Bool} {cc : ByteArray} {pc : Nat} {x : q9ST} {s a b : Nat} {ss : List (Nat × q9ST)} (hs : s = q9bnum cc.data.toList >>> (8 * pc)) (ha : a = (Nat.shiftRight s 8) % 256) (hb : b = (Nat.shiftRight s 16) % 256) (ho : s % 256 = 76) (h : q9lf76 n K K2 rt pc x s a b = some ss) : q9step0 n K K2 (fun _ _ => none) rt cc pc x = some ss := by
  unfold q9lf76 at h
  obtain ⟨h1, h2⟩ := q9cndN h
  exact (q9s0r (q9dk0 (i := .astore_n 1) ⟨_, rfl, rfl⟩ hs ho h1)).trans h2
noncomputable def q9lf77 (n : q9EN) (K K2 : List (Nat × Int)) (rt : Nat → q9ST → Bool) (pc : Nat) (x : q9ST) (s a b : Nat) : Option (List (Nat × q9ST)) := cond (Nat.ble 1 (Nat.shiftRight s 8)) (q9sto x 2 (q9eN n) q9isA false (pc + 1)) none
theorem q9lf77_ok {n : q9EN} {K K2 : List (Nat × Int)} {rt : Nat → q9ST → Bool} {cc : ByteArray} {pc : Nat} {x : q9ST} {s a b : Nat} {ss : List (Nat × q9ST)} (hs : s = q9bnum cc.data.toList >>> (8 * pc)) (ha : a = (Nat.shiftRight s 8) % 256) (hb : b = (Nat.shiftRight s 16) % 256) (ho : s % 256 = 77) (h : q9lf77 n K K2 rt pc x s a b = some ss) : q9step0 n K K2 (fun _ _ => none) rt cc pc x = some ss := by
  unfold q9lf77 at h
  obtain ⟨h1, h2⟩ := q9cndN h
  exact (q9s0r (q9dk0 (i := .astore_n 2) ⟨_, rfl, rfl⟩ hs ho h1)).trans h2
noncomputable def q9lf78 (n : q9EN) (K K2 : List (Nat × Int)) (rt : Nat → q9ST → Bool) (pc : Nat) (x : q9ST) (s a b : Nat) : Option (List (Nat × q9ST)) := cond (Nat.ble 1 (Nat.shiftRight s 8)) (q9sto x 3 (q9eN n) q9isA false (pc + 1)) none
theorem q9lf78_ok {n : q9EN} {K K2 : List (Nat × Int)} {rt : Nat → q9ST → Bool} {cc : ByteArray} {pc : Nat} {x : q9ST} {s a b : Nat} {ss : List (Nat × q9ST)} (hs : s = q9bnum cc.data.toList >>> (8 * pc)) (ha : a = (Nat.shiftRight s 8) % 256) (hb : b = (Nat.shiftRight s 16) % 256) (ho : s % 256 = 78) (h : q9lf78 n K K2 rt pc x s a b = some ss) : q9step0 n K K2 (fun _ _ => none) rt cc pc x = some ss := by
  unfold q9lf78 at h
  obtain ⟨h1, h2⟩ := q9cndN h
  exact (q9s0r (q9dk0 (i := .astore_n 3) ⟨_, rfl, rfl⟩ hs ho h1)).trans h2
noncomputable def q9lf79 (n : q9EN) (K K2 : List (Nat × Int)) (rt : Nat → q9ST → Bool) (pc : Nat) (x : q9ST) (s a b : Nat) : Option (List (Nat × q9ST)) := cond (Nat.ble 1 (Nat.shiftRight s 8)) (q9exSt (q9eB n) (q9eW n) x [0] (pc + 1)) none
theorem q9lf79_ok {n : q9EN} {K K2 : List (Nat × Int)} {rt : Nat → q9ST → Bool} {cc : ByteArray} {pc : Nat} {x : q9ST} {s a b : Nat} {ss : List (Nat × q9ST)} (hs : s = q9bnum cc.data.toList >>> (8 * pc)) (ha : a = (Nat.shiftRight s 8) % 256) (hb : b = (Nat.shiftRight s 16) % 256) (ho : s % 256 = 79) (h : q9lf79 n K K2 rt pc x s a b = some ss) : q9step0 n K K2 (fun _ _ => none) rt cc pc x = some ss := by
  unfold q9lf79 at h
  obtain ⟨h1, h2⟩ := q9cndN h
  exact (q9s0r (q9dk0 (i := .iastore) ⟨_, rfl, rfl⟩ hs ho h1)).trans h2
noncomputable def q9lf80 (n : q9EN) (K K2 : List (Nat × Int)) (rt : Nat → q9ST → Bool) (pc : Nat) (x : q9ST) (s a b : Nat) : Option (List (Nat × q9ST)) := cond (Nat.ble 1 (Nat.shiftRight s 8)) (q9exSt (q9eB n) (q9eW n) x [2] (pc + 1)) none
theorem q9lf80_ok {n : q9EN} {K K2 : List (Nat × Int)} {rt : Nat → q9ST → Bool} {cc : ByteArray} {pc : Nat} {x : q9ST} {s a b : Nat} {ss : List (Nat × q9ST)} (hs : s = q9bnum cc.data.toList >>> (8 * pc)) (ha : a = (Nat.shiftRight s 8) % 256) (hb : b = (Nat.shiftRight s 16) % 256) (ho : s % 256 = 80) (h : q9lf80 n K K2 rt pc x s a b = some ss) : q9step0 n K K2 (fun _ _ => none) rt cc pc x = some ss := by
  unfold q9lf80 at h
  obtain ⟨h1, h2⟩ := q9cndN h
  exact (q9s0r (q9dk0 (i := .lastore) ⟨_, rfl, rfl⟩ hs ho h1)).trans h2
noncomputable def q9lf83 (n : q9EN) (K K2 : List (Nat × Int)) (rt : Nat → q9ST → Bool) (pc : Nat) (x : q9ST) (s a b : Nat) : Option (List (Nat × q9ST)) := cond (Nat.ble 1 (Nat.shiftRight s 8)) (q9exSt (q9eB n) (q9eW n) x [4, 5, 6] (pc + 1)) none
theorem q9lf83_ok {n : q9EN} {K K2 : List (Nat × Int)} {rt : Nat → q9ST → Bool} {cc : ByteArray} {pc : Nat} {x : q9ST} {s a b : Nat} {ss : List (Nat × q9ST)} (hs : s = q9bnum cc.data.toList >>> (8 * pc)) (ha : a = (Nat.shiftRight s 8) % 256) (hb : b = (Nat.shiftRight s 16) % 256) (ho : s % 256 = 83) (h : q9lf83 n K K2 rt pc x s a b = some ss) : q9step0 n K K2 (fun _ _ => none) rt cc pc x = some ss := by
  unfold q9lf83 at h
  obtain ⟨h1, h2⟩ := q9cndN h
  exact (q9s0r (q9dk0 (i := .aastore) ⟨_, rfl, rfl⟩ hs ho h1)).trans h2
noncomputable def q9lf84 (n : q9EN) (K K2 : List (Nat × Int)) (rt : Nat → q9ST → Bool) (pc : Nat) (x : q9ST) (s a b : Nat) : Option (List (Nat × q9ST)) := cond (Nat.ble 1 (Nat.shiftRight s 8)) (q9exSt (q9eB n) (q9eW n) x [1, 3] (pc + 1)) none
theorem q9lf84_ok {n : q9EN} {K K2 : List (Nat × Int)} {rt : Nat → q9ST → Bool} {cc : ByteArray} {pc : Nat} {x : q9ST} {s a b : Nat} {ss : List (Nat × q9ST)} (hs : s = q9bnum cc.data.toList >>> (8 * pc)) (ha : a = (Nat.shiftRight s 8) % 256) (hb : b = (Nat.shiftRight s 16) % 256) (ho : s % 256 = 84) (h : q9lf84 n K K2 rt pc x s a b = some ss) : q9step0 n K K2 (fun _ _ => none) rt cc pc x = some ss := by
  unfold q9lf84 at h
  obtain ⟨h1, h2⟩ := q9cndN h
  exact (q9s0r (q9dk0 (i := .bastore) ⟨_, rfl, rfl⟩ hs ho h1)).trans h2
noncomputable def q9lf87 (n : q9EN) (K K2 : List (Nat × Int)) (rt : Nat → q9ST → Bool) (pc : Nat) (x : q9ST) (s a b : Nat) : Option (List (Nat × q9ST)) := cond (Nat.ble 1 (Nat.shiftRight s 8)) (q9exPop x (pc + 1)) none
theorem q9lf87_ok {n : q9EN} {K K2 : List (Nat × Int)} {rt : Nat → q9ST → Bool} {cc : ByteArray} {pc : Nat} {x : q9ST} {s a b : Nat} {ss : List (Nat × q9ST)} (hs : s = q9bnum cc.data.toList >>> (8 * pc)) (ha : a = (Nat.shiftRight s 8) % 256) (hb : b = (Nat.shiftRight s 16) % 256) (ho : s % 256 = 87) (h : q9lf87 n K K2 rt pc x s a b = some ss) : q9step0 n K K2 (fun _ _ => none) rt cc pc x = some ss := by
  unfold q9lf87 at h
  obtain ⟨h1, h2⟩ := q9cndN h
  exact (q9s0r (q9dk0 (i := .pop) ⟨_, rfl, rfl⟩ hs ho h1)).trans h2
noncomputable def q9lf89 (n : q9EN) (K K2 : List (Nat × Int)) (rt : Nat → q9ST → Bool) (pc : Nat) (x : q9ST) (s a b : Nat) : Option (List (Nat × q9ST)) := cond (Nat.ble 1 (Nat.shiftRight s 8)) (q9exDup x (pc + 1)) none
theorem q9lf89_ok {n : q9EN} {K K2 : List (Nat × Int)} {rt : Nat → q9ST → Bool} {cc : ByteArray} {pc : Nat} {x : q9ST} {s a b : Nat} {ss : List (Nat × q9ST)} (hs : s = q9bnum cc.data.toList >>> (8 * pc)) (ha : a = (Nat.shiftRight s 8) % 256) (hb : b = (Nat.shiftRight s 16) % 256) (ho : s % 256 = 89) (h : q9lf89 n K K2 rt pc x s a b = some ss) : q9step0 n K K2 (fun _ _ => none) rt cc pc x = some ss := by
  unfold q9lf89 at h
  obtain ⟨h1, h2⟩ := q9cndN h
  exact (q9s0r (q9dk0 (i := .dup) ⟨_, rfl, rfl⟩ hs ho h1)).trans h2
noncomputable def q9lf92 (n : q9EN) (K K2 : List (Nat × Int)) (rt : Nat → q9ST → Bool) (pc : Nat) (x : q9ST) (s a b : Nat) : Option (List (Nat × q9ST)) := cond (Nat.ble 1 (Nat.shiftRight s 8)) (q9exDup2 x (pc + 1)) none
theorem q9lf92_ok {n : q9EN} {K K2 : List (Nat × Int)} {rt : Nat → q9ST → Bool} {cc : ByteArray} {pc : Nat} {x : q9ST} {s a b : Nat} {ss : List (Nat × q9ST)} (hs : s = q9bnum cc.data.toList >>> (8 * pc)) (ha : a = (Nat.shiftRight s 8) % 256) (hb : b = (Nat.shiftRight s 16) % 256) (ho : s % 256 = 92) (h : q9lf92 n K K2 rt pc x s a b = some ss) : q9step0 n K K2 (fun _ _ => none) rt cc pc x = some ss := by
  unfold q9lf92 at h
  obtain ⟨h1, h2⟩ := q9cndN h
  exact (q9s0r (q9dk0 (i := .dup2) ⟨_, rfl, rfl⟩ hs ho h1)).trans h2
noncomputable def q9lf96 (n : q9EN) (K K2 : List (Nat × Int)) (rt : Nat → q9ST → Bool) (pc : Nat) (x : q9ST) (s a b : Nat) : Option (List (Nat × q9ST)) := cond (Nat.ble 1 (Nat.shiftRight s 8)) (q9addx x (pc + 1)) none
theorem q9lf96_ok {n : q9EN} {K K2 : List (Nat × Int)} {rt : Nat → q9ST → Bool} {cc : ByteArray} {pc : Nat} {x : q9ST} {s a b : Nat} {ss : List (Nat × q9ST)} (hs : s = q9bnum cc.data.toList >>> (8 * pc)) (ha : a = (Nat.shiftRight s 8) % 256) (hb : b = (Nat.shiftRight s 16) % 256) (ho : s % 256 = 96) (h : q9lf96 n K K2 rt pc x s a b = some ss) : q9step0 n K K2 (fun _ _ => none) rt cc pc x = some ss := by
  unfold q9lf96 at h
  obtain ⟨h1, h2⟩ := q9cndN h
  exact (q9s0r (q9dk0 (i := .iadd) ⟨_, rfl, rfl⟩ hs ho h1)).trans h2
noncomputable def q9lf97 (n : q9EN) (K K2 : List (Nat × Int)) (rt : Nat → q9ST → Bool) (pc : Nat) (x : q9ST) (s a b : Nat) : Option (List (Nat × q9ST)) := cond (Nat.ble 1 (Nat.shiftRight s 8)) (q9bin x 20 (pc + 1)) none
theorem q9lf97_ok {n : q9EN} {K K2 : List (Nat × Int)} {rt : Nat → q9ST → Bool} {cc : ByteArray} {pc : Nat} {x : q9ST} {s a b : Nat} {ss : List (Nat × q9ST)} (hs : s = q9bnum cc.data.toList >>> (8 * pc)) (ha : a = (Nat.shiftRight s 8) % 256) (hb : b = (Nat.shiftRight s 16) % 256) (ho : s % 256 = 97) (h : q9lf97 n K K2 rt pc x s a b = some ss) : q9step0 n K K2 (fun _ _ => none) rt cc pc x = some ss := by
  unfold q9lf97 at h
  obtain ⟨h1, h2⟩ := q9cndN h
  exact (q9s0r (q9dk0 (i := .ladd) ⟨_, rfl, rfl⟩ hs ho h1)).trans h2
noncomputable def q9lf100 (n : q9EN) (K K2 : List (Nat × Int)) (rt : Nat → q9ST → Bool) (pc : Nat) (x : q9ST) (s a b : Nat) : Option (List (Nat × q9ST)) := cond (Nat.ble 1 (Nat.shiftRight s 8)) (q9subx x (pc + 1)) none
theorem q9lf100_ok {n : q9EN} {K K2 : List (Nat × Int)} {rt : Nat → q9ST → Bool} {cc : ByteArray} {pc : Nat} {x : q9ST} {s a b : Nat} {ss : List (Nat × q9ST)} (hs : s = q9bnum cc.data.toList >>> (8 * pc)) (ha : a = (Nat.shiftRight s 8) % 256) (hb : b = (Nat.shiftRight s 16) % 256) (ho : s % 256 = 100) (h : q9lf100 n K K2 rt pc x s a b = some ss) : q9step0 n K K2 (fun _ _ => none) rt cc pc x = some ss := by
  unfold q9lf100 at h
  obtain ⟨h1, h2⟩ := q9cndN h
  exact (q9s0r (q9dk0 (i := .isub) ⟨_, rfl, rfl⟩ hs ho h1)).trans h2
noncomputable def q9lf101 (n : q9EN) (K K2 : List (Nat × Int)) (rt : Nat → q9ST → Bool) (pc : Nat) (x : q9ST) (s a b : Nat) : Option (List (Nat × q9ST)) := cond (Nat.ble 1 (Nat.shiftRight s 8)) (q9bin x 21 (pc + 1)) none
theorem q9lf101_ok {n : q9EN} {K K2 : List (Nat × Int)} {rt : Nat → q9ST → Bool} {cc : ByteArray} {pc : Nat} {x : q9ST} {s a b : Nat} {ss : List (Nat × q9ST)} (hs : s = q9bnum cc.data.toList >>> (8 * pc)) (ha : a = (Nat.shiftRight s 8) % 256) (hb : b = (Nat.shiftRight s 16) % 256) (ho : s % 256 = 101) (h : q9lf101 n K K2 rt pc x s a b = some ss) : q9step0 n K K2 (fun _ _ => none) rt cc pc x = some ss := by
  unfold q9lf101 at h
  obtain ⟨h1, h2⟩ := q9cndN h
  exact (q9s0r (q9dk0 (i := .lsub) ⟨_, rfl, rfl⟩ hs ho h1)).trans h2
noncomputable def q9lf104 (n : q9EN) (K K2 : List (Nat × Int)) (rt : Nat → q9ST → Bool) (pc : Nat) (x : q9ST) (s a b : Nat) : Option (List (Nat × q9ST)) := cond (Nat.ble 1 (Nat.shiftRight s 8)) (q9bin x 2 (pc + 1)) none
theorem q9lf104_ok {n : q9EN} {K K2 : List (Nat × Int)} {rt : Nat → q9ST → Bool} {cc : ByteArray} {pc : Nat} {x : q9ST} {s a b : Nat} {ss : List (Nat × q9ST)} (hs : s = q9bnum cc.data.toList >>> (8 * pc)) (ha : a = (Nat.shiftRight s 8) % 256) (hb : b = (Nat.shiftRight s 16) % 256) (ho : s % 256 = 104) (h : q9lf104 n K K2 rt pc x s a b = some ss) : q9step0 n K K2 (fun _ _ => none) rt cc pc x = some ss := by
  unfold q9lf104 at h
  obtain ⟨h1, h2⟩ := q9cndN h
  exact (q9s0r (q9dk0 (i := .imul) ⟨_, rfl, rfl⟩ hs ho h1)).trans h2
noncomputable def q9lf105 (n : q9EN) (K K2 : List (Nat × Int)) (rt : Nat → q9ST → Bool) (pc : Nat) (x : q9ST) (s a b : Nat) : Option (List (Nat × q9ST)) := cond (Nat.ble 1 (Nat.shiftRight s 8)) (q9bin x 22 (pc + 1)) none
theorem q9lf105_ok {n : q9EN} {K K2 : List (Nat × Int)} {rt : Nat → q9ST → Bool} {cc : ByteArray} {pc : Nat} {x : q9ST} {s a b : Nat} {ss : List (Nat × q9ST)} (hs : s = q9bnum cc.data.toList >>> (8 * pc)) (ha : a = (Nat.shiftRight s 8) % 256) (hb : b = (Nat.shiftRight s 16) % 256) (ho : s % 256 = 105) (h : q9lf105 n K K2 rt pc x s a b = some ss) : q9step0 n K K2 (fun _ _ => none) rt cc pc x = some ss := by
  unfold q9lf105 at h
  obtain ⟨h1, h2⟩ := q9cndN h
  exact (q9s0r (q9dk0 (i := .lmul) ⟨_, rfl, rfl⟩ hs ho h1)).trans h2
noncomputable def q9lf108 (n : q9EN) (K K2 : List (Nat × Int)) (rt : Nat → q9ST → Bool) (pc : Nat) (x : q9ST) (s a b : Nat) : Option (List (Nat × q9ST)) := cond (Nat.ble 1 (Nat.shiftRight s 8)) (q9bin x 3 (pc + 1)) none
theorem q9lf108_ok {n : q9EN} {K K2 : List (Nat × Int)} {rt : Nat → q9ST → Bool} {cc : ByteArray} {pc : Nat} {x : q9ST} {s a b : Nat} {ss : List (Nat × q9ST)} (hs : s = q9bnum cc.data.toList >>> (8 * pc)) (ha : a = (Nat.shiftRight s 8) % 256) (hb : b = (Nat.shiftRight s 16) % 256) (ho : s % 256 = 108) (h : q9lf108 n K K2 rt pc x s a b = some ss) : q9step0 n K K2 (fun _ _ => none) rt cc pc x = some ss := by
  unfold q9lf108 at h
  obtain ⟨h1, h2⟩ := q9cndN h
  exact (q9s0r (q9dk0 (i := .idiv) ⟨_, rfl, rfl⟩ hs ho h1)).trans h2
noncomputable def q9lf109 (n : q9EN) (K K2 : List (Nat × Int)) (rt : Nat → q9ST → Bool) (pc : Nat) (x : q9ST) (s a b : Nat) : Option (List (Nat × q9ST)) := cond (Nat.ble 1 (Nat.shiftRight s 8)) (q9bin x 23 (pc + 1)) none
theorem q9lf109_ok {n : q9EN} {K K2 : List (Nat × Int)} {rt : Nat → q9ST → Bool} {cc : ByteArray} {pc : Nat} {x : q9ST} {s a b : Nat} {ss : List (Nat × q9ST)} (hs : s = q9bnum cc.data.toList >>> (8 * pc)) (ha : a = (Nat.shiftRight s 8) % 256) (hb : b = (Nat.shiftRight s 16) % 256) (ho : s % 256 = 109) (h : q9lf109 n K K2 rt pc x s a b = some ss) : q9step0 n K K2 (fun _ _ => none) rt cc pc x = some ss := by
  unfold q9lf109 at h
  obtain ⟨h1, h2⟩ := q9cndN h
  exact (q9s0r (q9dk0 (i := .ldiv) ⟨_, rfl, rfl⟩ hs ho h1)).trans h2
noncomputable def q9lf112 (n : q9EN) (K K2 : List (Nat × Int)) (rt : Nat → q9ST → Bool) (pc : Nat) (x : q9ST) (s a b : Nat) : Option (List (Nat × q9ST)) := cond (Nat.ble 1 (Nat.shiftRight s 8)) (q9bin x 4 (pc + 1)) none
theorem q9lf112_ok {n : q9EN} {K K2 : List (Nat × Int)} {rt : Nat → q9ST → Bool} {cc : ByteArray} {pc : Nat} {x : q9ST} {s a b : Nat} {ss : List (Nat × q9ST)} (hs : s = q9bnum cc.data.toList >>> (8 * pc)) (ha : a = (Nat.shiftRight s 8) % 256) (hb : b = (Nat.shiftRight s 16) % 256) (ho : s % 256 = 112) (h : q9lf112 n K K2 rt pc x s a b = some ss) : q9step0 n K K2 (fun _ _ => none) rt cc pc x = some ss := by
  unfold q9lf112 at h
  obtain ⟨h1, h2⟩ := q9cndN h
  exact (q9s0r (q9dk0 (i := .irem) ⟨_, rfl, rfl⟩ hs ho h1)).trans h2
noncomputable def q9lf116 (n : q9EN) (K K2 : List (Nat × Int)) (rt : Nat → q9ST → Bool) (pc : Nat) (x : q9ST) (s a b : Nat) : Option (List (Nat × q9ST)) := cond (Nat.ble 1 (Nat.shiftRight s 8)) (q9un x 10 (pc + 1)) none
theorem q9lf116_ok {n : q9EN} {K K2 : List (Nat × Int)} {rt : Nat → q9ST → Bool} {cc : ByteArray} {pc : Nat} {x : q9ST} {s a b : Nat} {ss : List (Nat × q9ST)} (hs : s = q9bnum cc.data.toList >>> (8 * pc)) (ha : a = (Nat.shiftRight s 8) % 256) (hb : b = (Nat.shiftRight s 16) % 256) (ho : s % 256 = 116) (h : q9lf116 n K K2 rt pc x s a b = some ss) : q9step0 n K K2 (fun _ _ => none) rt cc pc x = some ss := by
  unfold q9lf116 at h
  obtain ⟨h1, h2⟩ := q9cndN h
  exact (q9s0r (q9dk0 (i := .ineg) ⟨_, rfl, rfl⟩ hs ho h1)).trans h2
noncomputable def q9lf120 (n : q9EN) (K K2 : List (Nat × Int)) (rt : Nat → q9ST → Bool) (pc : Nat) (x : q9ST) (s a b : Nat) : Option (List (Nat × q9ST)) := cond (Nat.ble 1 (Nat.shiftRight s 8)) (q9bin x 8 (pc + 1)) none
theorem q9lf120_ok {n : q9EN} {K K2 : List (Nat × Int)} {rt : Nat → q9ST → Bool} {cc : ByteArray} {pc : Nat} {x : q9ST} {s a b : Nat} {ss : List (Nat × q9ST)} (hs : s = q9bnum cc.data.toList >>> (8 * pc)) (ha : a = (Nat.shiftRight s 8) % 256) (hb : b = (Nat.shiftRight s 16) % 256) (ho : s % 256 = 120) (h : q9lf120 n K K2 rt pc x s a b = some ss) : q9step0 n K K2 (fun _ _ => none) rt cc pc x = some ss := by
  unfold q9lf120 at h
  obtain ⟨h1, h2⟩ := q9cndN h
  exact (q9s0r (q9dk0 (i := .ishl) ⟨_, rfl, rfl⟩ hs ho h1)).trans h2
noncomputable def q9lf122 (n : q9EN) (K K2 : List (Nat × Int)) (rt : Nat → q9ST → Bool) (pc : Nat) (x : q9ST) (s a b : Nat) : Option (List (Nat × q9ST)) := cond (Nat.ble 1 (Nat.shiftRight s 8)) (q9bin x 9 (pc + 1)) none
theorem q9lf122_ok {n : q9EN} {K K2 : List (Nat × Int)} {rt : Nat → q9ST → Bool} {cc : ByteArray} {pc : Nat} {x : q9ST} {s a b : Nat} {ss : List (Nat × q9ST)} (hs : s = q9bnum cc.data.toList >>> (8 * pc)) (ha : a = (Nat.shiftRight s 8) % 256) (hb : b = (Nat.shiftRight s 16) % 256) (ho : s % 256 = 122) (h : q9lf122 n K K2 rt pc x s a b = some ss) : q9step0 n K K2 (fun _ _ => none) rt cc pc x = some ss := by
  unfold q9lf122 at h
  obtain ⟨h1, h2⟩ := q9cndN h
  exact (q9s0r (q9dk0 (i := .ishr) ⟨_, rfl, rfl⟩ hs ho h1)).trans h2
noncomputable def q9lf124 (n : q9EN) (K K2 : List (Nat × Int)) (rt : Nat → q9ST → Bool) (pc : Nat) (x : q9ST) (s a b : Nat) : Option (List (Nat × q9ST)) := cond (Nat.ble 1 (Nat.shiftRight s 8)) (q9bin x 14 (pc + 1)) none
theorem q9lf124_ok {n : q9EN} {K K2 : List (Nat × Int)} {rt : Nat → q9ST → Bool} {cc : ByteArray} {pc : Nat} {x : q9ST} {s a b : Nat} {ss : List (Nat × q9ST)} (hs : s = q9bnum cc.data.toList >>> (8 * pc)) (ha : a = (Nat.shiftRight s 8) % 256) (hb : b = (Nat.shiftRight s 16) % 256) (ho : s % 256 = 124) (h : q9lf124 n K K2 rt pc x s a b = some ss) : q9step0 n K K2 (fun _ _ => none) rt cc pc x = some ss := by
  unfold q9lf124 at h
  obtain ⟨h1, h2⟩ := q9cndN h
  exact (q9s0r (q9dk0 (i := .iushr) ⟨_, rfl, rfl⟩ hs ho h1)).trans h2
noncomputable def q9lf126 (n : q9EN) (K K2 : List (Nat × Int)) (rt : Nat → q9ST → Bool) (pc : Nat) (x : q9ST) (s a b : Nat) : Option (List (Nat × q9ST)) := cond (Nat.ble 1 (Nat.shiftRight s 8)) (q9bin x 5 (pc + 1)) none
theorem q9lf126_ok {n : q9EN} {K K2 : List (Nat × Int)} {rt : Nat → q9ST → Bool} {cc : ByteArray} {pc : Nat} {x : q9ST} {s a b : Nat} {ss : List (Nat × q9ST)} (hs : s = q9bnum cc.data.toList >>> (8 * pc)) (ha : a = (Nat.shiftRight s 8) % 256) (hb : b = (Nat.shiftRight s 16) % 256) (ho : s % 256 = 126) (h : q9lf126 n K K2 rt pc x s a b = some ss) : q9step0 n K K2 (fun _ _ => none) rt cc pc x = some ss := by
  unfold q9lf126 at h
  obtain ⟨h1, h2⟩ := q9cndN h
  exact (q9s0r (q9dk0 (i := .iand) ⟨_, rfl, rfl⟩ hs ho h1)).trans h2
noncomputable def q9lf128 (n : q9EN) (K K2 : List (Nat × Int)) (rt : Nat → q9ST → Bool) (pc : Nat) (x : q9ST) (s a b : Nat) : Option (List (Nat × q9ST)) := cond (Nat.ble 1 (Nat.shiftRight s 8)) (q9bin x 6 (pc + 1)) none
theorem q9lf128_ok {n : q9EN} {K K2 : List (Nat × Int)} {rt : Nat → q9ST → Bool} {cc : ByteArray} {pc : Nat} {x : q9ST} {s a b : Nat} {ss : List (Nat × q9ST)} (hs : s = q9bnum cc.data.toList >>> (8 * pc)) (ha : a = (Nat.shiftRight s 8) % 256) (hb : b = (Nat.shiftRight s 16) % 256) (ho : s % 256 = 128) (h : q9lf128 n K K2 rt pc x s a b = some ss) : q9step0 n K K2 (fun _ _ => none) rt cc pc x = some ss := by
  unfold q9lf128 at h
  obtain ⟨h1, h2⟩ := q9cndN h
  exact (q9s0r (q9dk0 (i := .ior) ⟨_, rfl, rfl⟩ hs ho h1)).trans h2
noncomputable def q9lf130 (n : q9EN) (K K2 : List (Nat × Int)) (rt : Nat → q9ST → Bool) (pc : Nat) (x : q9ST) (s a b : Nat) : Option (List (Nat × q9ST)) := cond (Nat.ble 1 (Nat.shiftRight s 8)) (q9bin x 7 (pc + 1)) none
theorem q9lf130_ok {n : q9EN} {K K2 : List (Nat × Int)} {rt : Nat → q9ST → Bool} {cc : ByteArray} {pc : Nat} {x : q9ST} {s a b : Nat} {ss : List (Nat × q9ST)} (hs : s = q9bnum cc.data.toList >>> (8 * pc)) (ha : a = (Nat.shiftRight s 8) % 256) (hb : b = (Nat.shiftRight s 16) % 256) (ho : s % 256 = 130) (h : q9lf130 n K K2 rt pc x s a b = some ss) : q9step0 n K K2 (fun _ _ => none) rt cc pc x = some ss := by
  unfold q9lf130 at h
  obtain ⟨h1, h2⟩ := q9cndN h
  exact (q9s0r (q9dk0 (i := .ixor) ⟨_, rfl, rfl⟩ hs ho h1)).trans h2
noncomputable def q9lf131 (n : q9EN) (K K2 : List (Nat × Int)) (rt : Nat → q9ST → Bool) (pc : Nat) (x : q9ST) (s a b : Nat) : Option (List (Nat × q9ST)) := cond (Nat.ble 1 (Nat.shiftRight s 8)) (q9bin x 25 (pc + 1)) none
theorem q9lf131_ok {n : q9EN} {K K2 : List (Nat × Int)} {rt : Nat → q9ST → Bool} {cc : ByteArray} {pc : Nat} {x : q9ST} {s a b : Nat} {ss : List (Nat × q9ST)} (hs : s = q9bnum cc.data.toList >>> (8 * pc)) (ha : a = (Nat.shiftRight s 8) % 256) (hb : b = (Nat.shiftRight s 16) % 256) (ho : s % 256 = 131) (h : q9lf131 n K K2 rt pc x s a b = some ss) : q9step0 n K K2 (fun _ _ => none) rt cc pc x = some ss := by
  unfold q9lf131 at h
  obtain ⟨h1, h2⟩ := q9cndN h
  exact (q9s0r (q9dk0 (i := .lxor) ⟨_, rfl, rfl⟩ hs ho h1)).trans h2
noncomputable def q9lf132 (n : q9EN) (K K2 : List (Nat × Int)) (rt : Nat → q9ST → Bool) (pc : Nat) (x : q9ST) (s a b : Nat) : Option (List (Nat × q9ST)) := cond (Nat.ble 1 (Nat.shiftRight s 24)) (q9fcOI (Reader.signed 8 b) (fun j => q9exInc x a (q9eN n) j (pc + 3))) none
theorem q9lf132_ok {n : q9EN} {K K2 : List (Nat × Int)} {rt : Nat → q9ST → Bool} {cc : ByteArray} {pc : Nat} {x : q9ST} {s a b : Nat} {ss : List (Nat × q9ST)} (hs : s = q9bnum cc.data.toList >>> (8 * pc)) (ha : a = (Nat.shiftRight s 8) % 256) (hb : b = (Nat.shiftRight s 16) % 256) (ho : s % 256 = 132) (h : q9lf132 n K K2 rt pc x s a b = some ss) : q9step0 n K K2 (fun _ _ => none) rt cc pc x = some ss := by
  unfold q9lf132 at h
  obtain ⟨h1, h2⟩ := q9cndN h
  rw [q9fcOI_eq] at h2
  exact (q9s0r (q9dki (mk := .iinc) ⟨_, rfl, rfl⟩ hs ho ha hb h1)).trans h2
noncomputable def q9lf133 (n : q9EN) (K K2 : List (Nat × Int)) (rt : Nat → q9ST → Bool) (pc : Nat) (x : q9ST) (s a b : Nat) : Option (List (Nat × q9ST)) := cond (Nat.ble 1 (Nat.shiftRight s 8)) (q9un x 11 (pc + 1)) none
theorem q9lf133_ok {n : q9EN} {K K2 : List (Nat × Int)} {rt : Nat → q9ST → Bool} {cc : ByteArray} {pc : Nat} {x : q9ST} {s a b : Nat} {ss : List (Nat × q9ST)} (hs : s = q9bnum cc.data.toList >>> (8 * pc)) (ha : a = (Nat.shiftRight s 8) % 256) (hb : b = (Nat.shiftRight s 16) % 256) (ho : s % 256 = 133) (h : q9lf133 n K K2 rt pc x s a b = some ss) : q9step0 n K K2 (fun _ _ => none) rt cc pc x = some ss := by
  unfold q9lf133 at h
  obtain ⟨h1, h2⟩ := q9cndN h
  exact (q9s0r (q9dk0 (i := .i2l) ⟨_, rfl, rfl⟩ hs ho h1)).trans h2
noncomputable def q9lf136 (n : q9EN) (K K2 : List (Nat × Int)) (rt : Nat → q9ST → Bool) (pc : Nat) (x : q9ST) (s a b : Nat) : Option (List (Nat × q9ST)) := cond (Nat.ble 1 (Nat.shiftRight s 8)) (q9un x 12 (pc + 1)) none
theorem q9lf136_ok {n : q9EN} {K K2 : List (Nat × Int)} {rt : Nat → q9ST → Bool} {cc : ByteArray} {pc : Nat} {x : q9ST} {s a b : Nat} {ss : List (Nat × q9ST)} (hs : s = q9bnum cc.data.toList >>> (8 * pc)) (ha : a = (Nat.shiftRight s 8) % 256) (hb : b = (Nat.shiftRight s 16) % 256) (ho : s % 256 = 136) (h : q9lf136 n K K2 rt pc x s a b = some ss) : q9step0 n K K2 (fun _ _ => none) rt cc pc x = some ss := by
  unfold q9lf136 at h
  obtain ⟨h1, h2⟩ := q9cndN h
  exact (q9s0r (q9dk0 (i := .l2i) ⟨_, rfl, rfl⟩ hs ho h1)).trans h2
noncomputable def q9lf145 (n : q9EN) (K K2 : List (Nat × Int)) (rt : Nat → q9ST → Bool) (pc : Nat) (x : q9ST) (s a b : Nat) : Option (List (Nat × q9ST)) := cond (Nat.ble 1 (Nat.shiftRight s 8)) (q9un x 13 (pc + 1)) none
theorem q9lf145_ok {n : q9EN} {K K2 : List (Nat × Int)} {rt : Nat → q9ST → Bool} {cc : ByteArray} {pc : Nat} {x : q9ST} {s a b : Nat} {ss : List (Nat × q9ST)} (hs : s = q9bnum cc.data.toList >>> (8 * pc)) (ha : a = (Nat.shiftRight s 8) % 256) (hb : b = (Nat.shiftRight s 16) % 256) (ho : s % 256 = 145) (h : q9lf145 n K K2 rt pc x s a b = some ss) : q9step0 n K K2 (fun _ _ => none) rt cc pc x = some ss := by
  unfold q9lf145 at h
  obtain ⟨h1, h2⟩ := q9cndN h
  exact (q9s0r (q9dk0 (i := .i2b) ⟨_, rfl, rfl⟩ hs ho h1)).trans h2
noncomputable def q9lf148 (n : q9EN) (K K2 : List (Nat × Int)) (rt : Nat → q9ST → Bool) (pc : Nat) (x : q9ST) (s a b : Nat) : Option (List (Nat × q9ST)) := cond (Nat.ble 1 (Nat.shiftRight s 8)) (q9bin x 24 (pc + 1)) none
theorem q9lf148_ok {n : q9EN} {K K2 : List (Nat × Int)} {rt : Nat → q9ST → Bool} {cc : ByteArray} {pc : Nat} {x : q9ST} {s a b : Nat} {ss : List (Nat × q9ST)} (hs : s = q9bnum cc.data.toList >>> (8 * pc)) (ha : a = (Nat.shiftRight s 8) % 256) (hb : b = (Nat.shiftRight s 16) % 256) (ho : s % 256 = 148) (h : q9lf148 n K K2 rt pc x s a b = some ss) : q9step0 n K K2 (fun _ _ => none) rt cc pc x = some ss := by
  unfold q9lf148 at h
  obtain ⟨h1, h2⟩ := q9cndN h
  exact (q9s0r (q9dk0 (i := .lcmp) ⟨_, rfl, rfl⟩ hs ho h1)).trans h2
noncomputable def q9lf153 (n : q9EN) (K K2 : List (Nat × Int)) (rt : Nat → q9ST → Bool) (pc : Nat) (x : q9ST) (s a b : Nat) : Option (List (Nat × q9ST)) := cond (Nat.ble 1 (Nat.shiftRight s 24)) (q9fcOI (Reader.signed 16 (Nat.add (Nat.mul a 256) b)) (fun j => (match q9tgt pc j with
          | some t => q9br1 x 0 t (pc + 3)
          | none => none))) none
theorem q9lf153_ok {n : q9EN} {K K2 : List (Nat × Int)} {rt : Nat → q9ST → Bool} {cc : ByteArray} {pc : Nat} {x : q9ST} {s a b : Nat} {ss : List (Nat × q9ST)} (hs : s = q9bnum cc.data.toList >>> (8 * pc)) (ha : a = (Nat.shiftRight s 8) % 256) (hb : b = (Nat.shiftRight s 16) % 256) (ho : s % 256 = 153) (h : q9lf153 n K K2 rt pc x s a b = some ss) : q9step0 n K K2 (fun _ _ => none) rt cc pc x = some ss := by
  unfold q9lf153 at h
  obtain ⟨h1, h2⟩ := q9cndN h
  rw [q9fcOI_eq] at h2
  exact (q9s0r (q9dk2s (mk := (.ifCond .eq)) ⟨_, rfl, rfl⟩ hs ho ha hb h1)).trans h2
noncomputable def q9lf154 (n : q9EN) (K K2 : List (Nat × Int)) (rt : Nat → q9ST → Bool) (pc : Nat) (x : q9ST) (s a b : Nat) : Option (List (Nat × q9ST)) := cond (Nat.ble 1 (Nat.shiftRight s 24)) (q9fcOI (Reader.signed 16 (Nat.add (Nat.mul a 256) b)) (fun j => (match q9tgt pc j with
          | some t => q9br1 x 1 t (pc + 3)
          | none => none))) none
theorem q9lf154_ok {n : q9EN} {K K2 : List (Nat × Int)} {rt : Nat → q9ST → Bool} {cc : ByteArray} {pc : Nat} {x : q9ST} {s a b : Nat} {ss : List (Nat × q9ST)} (hs : s = q9bnum cc.data.toList >>> (8 * pc)) (ha : a = (Nat.shiftRight s 8) % 256) (hb : b = (Nat.shiftRight s 16) % 256) (ho : s % 256 = 154) (h : q9lf154 n K K2 rt pc x s a b = some ss) : q9step0 n K K2 (fun _ _ => none) rt cc pc x = some ss := by
  unfold q9lf154 at h
  obtain ⟨h1, h2⟩ := q9cndN h
  rw [q9fcOI_eq] at h2
  exact (q9s0r (q9dk2s (mk := (.ifCond .ne)) ⟨_, rfl, rfl⟩ hs ho ha hb h1)).trans h2
noncomputable def q9lf155 (n : q9EN) (K K2 : List (Nat × Int)) (rt : Nat → q9ST → Bool) (pc : Nat) (x : q9ST) (s a b : Nat) : Option (List (Nat × q9ST)) := cond (Nat.ble 1 (Nat.shiftRight s 24)) (q9fcOI (Reader.signed 16 (Nat.add (Nat.mul a 256) b)) (fun j => (match q9tgt pc j with
          | some t => q9br1 x 2 t (pc + 3)
          | none => none))) none
theorem q9lf155_ok {n : q9EN} {K K2 : List (Nat × Int)} {rt : Nat → q9ST → Bool} {cc : ByteArray} {pc : Nat} {x : q9ST} {s a b : Nat} {ss : List (Nat × q9ST)} (hs : s = q9bnum cc.data.toList >>> (8 * pc)) (ha : a = (Nat.shiftRight s 8) % 256) (hb : b = (Nat.shiftRight s 16) % 256) (ho : s % 256 = 155) (h : q9lf155 n K K2 rt pc x s a b = some ss) : q9step0 n K K2 (fun _ _ => none) rt cc pc x = some ss := by
  unfold q9lf155 at h
  obtain ⟨h1, h2⟩ := q9cndN h
  rw [q9fcOI_eq] at h2
  exact (q9s0r (q9dk2s (mk := (.ifCond .lt)) ⟨_, rfl, rfl⟩ hs ho ha hb h1)).trans h2
noncomputable def q9lf156 (n : q9EN) (K K2 : List (Nat × Int)) (rt : Nat → q9ST → Bool) (pc : Nat) (x : q9ST) (s a b : Nat) : Option (List (Nat × q9ST)) := cond (Nat.ble 1 (Nat.shiftRight s 24)) (q9fcOI (Reader.signed 16 (Nat.add (Nat.mul a 256) b)) (fun j => (match q9tgt pc j with
          | some t => q9br1 x 3 t (pc + 3)
          | none => none))) none
theorem q9lf156_ok {n : q9EN} {K K2 : List (Nat × Int)} {rt : Nat → q9ST → Bool} {cc : ByteArray} {pc : Nat} {x : q9ST} {s a b : Nat} {ss : List (Nat × q9ST)} (hs : s = q9bnum cc.data.toList >>> (8 * pc)) (ha : a = (Nat.shiftRight s 8) % 256) (hb : b = (Nat.shiftRight s 16) % 256) (ho : s % 256 = 156) (h : q9lf156 n K K2 rt pc x s a b = some ss) : q9step0 n K K2 (fun _ _ => none) rt cc pc x = some ss := by
  unfold q9lf156 at h
  obtain ⟨h1, h2⟩ := q9cndN h
  rw [q9fcOI_eq] at h2
  exact (q9s0r (q9dk2s (mk := (.ifCond .ge)) ⟨_, rfl, rfl⟩ hs ho ha hb h1)).trans h2
noncomputable def q9lf157 (n : q9EN) (K K2 : List (Nat × Int)) (rt : Nat → q9ST → Bool) (pc : Nat) (x : q9ST) (s a b : Nat) : Option (List (Nat × q9ST)) := cond (Nat.ble 1 (Nat.shiftRight s 24)) (q9fcOI (Reader.signed 16 (Nat.add (Nat.mul a 256) b)) (fun j => (match q9tgt pc j with
          | some t => q9br1 x 4 t (pc + 3)
          | none => none))) none
theorem q9lf157_ok {n : q9EN} {K K2 : List (Nat × Int)} {rt : Nat → q9ST → Bool} {cc : ByteArray} {pc : Nat} {x : q9ST} {s a b : Nat} {ss : List (Nat × q9ST)} (hs : s = q9bnum cc.data.toList >>> (8 * pc)) (ha : a = (Nat.shiftRight s 8) % 256) (hb : b = (Nat.shiftRight s 16) % 256) (ho : s % 256 = 157) (h : q9lf157 n K K2 rt pc x s a b = some ss) : q9step0 n K K2 (fun _ _ => none) rt cc pc x = some ss := by
  unfold q9lf157 at h
  obtain ⟨h1, h2⟩ := q9cndN h
  rw [q9fcOI_eq] at h2
  exact (q9s0r (q9dk2s (mk := (.ifCond .gt)) ⟨_, rfl, rfl⟩ hs ho ha hb h1)).trans h2
noncomputable def q9lf158 (n : q9EN) (K K2 : List (Nat × Int)) (rt : Nat → q9ST → Bool) (pc : Nat) (x : q9ST) (s a b : Nat) : Option (List (Nat × q9ST)) := cond (Nat.ble 1 (Nat.shiftRight s 24)) (q9fcOI (Reader.signed 16 (Nat.add (Nat.mul a 256) b)) (fun j => (match q9tgt pc j with
          | some t => q9br1 x 5 t (pc + 3)
          | none => none))) none
theorem q9lf158_ok {n : q9EN} {K K2 : List (Nat × Int)} {rt : Nat → q9ST → Bool} {cc : ByteArray} {pc : Nat} {x : q9ST} {s a b : Nat} {ss : List (Nat × q9ST)} (hs : s = q9bnum cc.data.toList >>> (8 * pc)) (ha : a = (Nat.shiftRight s 8) % 256) (hb : b = (Nat.shiftRight s 16) % 256) (ho : s % 256 = 158) (h : q9lf158 n K K2 rt pc x s a b = some ss) : q9step0 n K K2 (fun _ _ => none) rt cc pc x = some ss := by
  unfold q9lf158 at h
  obtain ⟨h1, h2⟩ := q9cndN h
  rw [q9fcOI_eq] at h2
  exact (q9s0r (q9dk2s (mk := (.ifCond .le)) ⟨_, rfl, rfl⟩ hs ho ha hb h1)).trans h2
noncomputable def q9lf159 (n : q9EN) (K K2 : List (Nat × Int)) (rt : Nat → q9ST → Bool) (pc : Nat) (x : q9ST) (s a b : Nat) : Option (List (Nat × q9ST)) := cond (Nat.ble 1 (Nat.shiftRight s 24)) (q9fcOI (Reader.signed 16 (Nat.add (Nat.mul a 256) b)) (fun j => (match q9tgt pc j with
          | some t => q9br2 x 0 t (pc + 3)
          | none => none))) none
theorem q9lf159_ok {n : q9EN} {K K2 : List (Nat × Int)} {rt : Nat → q9ST → Bool} {cc : ByteArray} {pc : Nat} {x : q9ST} {s a b : Nat} {ss : List (Nat × q9ST)} (hs : s = q9bnum cc.data.toList >>> (8 * pc)) (ha : a = (Nat.shiftRight s 8) % 256) (hb : b = (Nat.shiftRight s 16) % 256) (ho : s % 256 = 159) (h : q9lf159 n K K2 rt pc x s a b = some ss) : q9step0 n K K2 (fun _ _ => none) rt cc pc x = some ss := by
  unfold q9lf159 at h
  obtain ⟨h1, h2⟩ := q9cndN h
  rw [q9fcOI_eq] at h2
  exact (q9s0r (q9dk2s (mk := (.if_icmp .eq)) ⟨_, rfl, rfl⟩ hs ho ha hb h1)).trans h2
noncomputable def q9lf160 (n : q9EN) (K K2 : List (Nat × Int)) (rt : Nat → q9ST → Bool) (pc : Nat) (x : q9ST) (s a b : Nat) : Option (List (Nat × q9ST)) := cond (Nat.ble 1 (Nat.shiftRight s 24)) (q9fcOI (Reader.signed 16 (Nat.add (Nat.mul a 256) b)) (fun j => (match q9tgt pc j with
          | some t => q9br2 x 1 t (pc + 3)
          | none => none))) none
theorem q9lf160_ok {n : q9EN} {K K2 : List (Nat × Int)} {rt : Nat → q9ST → Bool} {cc : ByteArray} {pc : Nat} {x : q9ST} {s a b : Nat} {ss : List (Nat × q9ST)} (hs : s = q9bnum cc.data.toList >>> (8 * pc)) (ha : a = (Nat.shiftRight s 8) % 256) (hb : b = (Nat.shiftRight s 16) % 256) (ho : s % 256 = 160) (h : q9lf160 n K K2 rt pc x s a b = some ss) : q9step0 n K K2 (fun _ _ => none) rt cc pc x = some ss := by
  unfold q9lf160 at h
  obtain ⟨h1, h2⟩ := q9cndN h
  rw [q9fcOI_eq] at h2
  exact (q9s0r (q9dk2s (mk := (.if_icmp .ne)) ⟨_, rfl, rfl⟩ hs ho ha hb h1)).trans h2
noncomputable def q9lf161 (n : q9EN) (K K2 : List (Nat × Int)) (rt : Nat → q9ST → Bool) (pc : Nat) (x : q9ST) (s a b : Nat) : Option (List (Nat × q9ST)) := cond (Nat.ble 1 (Nat.shiftRight s 24)) (q9fcOI (Reader.signed 16 (Nat.add (Nat.mul a 256) b)) (fun j => (match q9tgt pc j with
          | some t => q9br2 x 2 t (pc + 3)
          | none => none))) none
theorem q9lf161_ok {n : q9EN} {K K2 : List (Nat × Int)} {rt : Nat → q9ST → Bool} {cc : ByteArray} {pc : Nat} {x : q9ST} {s a b : Nat} {ss : List (Nat × q9ST)} (hs : s = q9bnum cc.data.toList >>> (8 * pc)) (ha : a = (Nat.shiftRight s 8) % 256) (hb : b = (Nat.shiftRight s 16) % 256) (ho : s % 256 = 161) (h : q9lf161 n K K2 rt pc x s a b = some ss) : q9step0 n K K2 (fun _ _ => none) rt cc pc x = some ss := by
  unfold q9lf161 at h
  obtain ⟨h1, h2⟩ := q9cndN h
  rw [q9fcOI_eq] at h2
  exact (q9s0r (q9dk2s (mk := (.if_icmp .lt)) ⟨_, rfl, rfl⟩ hs ho ha hb h1)).trans h2
noncomputable def q9lf162 (n : q9EN) (K K2 : List (Nat × Int)) (rt : Nat → q9ST → Bool) (pc : Nat) (x : q9ST) (s a b : Nat) : Option (List (Nat × q9ST)) := cond (Nat.ble 1 (Nat.shiftRight s 24)) (q9fcOI (Reader.signed 16 (Nat.add (Nat.mul a 256) b)) (fun j => (match q9tgt pc j with
          | some t => q9br2 x 3 t (pc + 3)
          | none => none))) none
theorem q9lf162_ok {n : q9EN} {K K2 : List (Nat × Int)} {rt : Nat → q9ST → Bool} {cc : ByteArray} {pc : Nat} {x : q9ST} {s a b : Nat} {ss : List (Nat × q9ST)} (hs : s = q9bnum cc.data.toList >>> (8 * pc)) (ha : a = (Nat.shiftRight s 8) % 256) (hb : b = (Nat.shiftRight s 16) % 256) (ho : s % 256 = 162) (h : q9lf162 n K K2 rt pc x s a b = some ss) : q9step0 n K K2 (fun _ _ => none) rt cc pc x = some ss := by
  unfold q9lf162 at h
  obtain ⟨h1, h2⟩ := q9cndN h
  rw [q9fcOI_eq] at h2
  exact (q9s0r (q9dk2s (mk := (.if_icmp .ge)) ⟨_, rfl, rfl⟩ hs ho ha hb h1)).trans h2
noncomputable def q9lf163 (n : q9EN) (K K2 : List (Nat × Int)) (rt : Nat → q9ST → Bool) (pc : Nat) (x : q9ST) (s a b : Nat) : Option (List (Nat × q9ST)) := cond (Nat.ble 1 (Nat.shiftRight s 24)) (q9fcOI (Reader.signed 16 (Nat.add (Nat.mul a 256) b)) (fun j => (match q9tgt pc j with
          | some t => q9br2 x 4 t (pc + 3)
          | none => none))) none
theorem q9lf163_ok {n : q9EN} {K K2 : List (Nat × Int)} {rt : Nat → q9ST → Bool} {cc : ByteArray} {pc : Nat} {x : q9ST} {s a b : Nat} {ss : List (Nat × q9ST)} (hs : s = q9bnum cc.data.toList >>> (8 * pc)) (ha : a = (Nat.shiftRight s 8) % 256) (hb : b = (Nat.shiftRight s 16) % 256) (ho : s % 256 = 163) (h : q9lf163 n K K2 rt pc x s a b = some ss) : q9step0 n K K2 (fun _ _ => none) rt cc pc x = some ss := by
  unfold q9lf163 at h
  obtain ⟨h1, h2⟩ := q9cndN h
  rw [q9fcOI_eq] at h2
  exact (q9s0r (q9dk2s (mk := (.if_icmp .gt)) ⟨_, rfl, rfl⟩ hs ho ha hb h1)).trans h2
noncomputable def q9lf164 (n : q9EN) (K K2 : List (Nat × Int)) (rt : Nat → q9ST → Bool) (pc : Nat) (x : q9ST) (s a b : Nat) : Option (List (Nat × q9ST)) := cond (Nat.ble 1 (Nat.shiftRight s 24)) (q9fcOI (Reader.signed 16 (Nat.add (Nat.mul a 256) b)) (fun j => (match q9tgt pc j with
          | some t => q9br2 x 5 t (pc + 3)
          | none => none))) none
theorem q9lf164_ok {n : q9EN} {K K2 : List (Nat × Int)} {rt : Nat → q9ST → Bool} {cc : ByteArray} {pc : Nat} {x : q9ST} {s a b : Nat} {ss : List (Nat × q9ST)} (hs : s = q9bnum cc.data.toList >>> (8 * pc)) (ha : a = (Nat.shiftRight s 8) % 256) (hb : b = (Nat.shiftRight s 16) % 256) (ho : s % 256 = 164) (h : q9lf164 n K K2 rt pc x s a b = some ss) : q9step0 n K K2 (fun _ _ => none) rt cc pc x = some ss := by
  unfold q9lf164 at h
  obtain ⟨h1, h2⟩ := q9cndN h
  rw [q9fcOI_eq] at h2
  exact (q9s0r (q9dk2s (mk := (.if_icmp .le)) ⟨_, rfl, rfl⟩ hs ho ha hb h1)).trans h2
noncomputable def q9lf167 (n : q9EN) (K K2 : List (Nat × Int)) (rt : Nat → q9ST → Bool) (pc : Nat) (x : q9ST) (s a b : Nat) : Option (List (Nat × q9ST)) := cond (Nat.ble 1 (Nat.shiftRight s 24)) (q9fcOI (Reader.signed 16 (Nat.add (Nat.mul a 256) b)) (fun j => (match q9tgt pc j with
              | some t => some [(t, x)]
              | none => none))) none
theorem q9lf167_ok {n : q9EN} {K K2 : List (Nat × Int)} {rt : Nat → q9ST → Bool} {cc : ByteArray} {pc : Nat} {x : q9ST} {s a b : Nat} {ss : List (Nat × q9ST)} (hs : s = q9bnum cc.data.toList >>> (8 * pc)) (ha : a = (Nat.shiftRight s 8) % 256) (hb : b = (Nat.shiftRight s 16) % 256) (ho : s % 256 = 167) (h : q9lf167 n K K2 rt pc x s a b = some ss) : q9step0 n K K2 (fun _ _ => none) rt cc pc x = some ss := by
  unfold q9lf167 at h
  obtain ⟨h1, h2⟩ := q9cndN h
  rw [q9fcOI_eq] at h2
  exact (q9s0r (q9dk2s (mk := .goto) ⟨_, rfl, rfl⟩ hs ho ha hb h1)).trans h2
noncomputable def q9lf172 (n : q9EN) (K K2 : List (Nat × Int)) (rt : Nat → q9ST → Bool) (pc : Nat) (x : q9ST) (s a b : Nat) : Option (List (Nat × q9ST)) := cond (Nat.ble 1 (Nat.shiftRight s 8)) (if rt 0 x then some [] else none) none
theorem q9lf172_ok {n : q9EN} {K K2 : List (Nat × Int)} {rt : Nat → q9ST → Bool} {cc : ByteArray} {pc : Nat} {x : q9ST} {s a b : Nat} {ss : List (Nat × q9ST)} (hs : s = q9bnum cc.data.toList >>> (8 * pc)) (ha : a = (Nat.shiftRight s 8) % 256) (hb : b = (Nat.shiftRight s 16) % 256) (ho : s % 256 = 172) (h : q9lf172 n K K2 rt pc x s a b = some ss) : q9step0 n K K2 (fun _ _ => none) rt cc pc x = some ss := by
  unfold q9lf172 at h
  obtain ⟨h1, h2⟩ := q9cndN h
  exact (q9s0r (q9dk0 (i := .ireturn) ⟨_, rfl, rfl⟩ hs ho h1)).trans h2
noncomputable def q9lf173 (n : q9EN) (K K2 : List (Nat × Int)) (rt : Nat → q9ST → Bool) (pc : Nat) (x : q9ST) (s a b : Nat) : Option (List (Nat × q9ST)) := cond (Nat.ble 1 (Nat.shiftRight s 8)) (if rt 3 x then some [] else none) none
theorem q9lf173_ok {n : q9EN} {K K2 : List (Nat × Int)} {rt : Nat → q9ST → Bool} {cc : ByteArray} {pc : Nat} {x : q9ST} {s a b : Nat} {ss : List (Nat × q9ST)} (hs : s = q9bnum cc.data.toList >>> (8 * pc)) (ha : a = (Nat.shiftRight s 8) % 256) (hb : b = (Nat.shiftRight s 16) % 256) (ho : s % 256 = 173) (h : q9lf173 n K K2 rt pc x s a b = some ss) : q9step0 n K K2 (fun _ _ => none) rt cc pc x = some ss := by
  unfold q9lf173 at h
  obtain ⟨h1, h2⟩ := q9cndN h
  exact (q9s0r (q9dk0 (i := .lreturn) ⟨_, rfl, rfl⟩ hs ho h1)).trans h2
noncomputable def q9lf176 (n : q9EN) (K K2 : List (Nat × Int)) (rt : Nat → q9ST → Bool) (pc : Nat) (x : q9ST) (s a b : Nat) : Option (List (Nat × q9ST)) := cond (Nat.ble 1 (Nat.shiftRight s 8)) (if rt 1 x then some [] else none) none
theorem q9lf176_ok {n : q9EN} {K K2 : List (Nat × Int)} {rt : Nat → q9ST → Bool} {cc : ByteArray} {pc : Nat} {x : q9ST} {s a b : Nat} {ss : List (Nat × q9ST)} (hs : s = q9bnum cc.data.toList >>> (8 * pc)) (ha : a = (Nat.shiftRight s 8) % 256) (hb : b = (Nat.shiftRight s 16) % 256) (ho : s % 256 = 176) (h : q9lf176 n K K2 rt pc x s a b = some ss) : q9step0 n K K2 (fun _ _ => none) rt cc pc x = some ss := by
  unfold q9lf176 at h
  obtain ⟨h1, h2⟩ := q9cndN h
  exact (q9s0r (q9dk0 (i := .areturn) ⟨_, rfl, rfl⟩ hs ho h1)).trans h2
noncomputable def q9lf177 (n : q9EN) (K K2 : List (Nat × Int)) (rt : Nat → q9ST → Bool) (pc : Nat) (x : q9ST) (s a b : Nat) : Option (List (Nat × q9ST)) := cond (Nat.ble 1 (Nat.shiftRight s 8)) (if rt 2 x then some [] else none) none
theorem q9lf177_ok {n : q9EN} {K K2 : List (Nat × Int)} {rt : Nat → q9ST → Bool} {cc : ByteArray} {pc : Nat} {x : q9ST} {s a b : Nat} {ss : List (Nat × q9ST)} (hs : s = q9bnum cc.data.toList >>> (8 * pc)) (ha : a = (Nat.shiftRight s 8) % 256) (hb : b = (Nat.shiftRight s 16) % 256) (ho : s % 256 = 177) (h : q9lf177 n K K2 rt pc x s a b = some ss) : q9step0 n K K2 (fun _ _ => none) rt cc pc x = some ss := by
  unfold q9lf177 at h
  obtain ⟨h1, h2⟩ := q9cndN h
  exact (q9s0r (q9dk0 (i := .return_) ⟨_, rfl, rfl⟩ hs ho h1)).trans h2
noncomputable def q9lf178 (n : q9EN) (K K2 : List (Nat × Int)) (rt : Nat → q9ST → Bool) (pc : Nat) (x : q9ST) (s a b : Nat) : Option (List (Nat × q9ST)) := cond (Nat.ble 1 (Nat.shiftRight s 24)) (q9fcO (Nat.add (Nat.mul a 256) b) (fun j => q9exGS (q9eK n) x j (pc + 3))) none
theorem q9lf178_ok {n : q9EN} {K K2 : List (Nat × Int)} {rt : Nat → q9ST → Bool} {cc : ByteArray} {pc : Nat} {x : q9ST} {s a b : Nat} {ss : List (Nat × q9ST)} (hs : s = q9bnum cc.data.toList >>> (8 * pc)) (ha : a = (Nat.shiftRight s 8) % 256) (hb : b = (Nat.shiftRight s 16) % 256) (ho : s % 256 = 178) (h : q9lf178 n K K2 rt pc x s a b = some ss) : q9step0 n K K2 (fun _ _ => none) rt cc pc x = some ss := by
  unfold q9lf178 at h
  obtain ⟨h1, h2⟩ := q9cndN h
  rw [q9fcO_eq] at h2
  exact (q9s0r (q9dk2 (mk := .getstatic) ⟨_, rfl, rfl⟩ hs ho ha hb h1)).trans h2
noncomputable def q9lf180 (n : q9EN) (K K2 : List (Nat × Int)) (rt : Nat → q9ST → Bool) (pc : Nat) (x : q9ST) (s a b : Nat) : Option (List (Nat × q9ST)) := cond (Nat.ble 1 (Nat.shiftRight s 24)) (q9fcO (Nat.add (Nat.mul a 256) b) (fun j => q9exG (q9eB n) (q9eF n) x j (pc + 3))) none
theorem q9lf180_ok {n : q9EN} {K K2 : List (Nat × Int)} {rt : Nat → q9ST → Bool} {cc : ByteArray} {pc : Nat} {x : q9ST} {s a b : Nat} {ss : List (Nat × q9ST)} (hs : s = q9bnum cc.data.toList >>> (8 * pc)) (ha : a = (Nat.shiftRight s 8) % 256) (hb : b = (Nat.shiftRight s 16) % 256) (ho : s % 256 = 180) (h : q9lf180 n K K2 rt pc x s a b = some ss) : q9step0 n K K2 (fun _ _ => none) rt cc pc x = some ss := by
  unfold q9lf180 at h
  obtain ⟨h1, h2⟩ := q9cndN h
  rw [q9fcO_eq] at h2
  exact (q9s0r (q9dk2 (mk := .getfield) ⟨_, rfl, rfl⟩ hs ho ha hb h1)).trans h2
noncomputable def q9lf181 (n : q9EN) (K K2 : List (Nat × Int)) (rt : Nat → q9ST → Bool) (pc : Nat) (x : q9ST) (s a b : Nat) : Option (List (Nat × q9ST)) := cond (Nat.ble 1 (Nat.shiftRight s 24)) (q9fcO (Nat.add (Nat.mul a 256) b) (fun j => q9exP (q9eB n) (q9eP n) (q9eW n) x j (pc + 3))) none
theorem q9lf181_ok {n : q9EN} {K K2 : List (Nat × Int)} {rt : Nat → q9ST → Bool} {cc : ByteArray} {pc : Nat} {x : q9ST} {s a b : Nat} {ss : List (Nat × q9ST)} (hs : s = q9bnum cc.data.toList >>> (8 * pc)) (ha : a = (Nat.shiftRight s 8) % 256) (hb : b = (Nat.shiftRight s 16) % 256) (ho : s % 256 = 181) (h : q9lf181 n K K2 rt pc x s a b = some ss) : q9step0 n K K2 (fun _ _ => none) rt cc pc x = some ss := by
  unfold q9lf181 at h
  obtain ⟨h1, h2⟩ := q9cndN h
  rw [q9fcO_eq] at h2
  exact (q9s0r (q9dk2 (mk := .putfield) ⟨_, rfl, rfl⟩ hs ho ha hb h1)).trans h2
noncomputable def q9lf182 (n : q9EN) (K K2 : List (Nat × Int)) (rt : Nat → q9ST → Bool) (pc : Nat) (x : q9ST) (s a b : Nat) : Option (List (Nat × q9ST)) := cond (Nat.ble 1 (Nat.shiftRight s 24)) (q9fcO (Nat.add (Nat.mul a 256) b) (fun j => q9exC (q9eT n) (q9eW n) (q9eR n) x pc (pc + 3) j (q9eV n))) none
theorem q9lf182_ok {n : q9EN} {K K2 : List (Nat × Int)} {rt : Nat → q9ST → Bool} {cc : ByteArray} {pc : Nat} {x : q9ST} {s a b : Nat} {ss : List (Nat × q9ST)} (hs : s = q9bnum cc.data.toList >>> (8 * pc)) (ha : a = (Nat.shiftRight s 8) % 256) (hb : b = (Nat.shiftRight s 16) % 256) (ho : s % 256 = 182) (h : q9lf182 n K K2 rt pc x s a b = some ss) : q9step0 n K K2 (fun _ _ => none) rt cc pc x = some ss := by
  unfold q9lf182 at h
  obtain ⟨h1, h2⟩ := q9cndN h
  rw [q9fcO_eq] at h2
  exact (q9s0r (q9dk2 (mk := .invokevirtual) ⟨_, rfl, rfl⟩ hs ho ha hb h1)).trans h2
noncomputable def q9lf184 (n : q9EN) (K K2 : List (Nat × Int)) (rt : Nat → q9ST → Bool) (pc : Nat) (x : q9ST) (s a b : Nat) : Option (List (Nat × q9ST)) := cond (Nat.ble 1 (Nat.shiftRight s 24)) (q9fcO (Nat.add (Nat.mul a 256) b) (fun j => (match (q9eK n).find? (fun q => q.1 == j) with
              | some q => if q.2 = 0 then q9exCopy (q9eB n) (q9eW n) (q9eR n) x (pc + 3) else q9exMath q.2 (q9eR n) x (pc + 3)
              | none => q9exC (q9eT n) (q9eW n) (q9eR n) x pc (pc + 3) j (q9eS n)))) none
theorem q9lf184_ok {n : q9EN} {K K2 : List (Nat × Int)} {rt : Nat → q9ST → Bool} {cc : ByteArray} {pc : Nat} {x : q9ST} {s a b : Nat} {ss : List (Nat × q9ST)} (hs : s = q9bnum cc.data.toList >>> (8 * pc)) (ha : a = (Nat.shiftRight s 8) % 256) (hb : b = (Nat.shiftRight s 16) % 256) (ho : s % 256 = 184) (h : q9lf184 n K K2 rt pc x s a b = some ss) : q9step0 n K K2 (fun _ _ => none) rt cc pc x = some ss := by
  unfold q9lf184 at h
  obtain ⟨h1, h2⟩ := q9cndN h
  rw [q9fcO_eq] at h2
  exact (q9s0r (q9dk2 (mk := .invokestatic) ⟨_, rfl, rfl⟩ hs ho ha hb h1)).trans h2
noncomputable def q9lf190 (n : q9EN) (K K2 : List (Nat × Int)) (rt : Nat → q9ST → Bool) (pc : Nat) (x : q9ST) (s a b : Nat) : Option (List (Nat × q9ST)) := cond (Nat.ble 1 (Nat.shiftRight s 8)) (q9exLen (q9eB n) x (pc + 1)) none
theorem q9lf190_ok {n : q9EN} {K K2 : List (Nat × Int)} {rt : Nat → q9ST → Bool} {cc : ByteArray} {pc : Nat} {x : q9ST} {s a b : Nat} {ss : List (Nat × q9ST)} (hs : s = q9bnum cc.data.toList >>> (8 * pc)) (ha : a = (Nat.shiftRight s 8) % 256) (hb : b = (Nat.shiftRight s 16) % 256) (ho : s % 256 = 190) (h : q9lf190 n K K2 rt pc x s a b = some ss) : q9step0 n K K2 (fun _ _ => none) rt cc pc x = some ss := by
  unfold q9lf190 at h
  obtain ⟨h1, h2⟩ := q9cndN h
  exact (q9s0r (q9dk0 (i := .arraylength) ⟨_, rfl, rfl⟩ hs ho h1)).trans h2
noncomputable def q9lf198 (n : q9EN) (K K2 : List (Nat × Int)) (rt : Nat → q9ST → Bool) (pc : Nat) (x : q9ST) (s a b : Nat) : Option (List (Nat × q9ST)) := cond (Nat.ble 1 (Nat.shiftRight s 24)) (q9fcOI (Reader.signed 16 (Nat.add (Nat.mul a 256) b)) (fun j => (match q9tgt pc j with
              | some t => q9brN x true t (pc + 3)
              | none => none))) none
theorem q9lf198_ok {n : q9EN} {K K2 : List (Nat × Int)} {rt : Nat → q9ST → Bool} {cc : ByteArray} {pc : Nat} {x : q9ST} {s a b : Nat} {ss : List (Nat × q9ST)} (hs : s = q9bnum cc.data.toList >>> (8 * pc)) (ha : a = (Nat.shiftRight s 8) % 256) (hb : b = (Nat.shiftRight s 16) % 256) (ho : s % 256 = 198) (h : q9lf198 n K K2 rt pc x s a b = some ss) : q9step0 n K K2 (fun _ _ => none) rt cc pc x = some ss := by
  unfold q9lf198 at h
  obtain ⟨h1, h2⟩ := q9cndN h
  rw [q9fcOI_eq] at h2
  exact (q9s0r (q9dk2s (mk := .ifnull) ⟨_, rfl, rfl⟩ hs ho ha hb h1)).trans h2
noncomputable def q9lf199 (n : q9EN) (K K2 : List (Nat × Int)) (rt : Nat → q9ST → Bool) (pc : Nat) (x : q9ST) (s a b : Nat) : Option (List (Nat × q9ST)) := cond (Nat.ble 1 (Nat.shiftRight s 24)) (q9fcOI (Reader.signed 16 (Nat.add (Nat.mul a 256) b)) (fun j => (match q9tgt pc j with
              | some t => q9brN x false t (pc + 3)
              | none => none))) none
theorem q9lf199_ok {n : q9EN} {K K2 : List (Nat × Int)} {rt : Nat → q9ST → Bool} {cc : ByteArray} {pc : Nat} {x : q9ST} {s a b : Nat} {ss : List (Nat × q9ST)} (hs : s = q9bnum cc.data.toList >>> (8 * pc)) (ha : a = (Nat.shiftRight s 8) % 256) (hb : b = (Nat.shiftRight s 16) % 256) (ho : s % 256 = 199) (h : q9lf199 n K K2 rt pc x s a b = some ss) : q9step0 n K K2 (fun _ _ => none) rt cc pc x = some ss := by
  unfold q9lf199 at h
  obtain ⟨h1, h2⟩ := q9cndN h
  rw [q9fcOI_eq] at h2
  exact (q9s0r (q9dk2s (mk := .ifnonnull) ⟨_, rfl, rfl⟩ hs ho ha hb h1)).trans h2
noncomputable def q9stpN (n : q9EN) (K K2 : List (Nat × Int)) (rt : Nat → q9ST → Bool) (pc : Nat) (x : q9ST) (s o a b : Nat) (z : Option (List (Nat × q9ST))) : Option (List (Nat × q9ST)) := cond (Nat.ble o 80) (cond (Nat.ble o 32) (cond (Nat.ble o 17) (cond (Nat.ble o 6) (cond (Nat.ble o 3) (cond (Nat.ble o 1) (cond (Nat.beq o 1) (q9lf1 n K K2 rt pc x s a b) z) (cond (Nat.ble o 2) (cond (Nat.beq o 2) (q9lf2 n K K2 rt pc x s a b) z) (cond (Nat.beq o 3) (q9lf3 n K K2 rt pc x s a b) z))) (cond (Nat.ble o 4) (cond (Nat.beq o 4) (q9lf4 n K K2 rt pc x s a b) z) (cond (Nat.ble o 5) (cond (Nat.beq o 5) (q9lf5 n K K2 rt pc x s a b) z) (cond (Nat.beq o 6) (q9lf6 n K K2 rt pc x s a b) z)))) (cond (Nat.ble o 9) (cond (Nat.ble o 7) (cond (Nat.beq o 7) (q9lf7 n K K2 rt pc x s a b) z) (cond (Nat.ble o 8) (cond (Nat.beq o 8) (q9lf8 n K K2 rt pc x s a b) z) (cond (Nat.beq o 9) (q9lf9 n K K2 rt pc x s a b) z))) (cond (Nat.ble o 10) (cond (Nat.beq o 10) (q9lf10 n K K2 rt pc x s a b) z) (cond (Nat.ble o 16) (cond (Nat.beq o 16) (q9lf16 n K K2 rt pc x s a b) z) (cond (Nat.beq o 17) (q9lf17 n K K2 rt pc x s a b) z))))) (cond (Nat.ble o 25) (cond (Nat.ble o 20) (cond (Nat.ble o 18) (cond (Nat.beq o 18) (q9lf18 n K K2 rt pc x s a b) z) (cond (Nat.ble o 19) (cond (Nat.beq o 19) (q9lf19 n K K2 rt pc x s a b) z) (cond (Nat.beq o 20) (q9lf20 n K K2 rt pc x s a b) z))) (cond (Nat.ble o 21) (cond (Nat.beq o 21) (q9lf21 n K K2 rt pc x s a b) z) (cond (Nat.ble o 22) (cond (Nat.beq o 22) (q9lf22 n K K2 rt pc x s a b) z) (cond (Nat.beq o 25) (q9lf25 n K K2 rt pc x s a b) z)))) (cond (Nat.ble o 28) (cond (Nat.ble o 26) (cond (Nat.beq o 26) (q9lf26 n K K2 rt pc x s a b) z) (cond (Nat.ble o 27) (cond (Nat.beq o 27) (q9lf27 n K K2 rt pc x s a b) z) (cond (Nat.beq o 28) (q9lf28 n K K2 rt pc x s a b) z))) (cond (Nat.ble o 30) (cond (Nat.ble o 29) (cond (Nat.beq o 29) (q9lf29 n K K2 rt pc x s a b) z) (cond (Nat.beq o 30) (q9lf30 n K K2 rt pc x s a b) z)) (cond (Nat.ble o 31) (cond (Nat.beq o 31) (q9lf31 n K K2 rt pc x s a b) z) (cond (Nat.beq o 32) (q9lf32 n K K2 rt pc x s a b) z)))))) (cond (Nat.ble o 59) (cond (Nat.ble o 46) (cond (Nat.ble o 43) (cond (Nat.ble o 33) (cond (Nat.beq o 33) (q9lf33 n K K2 rt pc x s a b) z) (cond (Nat.ble o 42) (cond (Nat.beq o 42) (q9lf42 n K K2 rt pc x s a b) z) (cond (Nat.beq o 43) (q9lf43 n K K2 rt pc x s a b) z))) (cond (Nat.ble o 44) (cond (Nat.beq o 44) (q9lf44 n K K2 rt pc x s a b) z) (cond (Nat.ble o 45) (cond (Nat.beq o 45) (q9lf45 n K K2 rt pc x s a b) z) (cond (Nat.beq o 46) (q9lf46 n K K2 rt pc x s a b) z)))) (cond (Nat.ble o 51) (cond (Nat.ble o 47) (cond (Nat.beq o 47) (q9lf47 n K K2 rt pc x s a b) z) (cond (Nat.ble o 50) (cond (Nat.beq o 50) (q9lf50 n K K2 rt pc x s a b) z) (cond (Nat.beq o 51) (q9lf51 n K K2 rt pc x s a b) z))) (cond (Nat.ble o 55) (cond (Nat.ble o 54) (cond (Nat.beq o 54) (q9lf54 n K K2 rt pc x s a b) z) (cond (Nat.beq o 55) (q9lf55 n K K2 rt pc x s a b) z)) (cond (Nat.ble o 58) (cond (Nat.beq o 58) (q9lf58 n K K2 rt pc x s a b) z) (cond (Nat.beq o 59) (q9lf59 n K K2 rt pc x s a b) z))))) (cond (Nat.ble o 65) (cond (Nat.ble o 62) (cond (Nat.ble o 60) (cond (Nat.beq o 60) (q9lf60 n K K2 rt pc x s a b) z) (cond (Nat.ble o 61) (cond (Nat.beq o 61) (q9lf61 n K K2 rt pc x s a b) z) (cond (Nat.beq o 62) (q9lf62 n K K2 rt pc x s a b) z))) (cond (Nat.ble o 63) (cond (Nat.beq o 63) (q9lf63 n K K2 rt pc x s a b) z) (cond (Nat.ble o 64) (cond (Nat.beq o 64) (q9lf64 n K K2 rt pc x s a b) z) (cond (Nat.beq o 65) (q9lf65 n K K2 rt pc x s a b) z)))) (cond (Nat.ble o 76) (cond (Nat.ble o 66) (cond (Nat.beq o 66) (q9lf66 n K K2 rt pc x s a b) z) (cond (Nat.ble o 75) (cond (Nat.beq o 75) (q9lf75 n K K2 rt pc x s a b) z) (cond (Nat.beq o 76) (q9lf76 n K K2 rt pc x s a b) z))) (cond (Nat.ble o 78) (cond (Nat.ble o 77) (cond (Nat.beq o 77) (q9lf77 n K K2 rt pc x s a b) z) (cond (Nat.beq o 78) (q9lf78 n K K2 rt pc x s a b) z)) (cond (Nat.ble o 79) (cond (Nat.beq o 79) (q9lf79 n K K2 rt pc x s a b) z) (cond (Nat.beq o 80) (q9lf80 n K K2 rt pc x s a b) z))))))) (cond (Nat.ble o 145) (cond (Nat.ble o 109) (cond (Nat.ble o 96) (cond (Nat.ble o 87) (cond (Nat.ble o 83) (cond (Nat.beq o 83) (q9lf83 n K K2 rt pc x s a b) z) (cond (Nat.ble o 84) (cond (Nat.beq o 84) (q9lf84 n K K2 rt pc x s a b) z) (cond (Nat.beq o 87) (q9lf87 n K K2 rt pc x s a b) z))) (cond (Nat.ble o 89) (cond (Nat.beq o 89) (q9lf89 n K K2 rt pc x s a b) z) (cond (Nat.ble o 92) (cond (Nat.beq o 92) (q9lf92 n K K2 rt pc x s a b) z) (cond (Nat.beq o 96) (q9lf96 n K K2 rt pc x s a b) z)))) (cond (Nat.ble o 101) (cond (Nat.ble o 97) (cond (Nat.beq o 97) (q9lf97 n K K2 rt pc x s a b) z) (cond (Nat.ble o 100) (cond (Nat.beq o 100) (q9lf100 n K K2 rt pc x s a b) z) (cond (Nat.beq o 101) (q9lf101 n K K2 rt pc x s a b) z))) (cond (Nat.ble o 105) (cond (Nat.ble o 104) (cond (Nat.beq o 104) (q9lf104 n K K2 rt pc x s a b) z) (cond (Nat.beq o 105) (q9lf105 n K K2 rt pc x s a b) z)) (cond (Nat.ble o 108) (cond (Nat.beq o 108) (q9lf108 n K K2 rt pc x s a b) z) (cond (Nat.beq o 109) (q9lf109 n K K2 rt pc x s a b) z))))) (cond (Nat.ble o 126) (cond (Nat.ble o 120) (cond (Nat.ble o 112) (cond (Nat.beq o 112) (q9lf112 n K K2 rt pc x s a b) z) (cond (Nat.ble o 116) (cond (Nat.beq o 116) (q9lf116 n K K2 rt pc x s a b) z) (cond (Nat.beq o 120) (q9lf120 n K K2 rt pc x s a b) z))) (cond (Nat.ble o 122) (cond (Nat.beq o 122) (q9lf122 n K K2 rt pc x s a b) z) (cond (Nat.ble o 124) (cond (Nat.beq o 124) (q9lf124 n K K2 rt pc x s a b) z) (cond (Nat.beq o 126) (q9lf126 n K K2 rt pc x s a b) z)))) (cond (Nat.ble o 131) (cond (Nat.ble o 128) (cond (Nat.beq o 128) (q9lf128 n K K2 rt pc x s a b) z) (cond (Nat.ble o 130) (cond (Nat.beq o 130) (q9lf130 n K K2 rt pc x s a b) z) (cond (Nat.beq o 131) (q9lf131 n K K2 rt pc x s a b) z))) (cond (Nat.ble o 133) (cond (Nat.ble o 132) (cond (Nat.beq o 132) (q9lf132 n K K2 rt pc x s a b) z) (cond (Nat.beq o 133) (q9lf133 n K K2 rt pc x s a b) z)) (cond (Nat.ble o 136) (cond (Nat.beq o 136) (q9lf136 n K K2 rt pc x s a b) z) (cond (Nat.beq o 145) (q9lf145 n K K2 rt pc x s a b) z)))))) (cond (Nat.ble o 164) (cond (Nat.ble o 157) (cond (Nat.ble o 154) (cond (Nat.ble o 148) (cond (Nat.beq o 148) (q9lf148 n K K2 rt pc x s a b) z) (cond (Nat.ble o 153) (cond (Nat.beq o 153) (q9lf153 n K K2 rt pc x s a b) z) (cond (Nat.beq o 154) (q9lf154 n K K2 rt pc x s a b) z))) (cond (Nat.ble o 155) (cond (Nat.beq o 155) (q9lf155 n K K2 rt pc x s a b) z) (cond (Nat.ble o 156) (cond (Nat.beq o 156) (q9lf156 n K K2 rt pc x s a b) z) (cond (Nat.beq o 157) (q9lf157 n K K2 rt pc x s a b) z)))) (cond (Nat.ble o 160) (cond (Nat.ble o 158) (cond (Nat.beq o 158) (q9lf158 n K K2 rt pc x s a b) z) (cond (Nat.ble o 159) (cond (Nat.beq o 159) (q9lf159 n K K2 rt pc x s a b) z) (cond (Nat.beq o 160) (q9lf160 n K K2 rt pc x s a b) z))) (cond (Nat.ble o 162) (cond (Nat.ble o 161) (cond (Nat.beq o 161) (q9lf161 n K K2 rt pc x s a b) z) (cond (Nat.beq o 162) (q9lf162 n K K2 rt pc x s a b) z)) (cond (Nat.ble o 163) (cond (Nat.beq o 163) (q9lf163 n K K2 rt pc x s a b) z) (cond (Nat.beq o 164) (q9lf164 n K K2 rt pc x s a b) z))))) (cond (Nat.ble o 178) (cond (Nat.ble o 173) (cond (Nat.ble o 167) (cond (Nat.beq o 167) (q9lf167 n K K2 rt pc x s a b) z) (cond (Nat.ble o 172) (cond (Nat.beq o 172) (q9lf172 n K K2 rt pc x s a b) z) (cond (Nat.beq o 173) (q9lf173 n K K2 rt pc x s a b) z))) (cond (Nat.ble o 176) (cond (Nat.beq o 176) (q9lf176 n K K2 rt pc x s a b) z) (cond (Nat.ble o 177) (cond (Nat.beq o 177) (q9lf177 n K K2 rt pc x s a b) z) (cond (Nat.beq o 178) (q9lf178 n K K2 rt pc x s a b) z)))) (cond (Nat.ble o 182) (cond (Nat.ble o 180) (cond (Nat.beq o 180) (q9lf180 n K K2 rt pc x s a b) z) (cond (Nat.ble o 181) (cond (Nat.beq o 181) (q9lf181 n K K2 rt pc x s a b) z) (cond (Nat.beq o 182) (q9lf182 n K K2 rt pc x s a b) z))) (cond (Nat.ble o 190) (cond (Nat.ble o 184) (cond (Nat.beq o 184) (q9lf184 n K K2 rt pc x s a b) z) (cond (Nat.beq o 190) (q9lf190 n K K2 rt pc x s a b) z)) (cond (Nat.ble o 198) (cond (Nat.beq o 198) (q9lf198 n K K2 rt pc x s a b) z) (cond (Nat.beq o 199) (q9lf199 n K K2 rt pc x s a b) z)))))))
theorem q9stpN_ok {n : q9EN} {K K2 : List (Nat × Int)} {rt : Nat → q9ST → Bool} {cc : ByteArray} {pc : Nat} {x : q9ST} {s a b : Nat} {ss : List (Nat × q9ST)} (hs : s = q9bnum cc.data.toList >>> (8 * pc)) (ha : a = (Nat.shiftRight s 8) % 256) (hb : b = (Nat.shiftRight s 16) % 256) {o : Nat} (ho : o = s % 256) (h : q9stpN n K K2 rt pc x s o a b (q9step0 n K K2 (fun _ _ => none) rt cc pc x) = some ss) : q9step0 n K K2 (fun _ _ => none) rt cc pc x = some ss := by
  unfold q9stpN at h
  rcases q9cndB h with ⟨-, h⟩ | h
  · skip
    rcases q9cndB h with ⟨-, h⟩ | h
    · skip
      rcases q9cndB h with ⟨-, h⟩ | h
      · skip
        rcases q9cndB h with ⟨-, h⟩ | h
        · skip
          rcases q9cndB h with ⟨-, h⟩ | h
          · skip
            rcases q9cndB h with ⟨-, h⟩ | h
            · skip
              rcases q9cndB h with ⟨h1, h⟩ | h
              · exact q9lf1_ok hs ha hb (ho.symm.trans (Nat.eq_of_beq_eq_true h1)) h
              · exact h
            · skip
              rcases q9cndB h with ⟨-, h⟩ | h
              · skip
                rcases q9cndB h with ⟨h1, h⟩ | h
                · exact q9lf2_ok hs ha hb (ho.symm.trans (Nat.eq_of_beq_eq_true h1)) h
                · exact h
              · skip
                rcases q9cndB h with ⟨h1, h⟩ | h
                · exact q9lf3_ok hs ha hb (ho.symm.trans (Nat.eq_of_beq_eq_true h1)) h
                · exact h
          · skip
            rcases q9cndB h with ⟨-, h⟩ | h
            · skip
              rcases q9cndB h with ⟨h1, h⟩ | h
              · exact q9lf4_ok hs ha hb (ho.symm.trans (Nat.eq_of_beq_eq_true h1)) h
              · exact h
            · skip
              rcases q9cndB h with ⟨-, h⟩ | h
              · skip
                rcases q9cndB h with ⟨h1, h⟩ | h
                · exact q9lf5_ok hs ha hb (ho.symm.trans (Nat.eq_of_beq_eq_true h1)) h
                · exact h
              · skip
                rcases q9cndB h with ⟨h1, h⟩ | h
                · exact q9lf6_ok hs ha hb (ho.symm.trans (Nat.eq_of_beq_eq_true h1)) h
                · exact h
        · skip
          rcases q9cndB h with ⟨-, h⟩ | h
          · skip
            rcases q9cndB h with ⟨-, h⟩ | h
            · skip
              rcases q9cndB h with ⟨h1, h⟩ | h
              · exact q9lf7_ok hs ha hb (ho.symm.trans (Nat.eq_of_beq_eq_true h1)) h
              · exact h
            · skip
              rcases q9cndB h with ⟨-, h⟩ | h
              · skip
                rcases q9cndB h with ⟨h1, h⟩ | h
                · exact q9lf8_ok hs ha hb (ho.symm.trans (Nat.eq_of_beq_eq_true h1)) h
                · exact h
              · skip
                rcases q9cndB h with ⟨h1, h⟩ | h
                · exact q9lf9_ok hs ha hb (ho.symm.trans (Nat.eq_of_beq_eq_true h1)) h
                · exact h
          · skip
            rcases q9cndB h with ⟨-, h⟩ | h
            · skip
              rcases q9cndB h with ⟨h1, h⟩ | h
              · exact q9lf10_ok hs ha hb (ho.symm.trans (Nat.eq_of_beq_eq_true h1)) h
              · exact h
            · skip
              rcases q9cndB h with ⟨-, h⟩ | h
              · skip
                rcases q9cndB h with ⟨h1, h⟩ | h
                · exact q9lf16_ok hs ha hb (ho.symm.trans (Nat.eq_of_beq_eq_true h1)) h
                · exact h
              · skip
                rcases q9cndB h with ⟨h1, h⟩ | h
                · exact q9lf17_ok hs ha hb (ho.symm.trans (Nat.eq_of_beq_eq_true h1)) h
                · exact h
      · skip
        rcases q9cndB h with ⟨-, h⟩ | h
        · skip
          rcases q9cndB h with ⟨-, h⟩ | h
          · skip
            rcases q9cndB h with ⟨-, h⟩ | h
            · skip
              rcases q9cndB h with ⟨h1, h⟩ | h
              · exact q9lf18_ok hs ha hb (ho.symm.trans (Nat.eq_of_beq_eq_true h1)) h
              · exact h
            · skip
              rcases q9cndB h with ⟨-, h⟩ | h
              · skip
                rcases q9cndB h with ⟨h1, h⟩ | h
                · exact q9lf19_ok hs ha hb (ho.symm.trans (Nat.eq_of_beq_eq_true h1)) h
                · exact h
              · skip
                rcases q9cndB h with ⟨h1, h⟩ | h
                · exact q9lf20_ok hs ha hb (ho.symm.trans (Nat.eq_of_beq_eq_true h1)) h
                · exact h
          · skip
            rcases q9cndB h with ⟨-, h⟩ | h
            · skip
              rcases q9cndB h with ⟨h1, h⟩ | h
              · exact q9lf21_ok hs ha hb (ho.symm.trans (Nat.eq_of_beq_eq_true h1)) h
              · exact h
            · skip
              rcases q9cndB h with ⟨-, h⟩ | h
              · skip
                rcases q9cndB h with ⟨h1, h⟩ | h
                · exact q9lf22_ok hs ha hb (ho.symm.trans (Nat.eq_of_beq_eq_true h1)) h
                · exact h
              · skip
                rcases q9cndB h with ⟨h1, h⟩ | h
                · exact q9lf25_ok hs ha hb (ho.symm.trans (Nat.eq_of_beq_eq_true h1)) h
                · exact h
        · skip
          rcases q9cndB h with ⟨-, h⟩ | h
          · skip
            rcases q9cndB h with ⟨-, h⟩ | h
            · skip
              rcases q9cndB h with ⟨h1, h⟩ | h
              · exact q9lf26_ok hs ha hb (ho.symm.trans (Nat.eq_of_beq_eq_true h1)) h
              · exact h
            · skip
              rcases q9cndB h with ⟨-, h⟩ | h
              · skip
                rcases q9cndB h with ⟨h1, h⟩ | h
                · exact q9lf27_ok hs ha hb (ho.symm.trans (Nat.eq_of_beq_eq_true h1)) h
                · exact h
              · skip
                rcases q9cndB h with ⟨h1, h⟩ | h
                · exact q9lf28_ok hs ha hb (ho.symm.trans (Nat.eq_of_beq_eq_true h1)) h
                · exact h
          · skip
            rcases q9cndB h with ⟨-, h⟩ | h
            · skip
              rcases q9cndB h with ⟨-, h⟩ | h
              · skip
                rcases q9cndB h with ⟨h1, h⟩ | h
                · exact q9lf29_ok hs ha hb (ho.symm.trans (Nat.eq_of_beq_eq_true h1)) h
                · exact h
              · skip
                rcases q9cndB h with ⟨h1, h⟩ | h
                · exact q9lf30_ok hs ha hb (ho.symm.trans (Nat.eq_of_beq_eq_true h1)) h
                · exact h
            · skip
              rcases q9cndB h with ⟨-, h⟩ | h
              · skip
                rcases q9cndB h with ⟨h1, h⟩ | h
                · exact q9lf31_ok hs ha hb (ho.symm.trans (Nat.eq_of_beq_eq_true h1)) h
                · exact h
              · skip
                rcases q9cndB h with ⟨h1, h⟩ | h
                · exact q9lf32_ok hs ha hb (ho.symm.trans (Nat.eq_of_beq_eq_true h1)) h
                · exact h
    · skip
      rcases q9cndB h with ⟨-, h⟩ | h
      · skip
        rcases q9cndB h with ⟨-, h⟩ | h
        · skip
          rcases q9cndB h with ⟨-, h⟩ | h
          · skip
            rcases q9cndB h with ⟨-, h⟩ | h
            · skip
              rcases q9cndB h with ⟨h1, h⟩ | h
              · exact q9lf33_ok hs ha hb (ho.symm.trans (Nat.eq_of_beq_eq_true h1)) h
              · exact h
            · skip
              rcases q9cndB h with ⟨-, h⟩ | h
              · skip
                rcases q9cndB h with ⟨h1, h⟩ | h
                · exact q9lf42_ok hs ha hb (ho.symm.trans (Nat.eq_of_beq_eq_true h1)) h
                · exact h
              · skip
                rcases q9cndB h with ⟨h1, h⟩ | h
                · exact q9lf43_ok hs ha hb (ho.symm.trans (Nat.eq_of_beq_eq_true h1)) h
                · exact h
          · skip
            rcases q9cndB h with ⟨-, h⟩ | h
            · skip
              rcases q9cndB h with ⟨h1, h⟩ | h
              · exact q9lf44_ok hs ha hb (ho.symm.trans (Nat.eq_of_beq_eq_true h1)) h
              · exact h
            · skip
              rcases q9cndB h with ⟨-, h⟩ | h
              · skip
                rcases q9cndB h with ⟨h1, h⟩ | h
                · exact q9lf45_ok hs ha hb (ho.symm.trans (Nat.eq_of_beq_eq_true h1)) h
                · exact h
              · skip
                rcases q9cndB h with ⟨h1, h⟩ | h
                · exact q9lf46_ok hs ha hb (ho.symm.trans (Nat.eq_of_beq_eq_true h1)) h
                · exact h
        · skip
          rcases q9cndB h with ⟨-, h⟩ | h
          · skip
            rcases q9cndB h with ⟨-, h⟩ | h
            · skip
              rcases q9cndB h with ⟨h1, h⟩ | h
              · exact q9lf47_ok hs ha hb (ho.symm.trans (Nat.eq_of_beq_eq_true h1)) h
              · exact h
            · skip
              rcases q9cndB h with ⟨-, h⟩ | h
              · skip
                rcases q9cndB h with ⟨h1, h⟩ | h
                · exact q9lf50_ok hs ha hb (ho.symm.trans (Nat.eq_of_beq_eq_true h1)) h
                · exact h
              · skip
                rcases q9cndB h with ⟨h1, h⟩ | h
                · exact q9lf51_ok hs ha hb (ho.symm.trans (Nat.eq_of_beq_eq_true h1)) h
                · exact h
          · skip
            rcases q9cndB h with ⟨-, h⟩ | h
            · skip
              rcases q9cndB h with ⟨-, h⟩ | h
              · skip
                rcases q9cndB h with ⟨h1, h⟩ | h
                · exact q9lf54_ok hs ha hb (ho.symm.trans (Nat.eq_of_beq_eq_true h1)) h
                · exact h
              · skip
                rcases q9cndB h with ⟨h1, h⟩ | h
                · exact q9lf55_ok hs ha hb (ho.symm.trans (Nat.eq_of_beq_eq_true h1)) h
                · exact h
            · skip
              rcases q9cndB h with ⟨-, h⟩ | h
              · skip
                rcases q9cndB h with ⟨h1, h⟩ | h
                · exact q9lf58_ok hs ha hb (ho.symm.trans (Nat.eq_of_beq_eq_true h1)) h
                · exact h
              · skip
                rcases q9cndB h with ⟨h1, h⟩ | h
                · exact q9lf59_ok hs ha hb (ho.symm.trans (Nat.eq_of_beq_eq_true h1)) h
                · exact h
      · skip
        rcases q9cndB h with ⟨-, h⟩ | h
        · skip
          rcases q9cndB h with ⟨-, h⟩ | h
          · skip
            rcases q9cndB h with ⟨-, h⟩ | h
            · skip
              rcases q9cndB h with ⟨h1, h⟩ | h
              · exact q9lf60_ok hs ha hb (ho.symm.trans (Nat.eq_of_beq_eq_true h1)) h
              · exact h
            · skip
              rcases q9cndB h with ⟨-, h⟩ | h
              · skip
                rcases q9cndB h with ⟨h1, h⟩ | h
                · exact q9lf61_ok hs ha hb (ho.symm.trans (Nat.eq_of_beq_eq_true h1)) h
                · exact h
              · skip
                rcases q9cndB h with ⟨h1, h⟩ | h
                · exact q9lf62_ok hs ha hb (ho.symm.trans (Nat.eq_of_beq_eq_true h1)) h
                · exact h
          · skip
            rcases q9cndB h with ⟨-, h⟩ | h
            · skip
              rcases q9cndB h with ⟨h1, h⟩ | h
              · exact q9lf63_ok hs ha hb (ho.symm.trans (Nat.eq_of_beq_eq_true h1)) h
              · exact h
            · skip
              rcases q9cndB h with ⟨-, h⟩ | h
              · skip
                rcases q9cndB h with ⟨h1, h⟩ | h
                · exact q9lf64_ok hs ha hb (ho.symm.trans (Nat.eq_of_beq_eq_true h1)) h
                · exact h
              · skip
                rcases q9cndB h with ⟨h1, h⟩ | h
                · exact q9lf65_ok hs ha hb (ho.symm.trans (Nat.eq_of_beq_eq_true h1)) h
                · exact h
        · skip
          rcases q9cndB h with ⟨-, h⟩ | h
          · skip
            rcases q9cndB h with ⟨-, h⟩ | h
            · skip
              rcases q9cndB h with ⟨h1, h⟩ | h
              · exact q9lf66_ok hs ha hb (ho.symm.trans (Nat.eq_of_beq_eq_true h1)) h
              · exact h
            · skip
              rcases q9cndB h with ⟨-, h⟩ | h
              · skip
                rcases q9cndB h with ⟨h1, h⟩ | h
                · exact q9lf75_ok hs ha hb (ho.symm.trans (Nat.eq_of_beq_eq_true h1)) h
                · exact h
              · skip
                rcases q9cndB h with ⟨h1, h⟩ | h
                · exact q9lf76_ok hs ha hb (ho.symm.trans (Nat.eq_of_beq_eq_true h1)) h
                · exact h
          · skip
            rcases q9cndB h with ⟨-, h⟩ | h
            · skip
              rcases q9cndB h with ⟨-, h⟩ | h
              · skip
                rcases q9cndB h with ⟨h1, h⟩ | h
                · exact q9lf77_ok hs ha hb (ho.symm.trans (Nat.eq_of_beq_eq_true h1)) h
                · exact h
              · skip
                rcases q9cndB h with ⟨h1, h⟩ | h
                · exact q9lf78_ok hs ha hb (ho.symm.trans (Nat.eq_of_beq_eq_true h1)) h
                · exact h
            · skip
              rcases q9cndB h with ⟨-, h⟩ | h
              · skip
                rcases q9cndB h with ⟨h1, h⟩ | h
                · exact q9lf79_ok hs ha hb (ho.symm.trans (Nat.eq_of_beq_eq_true h1)) h
                · exact h
              · skip
                rcases q9cndB h with ⟨h1, h⟩ | h
                · exact q9lf80_ok hs ha hb (ho.symm.trans (Nat.eq_of_beq_eq_true h1)) h
                · exact h
  · skip
    rcases q9cndB h with ⟨-, h⟩ | h
    · skip
      rcases q9cndB h with ⟨-, h⟩ | h
      · skip
        rcases q9cndB h with ⟨-, h⟩ | h
        · skip
          rcases q9cndB h with ⟨-, h⟩ | h
          · skip
            rcases q9cndB h with ⟨-, h⟩ | h
            · skip
              rcases q9cndB h with ⟨h1, h⟩ | h
              · exact q9lf83_ok hs ha hb (ho.symm.trans (Nat.eq_of_beq_eq_true h1)) h
              · exact h
            · skip
              rcases q9cndB h with ⟨-, h⟩ | h
              · skip
                rcases q9cndB h with ⟨h1, h⟩ | h
                · exact q9lf84_ok hs ha hb (ho.symm.trans (Nat.eq_of_beq_eq_true h1)) h
                · exact h
              · skip
                rcases q9cndB h with ⟨h1, h⟩ | h
                · exact q9lf87_ok hs ha hb (ho.symm.trans (Nat.eq_of_beq_eq_true h1)) h
                · exact h
          · skip
            rcases q9cndB h with ⟨-, h⟩ | h
            · skip
              rcases q9cndB h with ⟨h1, h⟩ | h
              · exact q9lf89_ok hs ha hb (ho.symm.trans (Nat.eq_of_beq_eq_true h1)) h
              · exact h
            · skip
              rcases q9cndB h with ⟨-, h⟩ | h
              · skip
                rcases q9cndB h with ⟨h1, h⟩ | h
                · exact q9lf92_ok hs ha hb (ho.symm.trans (Nat.eq_of_beq_eq_true h1)) h
                · exact h
              · skip
                rcases q9cndB h with ⟨h1, h⟩ | h
                · exact q9lf96_ok hs ha hb (ho.symm.trans (Nat.eq_of_beq_eq_true h1)) h
                · exact h
        · skip
          rcases q9cndB h with ⟨-, h⟩ | h
          · skip
            rcases q9cndB h with ⟨-, h⟩ | h
            · skip
              rcases q9cndB h with ⟨h1, h⟩ | h
              · exact q9lf97_ok hs ha hb (ho.symm.trans (Nat.eq_of_beq_eq_true h1)) h
              · exact h
            · skip
              rcases q9cndB h with ⟨-, h⟩ | h
              · skip
                rcases q9cndB h with ⟨h1, h⟩ | h
                · exact q9lf100_ok hs ha hb (ho.symm.trans (Nat.eq_of_beq_eq_true h1)) h
                · exact h
              · skip
                rcases q9cndB h with ⟨h1, h⟩ | h
                · exact q9lf101_ok hs ha hb (ho.symm.trans (Nat.eq_of_beq_eq_true h1)) h
                · exact h
          · skip
            rcases q9cndB h with ⟨-, h⟩ | h
            · skip
              rcases q9cndB h with ⟨-, h⟩ | h
              · skip
                rcases q9cndB h with ⟨h1, h⟩ | h
                · exact q9lf104_ok hs ha hb (ho.symm.trans (Nat.eq_of_beq_eq_true h1)) h
                · exact h
              · skip
                rcases q9cndB h with ⟨h1, h⟩ | h
                · exact q9lf105_ok hs ha hb (ho.symm.trans (Nat.eq_of_beq_eq_true h1)) h
                · exact h
            · skip
              rcases q9cndB h with ⟨-, h⟩ | h
              · skip
                rcases q9cndB h with ⟨h1, h⟩ | h
                · exact q9lf108_ok hs ha hb (ho.symm.trans (Nat.eq_of_beq_eq_true h1)) h
                · exact h
              · skip
                rcases q9cndB h with ⟨h1, h⟩ | h
                · exact q9lf109_ok hs ha hb (ho.symm.trans (Nat.eq_of_beq_eq_true h1)) h
                · exact h
      · skip
        rcases q9cndB h with ⟨-, h⟩ | h
        · skip
          rcases q9cndB h with ⟨-, h⟩ | h
          · skip
            rcases q9cndB h with ⟨-, h⟩ | h
            · skip
              rcases q9cndB h with ⟨h1, h⟩ | h
              · exact q9lf112_ok hs ha hb (ho.symm.trans (Nat.eq_of_beq_eq_true h1)) h
              · exact h
            · skip
              rcases q9cndB h with ⟨-, h⟩ | h
              · skip
                rcases q9cndB h with ⟨h1, h⟩ | h
                · exact q9lf116_ok hs ha hb (ho.symm.trans (Nat.eq_of_beq_eq_true h1)) h
                · exact h
              · skip
                rcases q9cndB h with ⟨h1, h⟩ | h
                · exact q9lf120_ok hs ha hb (ho.symm.trans (Nat.eq_of_beq_eq_true h1)) h
                · exact h
          · skip
            rcases q9cndB h with ⟨-, h⟩ | h
            · skip
              rcases q9cndB h with ⟨h1, h⟩ | h
              · exact q9lf122_ok hs ha hb (ho.symm.trans (Nat.eq_of_beq_eq_true h1)) h
              · exact h
            · skip
              rcases q9cndB h with ⟨-, h⟩ | h
              · skip
                rcases q9cndB h with ⟨h1, h⟩ | h
                · exact q9lf124_ok hs ha hb (ho.symm.trans (Nat.eq_of_beq_eq_true h1)) h
                · exact h
              · skip
                rcases q9cndB h with ⟨h1, h⟩ | h
                · exact q9lf126_ok hs ha hb (ho.symm.trans (Nat.eq_of_beq_eq_true h1)) h
                · exact h
        · skip
          rcases q9cndB h with ⟨-, h⟩ | h
          · skip
            rcases q9cndB h with ⟨-, h⟩ | h
            · skip
              rcases q9cndB h with ⟨h1, h⟩ | h
              · exact q9lf128_ok hs ha hb (ho.symm.trans (Nat.eq_of_beq_eq_true h1)) h
              · exact h
            · skip
              rcases q9cndB h with ⟨-, h⟩ | h
              · skip
                rcases q9cndB h with ⟨h1, h⟩ | h
                · exact q9lf130_ok hs ha hb (ho.symm.trans (Nat.eq_of_beq_eq_true h1)) h
                · exact h
              · skip
                rcases q9cndB h with ⟨h1, h⟩ | h
                · exact q9lf131_ok hs ha hb (ho.symm.trans (Nat.eq_of_beq_eq_true h1)) h
                · exact h
          · skip
            rcases q9cndB h with ⟨-, h⟩ | h
            · skip
              rcases q9cndB h with ⟨-, h⟩ | h
              · skip
                rcases q9cndB h with ⟨h1, h⟩ | h
                · exact q9lf132_ok hs ha hb (ho.symm.trans (Nat.eq_of_beq_eq_true h1)) h
                · exact h
              · skip
                rcases q9cndB h with ⟨h1, h⟩ | h
                · exact q9lf133_ok hs ha hb (ho.symm.trans (Nat.eq_of_beq_eq_true h1)) h
                · exact h
            · skip
              rcases q9cndB h with ⟨-, h⟩ | h
              · skip
                rcases q9cndB h with ⟨h1, h⟩ | h
                · exact q9lf136_ok hs ha hb (ho.symm.trans (Nat.eq_of_beq_eq_true h1)) h
                · exact h
              · skip
                rcases q9cndB h with ⟨h1, h⟩ | h
                · exact q9lf145_ok hs ha hb (ho.symm.trans (Nat.eq_of_beq_eq_true h1)) h
                · exact h
    · skip
      rcases q9cndB h with ⟨-, h⟩ | h
      · skip
        rcases q9cndB h with ⟨-, h⟩ | h
        · skip
          rcases q9cndB h with ⟨-, h⟩ | h
          · skip
            rcases q9cndB h with ⟨-, h⟩ | h
            · skip
              rcases q9cndB h with ⟨h1, h⟩ | h
              · exact q9lf148_ok hs ha hb (ho.symm.trans (Nat.eq_of_beq_eq_true h1)) h
              · exact h
            · skip
              rcases q9cndB h with ⟨-, h⟩ | h
              · skip
                rcases q9cndB h with ⟨h1, h⟩ | h
                · exact q9lf153_ok hs ha hb (ho.symm.trans (Nat.eq_of_beq_eq_true h1)) h
                · exact h
              · skip
                rcases q9cndB h with ⟨h1, h⟩ | h
                · exact q9lf154_ok hs ha hb (ho.symm.trans (Nat.eq_of_beq_eq_true h1)) h
                · exact h
          · skip
            rcases q9cndB h with ⟨-, h⟩ | h
            · skip
              rcases q9cndB h with ⟨h1, h⟩ | h
              · exact q9lf155_ok hs ha hb (ho.symm.trans (Nat.eq_of_beq_eq_true h1)) h
              · exact h
            · skip
              rcases q9cndB h with ⟨-, h⟩ | h
              · skip
                rcases q9cndB h with ⟨h1, h⟩ | h
                · exact q9lf156_ok hs ha hb (ho.symm.trans (Nat.eq_of_beq_eq_true h1)) h
                · exact h
              · skip
                rcases q9cndB h with ⟨h1, h⟩ | h
                · exact q9lf157_ok hs ha hb (ho.symm.trans (Nat.eq_of_beq_eq_true h1)) h
                · exact h
        · skip
          rcases q9cndB h with ⟨-, h⟩ | h
          · skip
            rcases q9cndB h with ⟨-, h⟩ | h
            · skip
              rcases q9cndB h with ⟨h1, h⟩ | h
              · exact q9lf158_ok hs ha hb (ho.symm.trans (Nat.eq_of_beq_eq_true h1)) h
              · exact h
            · skip
              rcases q9cndB h with ⟨-, h⟩ | h
              · skip
                rcases q9cndB h with ⟨h1, h⟩ | h
                · exact q9lf159_ok hs ha hb (ho.symm.trans (Nat.eq_of_beq_eq_true h1)) h
                · exact h
              · skip
                rcases q9cndB h with ⟨h1, h⟩ | h
                · exact q9lf160_ok hs ha hb (ho.symm.trans (Nat.eq_of_beq_eq_true h1)) h
                · exact h
          · skip
            rcases q9cndB h with ⟨-, h⟩ | h
            · skip
              rcases q9cndB h with ⟨-, h⟩ | h
              · skip
                rcases q9cndB h with ⟨h1, h⟩ | h
                · exact q9lf161_ok hs ha hb (ho.symm.trans (Nat.eq_of_beq_eq_true h1)) h
                · exact h
              · skip
                rcases q9cndB h with ⟨h1, h⟩ | h
                · exact q9lf162_ok hs ha hb (ho.symm.trans (Nat.eq_of_beq_eq_true h1)) h
                · exact h
            · skip
              rcases q9cndB h with ⟨-, h⟩ | h
              · skip
                rcases q9cndB h with ⟨h1, h⟩ | h
                · exact q9lf163_ok hs ha hb (ho.symm.trans (Nat.eq_of_beq_eq_true h1)) h
                · exact h
              · skip
                rcases q9cndB h with ⟨h1, h⟩ | h
                · exact q9lf164_ok hs ha hb (ho.symm.trans (Nat.eq_of_beq_eq_true h1)) h
                · exact h
      · skip
        rcases q9cndB h with ⟨-, h⟩ | h
        · skip
          rcases q9cndB h with ⟨-, h⟩ | h
          · skip
            rcases q9cndB h with ⟨-, h⟩ | h
            · skip
              rcases q9cndB h with ⟨h1, h⟩ | h
              · exact q9lf167_ok hs ha hb (ho.symm.trans (Nat.eq_of_beq_eq_true h1)) h
              · exact h
            · skip
              rcases q9cndB h with ⟨-, h⟩ | h
              · skip
                rcases q9cndB h with ⟨h1, h⟩ | h
                · exact q9lf172_ok hs ha hb (ho.symm.trans (Nat.eq_of_beq_eq_true h1)) h
                · exact h
              · skip
                rcases q9cndB h with ⟨h1, h⟩ | h
                · exact q9lf173_ok hs ha hb (ho.symm.trans (Nat.eq_of_beq_eq_true h1)) h
                · exact h
          · skip
            rcases q9cndB h with ⟨-, h⟩ | h
            · skip
              rcases q9cndB h with ⟨h1, h⟩ | h
              · exact q9lf176_ok hs ha hb (ho.symm.trans (Nat.eq_of_beq_eq_true h1)) h
              · exact h
            · skip
              rcases q9cndB h with ⟨-, h⟩ | h
              · skip
                rcases q9cndB h with ⟨h1, h⟩ | h
                · exact q9lf177_ok hs ha hb (ho.symm.trans (Nat.eq_of_beq_eq_true h1)) h
                · exact h
              · skip
                rcases q9cndB h with ⟨h1, h⟩ | h
                · exact q9lf178_ok hs ha hb (ho.symm.trans (Nat.eq_of_beq_eq_true h1)) h
                · exact h
        · skip
          rcases q9cndB h with ⟨-, h⟩ | h
          · skip
            rcases q9cndB h with ⟨-, h⟩ | h
            · skip
              rcases q9cndB h with ⟨h1, h⟩ | h
              · exact q9lf180_ok hs ha hb (ho.symm.trans (Nat.eq_of_beq_eq_true h1)) h
              · exact h
            · skip
              rcases q9cndB h with ⟨-, h⟩ | h
              · skip
                rcases q9cndB h with ⟨h1, h⟩ | h
                · exact q9lf181_ok hs ha hb (ho.symm.trans (Nat.eq_of_beq_eq_true h1)) h
                · exact h
              · skip
                rcases q9cndB h with ⟨h1, h⟩ | h
                · exact q9lf182_ok hs ha hb (ho.symm.trans (Nat.eq_of_beq_eq_true h1)) h
                · exact h
          · skip
            rcases q9cndB h with ⟨-, h⟩ | h
            · skip
              rcases q9cndB h with ⟨-, h⟩ | h
              · skip
                rcases q9cndB h with ⟨h1, h⟩ | h
                · exact q9lf184_ok hs ha hb (ho.symm.trans (Nat.eq_of_beq_eq_true h1)) h
                · exact h
              · skip
                rcases q9cndB h with ⟨h1, h⟩ | h
                · exact q9lf190_ok hs ha hb (ho.symm.trans (Nat.eq_of_beq_eq_true h1)) h
                · exact h
            · skip
              rcases q9cndB h with ⟨-, h⟩ | h
              · skip
                rcases q9cndB h with ⟨h1, h⟩ | h
                · exact q9lf198_ok hs ha hb (ho.symm.trans (Nat.eq_of_beq_eq_true h1)) h
                · exact h
              · skip
                rcases q9cndB h with ⟨h1, h⟩ | h
                · exact q9lf199_ok hs ha hb (ho.symm.trans (Nat.eq_of_beq_eq_true h1)) h
                · exact h
noncomputable def q9step (n : q9EN) (K : List (Nat × Int)) (K2 : List (Nat × Int)) (mac : Nat → q9ST → Option (List (Nat × q9ST))) (rt : Nat → q9ST → Bool) (cc : ByteArray) (pc : Nat) (x : q9ST) : Option (List (Nat × q9ST)) :=
  match mac pc x with
  | some ss => some ss
  | none => q9fcO (Nat.shiftRight (q9bnum cc.data.toList) (Nat.mul 8 pc)) (fun s => q9fcO (Nat.mod s 256) (fun o => q9fcO (Nat.mod (Nat.shiftRight s 8) 256) (fun a => q9fcO (Nat.mod (Nat.shiftRight s 16) 256) (fun b => q9stpN n K K2 rt pc x s o a b (q9step0 n K K2 (fun _ _ => none) rt cc pc x)))))
section FT
variable {p : Program} {l : Launch} {e : Env} {R : Room} {ko : Nat × Nat} {s : State} {m : MethodId} {args : Array Value} {below : List Frame} {meth : Method} {c : Code} {Q : State → Prop} {cc : ByteArray}
variable {g : List Value} {D : va_G} {cT : Nat → ClassId} {A : Nat → Prop} {H0 : Heap} {G0 : q9GH} {ws0 : va_W}
theorem q9step_ok {own : String} {ALL : List Cond} {n : q9EN} {K K2 : List (Nat × Int)} {mac : Nat → q9ST → Option (List (Nat × q9ST))} {rt : Nat → q9ST → Bool} {z0 : q9ZZ} (hE : q9EV O p l R ko s m args c cc D cT A H0 G0 own ALL n K K2 z0) (hTH : q9THok p l e R ko s m args below meth c Q (q9WM D cT (q9eB n) A H0 G0 ws0 (q9eW n)) own (q9eT n))
    (hmac : ∀ (pc : Nat) (x : q9ST) (ss : List (Nat × q9ST)) (r : Nat → Value), q9wfB x = true → mac pc x = some ss → q9NX O p l e R ko s m args below meth c Q (q9eN n) g (q9WM D cT (q9eB n) A H0 G0 ws0 (q9eW n)) ss x r → q9GO O p l e R ko s m args below meth c Q (q9eN n) g (q9WM D cT (q9eB n) A H0 G0 ws0 (q9eW n)) pc x r)
    (hrt : ∀ (pc : Nat) (x : q9ST) (r : Nat → Value) (k : Nat), q9wfB x = true → (k = 0 ∧ decode cc pc = .ok (.ireturn, 1) ∨ k = 1 ∧ decode cc pc = .ok (.areturn, 1) ∨ k = 2 ∧ decode cc pc = .ok (.return_, 1) ∨ k = 3 ∧ decode cc pc = .ok (.lreturn, 1)) → rt k x = true → q9GO O p l e R ko s m args below meth c Q (q9eN n) g (q9WM D cT (q9eB n) A H0 G0 ws0 (q9eW n)) pc x r) :
    ∀ (pc : Nat) (x : q9ST) (ss : List (Nat × q9ST)) (r : Nat → Value), q9wfB x = true → q9step n K K2 mac rt cc pc x = some ss → q9NX O p l e R ko s m args below meth c Q (q9eN n) g (q9WM D cT (q9eB n) A H0 G0 ws0 (q9eW n)) ss x r → q9GO O p l e R ko s m args below meth c Q (q9eN n) g (q9WM D cT (q9eB n) A H0 G0 ws0 (q9eW n)) pc x r := by
  intro pc x ss r hw h hn
  unfold q9step at h
  split at h
  · rename_i ss' hm
    cases h
    exact hmac pc x ss r hw hm hn
  · rw [q9fcO_eq, q9fcO_eq, q9fcO_eq, q9fcO_eq] at h
    exact q9step0_ok hE hTH (mac := fun _ _ => none) (fun pc x ss r hw hm hn => by cases hm) hrt pc x ss r hw (q9stpN_ok (s := Nat.shiftRight (q9bnum cc.data.toList) (Nat.mul 8 pc)) rfl rfl rfl rfl h) hn
end FT
