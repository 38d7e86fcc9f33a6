/-! a model of a text: bytes by places, what is read of them -/
noncomputable def q9th_mkI (v : Int) : Option Value := if -2147483648 ≤ v ∧ v ≤ 2147483647 then some (.int (Int32.ofInt v)) else none
theorem q9oI_toInt {v : Int} (h : -2147483648 ≤ v ∧ v ≤ 2147483647) : (Int32.ofInt v).toInt = v := Int32.toInt_ofInt_of_le (by omega) (by omega)
theorem q9mkI_of {v : Int} {x : Int32} (h : q9th_mkI v = some (.int x)) : v = x.toInt := by
  unfold q9th_mkI at h
  split at h
  · rename_i hc
    have h := Value.int.inj (Option.some.inj h)
    rw [← h, q9oI_toInt hc]
  · cases h
theorem q9mkI_to {v : Int} {x : Int32} (h : v = x.toInt) : q9th_mkI v = some (.int x) := by
  subst h
  have h1 := Int32.le_toInt x
  have h2 := Int32.toInt_lt x
  unfold q9th_mkI
  rw [if_pos (by omega), Int32.toInt_inj.mp (q9oI_toInt (by omega))]
theorem q9mkI_V {v : Int} {w : Value} (h : q9th_mkI v = some w) : ∃ x : Int32, w = .int x ∧ v = x.toInt := by
  unfold q9th_mkI at h
  split at h
  · rename_i hc
    exact ⟨_, (Option.some.inj h).symm, (q9oI_toInt hc).symm⟩
  · cases h
/-- how far something goes on from a place -/
noncomputable def q9scI (p : Int → Bool) : Nat → Int → Int
  | 0, i => i
  | k + 1, i => if p i = true then q9scI p k (i + 1) else i
noncomputable def q9scN (p : Int → Bool) (N i : Int) : Int := q9scI p (N - i).toNat i
theorem q9scN_yes {p : Int → Bool} {N i : Int} (hN : i < N) (h : p i = true) : q9scN p N i = q9scN p N (i + 1) := by
  unfold q9scN
  rw [show (N - i).toNat = (N - (i + 1)).toNat + 1 by omega]
  show (if p i = true then _ else _) = _
  rw [if_pos h]
theorem q9scN_no {p : Int → Bool} {N i : Int} (h : p i = false) : q9scN p N i = i := by
  unfold q9scN
  cases (N - i).toNat with
  | zero => rfl
  | succ k =>
    show (if p i = true then _ else _) = _
    rw [if_neg (by rw [h]; exact Bool.false_ne_true)]
theorem q9scI_ge {p : Int → Bool} : ∀ (k : Nat) (i : Int), i ≤ q9scI p k i
  | 0, i => Int.le_refl _
  | k + 1, i => by
    unfold q9scI
    split
    · exact Int.le_trans (by omega) (q9scI_ge k (i + 1))
    · exact Int.le_refl _
theorem q9scN_ge {p : Int → Bool} {N i : Int} : i ≤ q9scN p N i := q9scI_ge _ _
theorem q9scI_le {p : Int → Bool} : ∀ (k : Nat) (i : Int), q9scI p k i ≤ i + k
  | 0, i => by
    show i ≤ _
    omega
  | k + 1, i => by
    unfold q9scI
    split
    · have := q9scI_le (p := p) k (i + 1)
      omega
    · omega
theorem q9scN_le {p : Int → Bool} {N i : Int} : q9scN p N i ≤ max i N := by
  have := q9scI_le (p := p) (N - i).toNat i
  unfold q9scN
  omega
theorem q9scI_all {p : Int → Bool} : ∀ (k : Nat) (i j : Int), i ≤ j → j < q9scI p k i → p j = true
  | 0, i, j, h1, h2 => by
    have h2 : j < i := h2
    omega
  | k + 1, i, j, h1, h2 => by
    unfold q9scI at h2
    split at h2
    · rename_i hp
      by_cases hj : j = i
      · rw [hj]
        exact hp
      · exact q9scI_all k (i + 1) j (by omega) h2
    · omega
theorem q9scI_stop {p : Int → Bool} {N : Int} (hp : ∀ i, p i = true → i < N) : ∀ (k : Nat) (i : Int), N - i ≤ k → p (q9scI p k i) = false
  | 0, i, h => by
    show p i = false
    cases hi : p i with
    | false => rfl
    | true =>
      have := hp i hi
      omega
  | k + 1, i, h => by
    unfold q9scI
    split
    · exact q9scI_stop hp k (i + 1) (by omega)
    · rename_i hn
      cases hi : p i with
      | false => rfl
      | true => exact absurd hi hn
theorem q9scN_stop {p : Int → Bool} {N i : Int} (hp : ∀ i, p i = true → i < N) : p (q9scN p N i) = false := q9scI_stop hp _ _ (by omega)
noncomputable def q9byI (T : Int → Int) (N i : Int) : Int := if 0 ≤ i ∧ i < N then T i else -1
theorem q9byI_lt {T : Int → Int} {N i : Int} (h : 0 ≤ q9byI T N i) : 0 ≤ i ∧ i < N := by
  unfold q9byI at h
  split at h
  · assumption
  · omega
noncomputable def q9isBl (T : Int → Int) (N i : Int) : Bool := decide (q9byI T N i = 32)
noncomputable def q9isLe (T : Int → Int) (N i : Int) : Bool := decide (97 ≤ q9byI T N i ∧ q9byI T N i ≤ 122)
noncomputable def q9isDi (T : Int → Int) (N i : Int) : Bool := decide (48 ≤ q9byI T N i ∧ q9byI T N i ≤ 57)
theorem q9isBl_lt {T : Int → Int} {N i : Int} (h : q9isBl T N i = true) : i < N := by
  have h := of_decide_eq_true h
  exact (q9byI_lt (T := T) (N := N) (i := i) (by omega)).2
theorem q9isLe_lt {T : Int → Int} {N i : Int} (h : q9isLe T N i = true) : i < N := by
  have h := of_decide_eq_true h
  exact (q9byI_lt (T := T) (N := N) (i := i) (by omega)).2
theorem q9isDi_lt {T : Int → Int} {N i : Int} (h : q9isDi T N i = true) : i < N := by
  have h := of_decide_eq_true h
  exact (q9byI_lt (T := T) (N := N) (i := i) (by omega)).2
noncomputable def q9spI (T : Int → Int) (N i : Int) : Int := q9scN (q9isBl T N) N i
noncomputable def q9weI (T : Int → Int) (N i : Int) : Int := q9scN (q9isLe T N) N i
noncomputable def q9deI (T : Int → Int) (N i : Int) : Int := q9scN (q9isDi T N) N i
/-- a number's value -/
noncomputable def q9nvF (b : Int → Int) : Nat → Int → Int → Int
  | 0, _, v => v
  | k + 1, i, v => if 48 ≤ b i ∧ b i ≤ 57 then q9nvF b k (i + 1) (min 1000000 (10 * v + (b i - 48))) else v
noncomputable def q9nvI (T : Int → Int) (N i v : Int) : Int := q9nvF (q9byI T N) (N - i).toNat i (min 1000000 (max 0 v))
theorem q9nvI_yes {T : Int → Int} {N i v : Int} (h1 : 48 ≤ q9byI T N i) (h2 : q9byI T N i ≤ 57) (hv : 0 ≤ v) : q9nvI T N i v = q9nvI T N (i + 1) (10 * v + (q9byI T N i - 48)) := by
  have h3 := q9byI_lt (T := T) (N := N) (i := i) (by omega)
  unfold q9nvI
  rw [show (N - i).toNat = (N - (i + 1)).toNat + 1 by omega]
  show (if 48 ≤ q9byI T N i ∧ q9byI T N i ≤ 57 then _ else _) = _
  rw [if_pos ⟨h1, h2⟩]
  congr 1
  omega
theorem q9nvI_no {T : Int → Int} {N i v : Int} (h : q9byI T N i ≤ 47 ∨ 58 ≤ q9byI T N i) (hv : 0 ≤ v) : q9nvI T N i v = min 1000000 v := by
  unfold q9nvI
  have e : min 1000000 (max 0 v) = min 1000000 v := by omega
  rw [e]
  cases (N - i).toNat with
  | zero => rfl
  | succ k =>
    show (if 48 ≤ q9byI T N i ∧ q9byI T N i ≤ 57 then _ else _) = _
    rw [if_neg (by omega)]
theorem q9nvF_rng {b : Int → Int} : ∀ (k : Nat) (i v : Int), 0 ≤ v → v ≤ 1000000 → 0 ≤ q9nvF b k i v ∧ q9nvF b k i v ≤ 1000000
  | 0, _, v, h1, h2 => ⟨h1, h2⟩
  | k + 1, i, v, h1, h2 => by
    unfold q9nvF
    split
    · exact q9nvF_rng k _ _ (by omega) (by omega)
    · exact ⟨h1, h2⟩
theorem q9nvI_rng {T : Int → Int} {N i v : Int} : 0 ≤ q9nvI T N i v ∧ q9nvI T N i v ≤ 1000000 := q9nvF_rng _ _ _ (by omega) (by omega)
/-- the number that a word is packed into -/
noncomputable def q9vrF (b : Int → Int) : Nat → Int → Int32 → Int32
  | 0, _, v => v
  | k + 1, i, v => if 97 ≤ b i ∧ b i ≤ 122 then q9vrF b k (i + 1) ((v <<< 5) ||| Int32.ofInt (b i - 96)) else v
noncomputable def q9vrI (T : Int → Int) (N i : Int) (v : Int32) : Int32 := q9vrF (q9byI T N) (N - i).toNat i v
theorem q9vrI_yes {T : Int → Int} {N i : Int} {v : Int32} (h1 : 97 ≤ q9byI T N i) (h2 : q9byI T N i ≤ 122) : q9vrI T N i v = q9vrI T N (i + 1) ((v <<< 5) ||| Int32.ofInt (q9byI T N i - 96)) := by
  have h3 := q9byI_lt (T := T) (N := N) (i := i) (by omega)
  unfold q9vrI
  rw [show (N - i).toNat = (N - (i + 1)).toNat + 1 by omega]
  show (if 97 ≤ q9byI T N i ∧ q9byI T N i ≤ 122 then _ else _) = _
  rw [if_pos ⟨h1, h2⟩]
theorem q9vrI_no {T : Int → Int} {N i : Int} {v : Int32} (h : q9byI T N i ≤ 96 ∨ 123 ≤ q9byI T N i) : q9vrI T N i v = v := by
  unfold q9vrI
  cases (N - i).toNat with
  | zero => rfl
  | succ k =>
    show (if 97 ≤ q9byI T N i ∧ q9byI T N i ≤ 122 then _ else _) = _
    rw [if_neg (by omega)]
/-- is it that word -/
noncomputable def q9wiI (T : Int → Int) (N : Int) (l : List Int) (i : Int) : Int := if q9weI T N i - i = l.length ∧ (∀ j : Nat, j < l.length → q9byI T N (i + j) = l.getD j 0) then 1 else 0
noncomputable def q9wcI (T : Int → Int) (N i : Int) : Int := if q9weI T N i ≤ i + 6 then (q9vrI T N i 0).toInt else 0
noncomputable def q9TXW : List (List Int) := [[104, 111, 108, 100], [109, 111, 118, 101], [115, 97, 121], [116, 105, 101], [102, 114, 101, 101], [114, 105, 103], [99, 97, 109, 101, 114, 97], [114, 101, 112, 101, 97, 116], [105, 110], [115, 108, 111, 119], [115, 111, 102, 116], [98, 111, 116, 104], [101, 118, 101, 110], [97, 116], [111, 110], [111, 102, 102], [112, 97, 110], [116, 105, 108, 116], [116, 114, 97, 99, 107]]
noncomputable def q9wsI (T : Int → Int) (N : Int) (t : Nat) (i : Int) : Int := q9wiI T N (q9TXW.getD t []) i
/-- the letters from a place on, packed -/
noncomputable def q9pkZ (b : Int → Int) : Nat → Int → Int → Int
  | 0, _, v => v
  | n + 1, i, v => q9pkZ b n (i + 1) (v * 32 + (b i - 96))
theorem q9pk_step {v : Int32} {c : Int} (h1 : 0 ≤ v.toInt) (h2 : v.toInt < 33554432) (h3 : 0 ≤ c) (h4 : c < 32) : ((v <<< 5) ||| Int32.ofInt c).toInt = v.toInt * 32 + c := by
  have hv : v.toBitVec.toNat = v.toInt.toNat := by
    have e : v.toInt = v.toBitVec.toInt := rfl
    rw [BitVec.toInt_eq_toNat_cond] at e
    have := v.toBitVec.isLt
    split at e
    · omega
    · omega
  have hc : (Int32.ofInt c).toBitVec.toNat = c.toNat := by
    have e : (Int32.ofInt c).toInt = (Int32.ofInt c).toBitVec.toInt := rfl
    rw [q9oI_toInt (by omega), BitVec.toInt_eq_toNat_cond] at e
    have := (Int32.ofInt c).toBitVec.isLt
    split at e
    · omega
    · omega
  have hs : ((v <<< 5) ||| Int32.ofInt c).toBitVec.toNat = v.toInt.toNat * 32 + c.toNat := by
    have e1 : ((v <<< 5) ||| Int32.ofInt c).toBitVec = (v.toBitVec <<< 5) ||| (Int32.ofInt c).toBitVec := rfl
    rw [e1, BitVec.toNat_or, BitVec.toNat_shiftLeft, hv, hc, Nat.shiftLeft_eq, Nat.mod_eq_of_lt (by omega), show (2 : Nat) ^ 5 = 32 from rfl]
    have := Nat.shiftLeft_add_eq_or_of_lt (i := 5) (b := c.toNat) (by omega) v.toInt.toNat
    rw [Nat.shiftLeft_eq, show (2 : Nat) ^ 5 = 32 from rfl] at this
    exact this.symm
  have e : ((v <<< 5) ||| Int32.ofInt c).toInt = ((v <<< 5) ||| Int32.ofInt c).toBitVec.toInt := rfl
  rw [e, BitVec.toInt_eq_toNat_cond, hs, if_pos (by omega)]
  omega
theorem q9pkZ_rng {b : Int → Int} : ∀ (n k : Nat) (i v : Int), (∀ j : Nat, j < n → 97 ≤ b (i + j) ∧ b (i + j) ≤ 122) → 0 ≤ v → v < 32 ^ k → 0 ≤ q9pkZ b n i v ∧ q9pkZ b n i v < 32 ^ (k + n)
  | 0, k, i, v, _, h1, h2 => ⟨h1, h2⟩
  | n + 1, k, i, v, h, h1, h2 => by
    have h0 := h 0 (by omega)
    rw [show i + ((0 : Nat) : Int) = i by omega] at h0
    have e : (32 : Int) ^ (k + 1) = 32 ^ k * 32 := Int.pow_succ 32 k
    have := q9pkZ_rng n (k + 1) (i + 1) (v * 32 + (b i - 96)) (fun j hj => by
      have := h (j + 1) (by omega)
      rw [show i + 1 + (j : Int) = i + ((j + 1 : Nat) : Int) by omega]
      exact this) (by omega) (by omega)
    rw [show k + (n + 1) = k + 1 + n by omega]
    exact this
theorem q9pkZ_snoc {b : Int → Int} : ∀ (n : Nat) (i v : Int), q9pkZ b (n + 1) i v = q9pkZ b n i v * 32 + (b (i + n) - 96)
  | 0, i, v => by
    show v * 32 + (b i - 96) = v * 32 + (b (i + ((0 : Nat) : Int)) - 96)
    rw [show i + ((0 : Nat) : Int) = i by omega]
  | n + 1, i, v => by
    show q9pkZ b (n + 1) (i + 1) (v * 32 + (b i - 96)) = q9pkZ b n (i + 1) (v * 32 + (b i - 96)) * 32 + _
    rw [q9pkZ_snoc n (i + 1), show i + 1 + (n : Int) = i + ((n + 1 : Nat) : Int) by omega]
theorem q9pkZ_pos {b : Int → Int} {n : Nat} {i : Int} (h : ∀ j : Nat, j < n → 97 ≤ b (i + j) ∧ b (i + j) ≤ 122) : 0 ≤ q9pkZ b n i 0 := (q9pkZ_rng n 0 i 0 h (by omega) (by decide)).1
theorem q9pkZ_inj {b b' : Int → Int} {i i' : Int} : ∀ (n m : Nat), (∀ j : Nat, j < n → 97 ≤ b (i + j) ∧ b (i + j) ≤ 122) → (∀ j : Nat, j < m → 97 ≤ b' (i' + j) ∧ b' (i' + j) ≤ 122) → q9pkZ b n i 0 = q9pkZ b' m i' 0 → n = m ∧ ∀ j : Nat, j < n → b (i + j) = b' (i' + j)
  | 0, 0, _, _, _ => ⟨rfl, fun j hj => by omega⟩
  | 0, m + 1, _, h2, h => by
    exfalso
    rw [q9pkZ_snoc] at h
    have h3 := q9pkZ_pos (n := m) fun j hj => h2 j (by omega)
    have h4 := h2 m (by omega)
    have h5 : q9pkZ b 0 i 0 = 0 := rfl
    omega
  | n + 1, 0, h1, _, h => by
    exfalso
    rw [q9pkZ_snoc] at h
    have h3 := q9pkZ_pos (n := n) fun j hj => h1 j (by omega)
    have h4 := h1 n (by omega)
    have h5 : q9pkZ b' 0 i' 0 = 0 := rfl
    omega
  | n + 1, m + 1, h1, h2, h => by
    rw [q9pkZ_snoc, q9pkZ_snoc] at h
    have h3 := h1 n (by omega)
    have h4 := h2 m (by omega)
    have e1 : q9pkZ b n i 0 = q9pkZ b' m i' 0 := by omega
    have e2 : b (i + n) = b' (i' + m) := by omega
    obtain ⟨e3, e4⟩ := q9pkZ_inj n m (fun j hj => h1 j (by omega)) (fun j hj => h2 j (by omega)) e1
    subst e3
    refine ⟨rfl, fun j hj => ?_⟩
    by_cases hjn : j = n
    · subst hjn
      exact e2
    · exact e4 j (by omega)
/-- a word's letters -/
theorem q9we_let {T : Int → Int} {N i : Int} (j : Nat) (h : (j : Int) < q9weI T N i - i) : 97 ≤ q9byI T N (i + j) ∧ q9byI T N (i + j) ≤ 122 := of_decide_eq_true (q9scI_all (p := q9isLe T N) _ i (i + j) (by omega) (by
  show i + (j : Int) < q9weI T N i
  omega))
theorem q9vr_pk {T : Int → Int} {N : Int} : ∀ (n k : Nat) (i : Int) (v : Int32), (q9weI T N i - i).toNat = n → k + n ≤ 6 → 0 ≤ v.toInt → v.toInt < 32 ^ k → (q9vrI T N i v).toInt = q9pkZ (q9byI T N) n i v.toInt
  | 0, k, i, v, hn, hk, h1, h2 => by
    have hge : i ≤ q9weI T N i := q9scN_ge
    have he : q9weI T N i = i := by omega
    have hs : q9isLe T N (q9weI T N i) = false := q9scN_stop fun i hi => q9isLe_lt hi
    rw [he] at hs
    have hs := of_decide_eq_false hs
    rw [q9vrI_no (by omega)]
    rfl
  | n + 1, k, i, v, hn, hk, h1, h2 => by
    have h0 := q9we_let (T := T) (N := N) (i := i) 0 (by omega)
    rw [show i + ((0 : Nat) : Int) = i by omega] at h0
    have hp : q9isLe T N i = true := decide_eq_true h0
    have he : q9weI T N i = q9weI T N (i + 1) := q9scN_yes (q9isLe_lt hp) hp
    have hk5 : (32 : Int) ^ k ≤ 33554432 := (by decide +kernel : ∀ k : Nat, k < 6 → (32 : Int) ^ k ≤ 33554432) k (by omega)
    have e : (32 : Int) ^ (k + 1) = 32 ^ k * 32 := Int.pow_succ 32 k
    have hst := q9pk_step (v := v) (c := q9byI T N i - 96) h1 (by omega) (by omega) (by omega)
    rw [q9vrI_yes h0.1 h0.2, q9vr_pk n (k + 1) (i + 1) _ (by omega) (by omega) (by omega) (by omega), hst]
    rfl
noncomputable def q9wnI (t : Nat) : Int := q9pkZ (fun j => (q9TXW.getD t []).getD j.toNat 0) (q9TXW.getD t []).length 0 0
theorem q9TXW_ok : ∀ t : Nat, t < 19 → 1 ≤ (q9TXW.getD t []).length ∧ (q9TXW.getD t []).length ≤ 6 ∧ ∀ j : Nat, j < (q9TXW.getD t []).length → 97 ≤ (q9TXW.getD t []).getD j 0 ∧ (q9TXW.getD t []).getD j 0 ≤ 122 := by decide +kernel
theorem q9wnI_pos {t : Nat} (ht : t < 19) : 1 ≤ q9wnI t := by
  have : ∀ t : Nat, t < 19 → 1 ≤ q9wnI t := by decide +kernel
  exact this t ht
/-- the word's number tells which text it is -/
theorem q9ws_wc {T : Int → Int} {N : Int} {t : Nat} (ht : t < 19) {i : Int} : q9wsI T N t i = 1 ↔ q9wcI T N i = q9wnI t := by
  obtain ⟨l1, l2, l3⟩ := q9TXW_ok t ht
  have hge : i ≤ q9weI T N i := q9scN_ge
  unfold q9wsI q9wiI q9wcI
  by_cases h6 : q9weI T N i ≤ i + 6
  · rw [if_pos h6]
    have e := q9vr_pk (T := T) (N := N) (q9weI T N i - i).toNat 0 i 0 rfl (by omega) (by decide) (by decide)
    rw [e]
    have e0 : (0 : Int32).toInt = 0 := by decide
    rw [e0]
    constructor
    · intro h
      split at h
      · rename_i hc
        obtain ⟨c1, c2⟩ := hc
        have en : (q9weI T N i - i).toNat = (q9TXW.getD t []).length := by omega
        unfold q9wnI
        rw [en]
        have key : ∀ (n : Nat) (p p' v : Int), n ≤ (q9TXW.getD t []).length → p = i + ((q9TXW.getD t []).length - n : Nat) → p' = ((q9TXW.getD t []).length - n : Nat) → q9pkZ (q9byI T N) n p v = q9pkZ (fun j => (q9TXW.getD t []).getD j.toNat 0) n p' v := by
          intro n
          induction n with
          | zero => intros; rfl
          | succ n ih =>
            intro p p' v hn hp hp'
            show q9pkZ _ n (p + 1) _ = q9pkZ _ n (p' + 1) _
            have e2 := c2 ((q9TXW.getD t []).length - (n + 1)) (by omega)
            rw [← hp] at e2
            have e3 : p'.toNat = (q9TXW.getD t []).length - (n + 1) := by omega
            rw [e2]
            dsimp only
            rw [e3]
            exact ih (p + 1) (p' + 1) _ (by omega) (by omega) (by omega)
        exact key _ i 0 0 (Nat.le_refl _) (by omega) (by omega)
      · omega
    · intro h
      unfold q9wnI at h
      obtain ⟨e1, e2⟩ := q9pkZ_inj (i := i) (i' := 0) _ _ (fun j hj => q9we_let j (by omega)) (fun j hj => by
        rw [show (0 : Int) + (j : Int) = j by omega, Int.toNat_natCast]
        exact l3 j hj) h
      rw [if_pos ⟨by omega, fun j hj => by
        rw [e2 j (by omega), show (0 : Int) + (j : Int) = j by omega, Int.toNat_natCast]⟩]
  · rw [if_neg h6, if_neg (by omega)]
    have := q9wnI_pos ht
    omega
theorem q9ws_01 {T : Int → Int} {N : Int} {t : Nat} {i : Int} : q9wsI T N t i = 1 ∨ q9wsI T N t i = 0 := by
  unfold q9wsI q9wiI
  split
  · exact .inl rfl
  · exact .inr rfl
noncomputable def q9kbI (T : Int → Int) (N i : Int) : Int := if q9wsI T N 0 i = 1 then 0 else if q9wsI T N 1 i = 1 then 1 else if q9wsI T N 2 i = 1 then 2 else if q9wsI T N 3 i = 1 then 3 else if q9wsI T N 4 i = 1 then 4 else if q9wsI T N 5 i = 1 then 5 else if q9wsI T N 6 i = 1 then 6 else if q9wsI T N 7 i = 1 then 7 else -1
noncomputable def q9koI (v : Int) : Int := if v = 277892 then 0 else if v = 442053 then 1 else if v = 19513 then 2 else if v = 20773 then 3 else if v = 215205 then 4 else if v = 18727 then 5 else if v = 102143553 then 6 else if v = 609752116 then 7 else -1
theorem q9kb_ko {T : Int → Int} {N i : Int} : q9kbI T N i = q9koI (q9wcI T N i) := by
  have e : ∀ t : Nat, t < 8 → (q9wsI T N t i = 1 ↔ q9wcI T N i = [277892, 442053, 19513, 20773, 215205, 18727, 102143553, 609752116].getD t 0) := fun t ht => by
    rw [q9ws_wc (by omega)]
    have : ∀ t : Nat, t < 8 → q9wnI t = [277892, 442053, 19513, 20773, 215205, 18727, 102143553, 609752116].getD t 0 := by decide +kernel
    rw [this t ht]
  unfold q9kbI q9koI
  exact ite_congr (propext (e 0 (by omega))) (fun _ => rfl) (fun _ => ite_congr (propext (e 1 (by omega))) (fun _ => rfl) (fun _ => ite_congr (propext (e 2 (by omega))) (fun _ => rfl) (fun _ => ite_congr (propext (e 3 (by omega))) (fun _ => rfl) (fun _ => ite_congr (propext (e 4 (by omega))) (fun _ => rfl) (fun _ => ite_congr (propext (e 5 (by omega))) (fun _ => rfl) (fun _ => ite_congr (propext (e 6 (by omega))) (fun _ => rfl) (fun _ => ite_congr (propext (e 7 (by omega))) (fun _ => rfl) (fun _ => rfl))))))))
/-! grammar: a kind of fault (0: none) and a place -/
abbrev q9TK2 : Type := Int × Int
noncomputable def q9tkN (T : Int → Int) (N lo hi a : Int) : q9TK2 := if q9deI T N (q9spI T N a) ≤ q9spI T N a then (1, q9spI T N a) else if lo ≤ q9nvI T N (q9spI T N a) 0 ∧ q9nvI T N (q9spI T N a) 0 ≤ hi then (0, q9deI T N (q9spI T N a)) else (2, q9spI T N a)
noncomputable def q9tkW (T : Int → Int) (N : Int) (ts : List Nat) (a : Int) : q9TK2 := if ∃ t ∈ ts, q9wsI T N t (q9spI T N a) = 1 then (0, q9weI T N (q9spI T N a)) else (1, q9spI T N a)
noncomputable def q9tkS (T : Int → Int) (N s a : Int) : q9TK2 := if q9byI T N (q9spI T N a) = s then (0, q9spI T N a + 1) else (1, q9spI T N a)
noncomputable def q9tk12 (T : Int → Int) (N a : Int) : q9TK2 := if 1 ≤ q9weI T N (q9spI T N a) - q9spI T N a ∧ q9weI T N (q9spI T N a) - q9spI T N a ≤ 20 then (0, q9weI T N (q9spI T N a)) else (1, q9spI T N a)
noncomputable def q9tk13 (T : Int → Int) (N a : Int) : q9TK2 := if 97 ≤ q9byI T N (q9spI T N a) ∧ q9byI T N (q9spI T N a) ≤ 122 then q9tkW T N [9, 10, 11, 12] a else (0, q9spI T N a)
noncomputable def q9tk14 (T : Int → Int) (N a : Int) : q9TK2 := if q9byI T N (q9spI T N a) = 45 then (0, q9spI T N a + 1) else (0, q9spI T N a)
noncomputable def q9tkR : List (Int → q9TK2) → Int → q9TK2
  | [], a => (0, a)
  | t :: ts, a => if (t a).1 = 0 then q9tkR ts (t a).2 else t a
noncomputable def q9aimL (T : Int → Int) (N P : Int) (J : Int → Int) (a : Int) : List (Int → q9TK2) := [q9tkN T N 0 (P - 1), q9tkS T N 46, q9tkN T N 0 (J (q9nvI T N (q9spI T N a) 0) - 1), q9tk14 T N, q9tkN T N 0 32]
noncomputable def q9aimI (T : Int → Int) (N P : Int) (J : Int → Int) (a : Int) : q9TK2 := q9tkR (q9aimL T N P J a) a
noncomputable def q9aimF (T : Int → Int) (N P : Int) (J : Int → Int) : Nat → Int → q9TK2
  | 0, a => (0, a)
  | k + 1, a => if (q9aimI T N P J a).1 = 0 then (if q9byI T N (q9spI T N (q9aimI T N P J a).2) = 44 then q9aimF T N P J k (q9spI T N (q9aimI T N P J a).2 + 1) else (0, q9spI T N (q9aimI T N P J a).2)) else q9aimI T N P J a
noncomputable def q9tk35 (T : Int → Int) (N P : Int) (J : Int → Int) (a : Int) : q9TK2 := q9aimF T N P J ((N - a).toNat + 1) a
/-! the turns of a text: place, lines, repeats that stand (line, place, frames, lines done; the last is the text itself) -/
abbrev q9TE9 : Type := Int × Int × Int64 × Int64
abbrev q9CF9 : Type := Int × Int × List q9TE9
section TURN
variable (T : Int → Int) (N P : Int) (J : Int → Int)
noncomputable def q9tkI (u : Nat) (b a : Int) : q9TK2 := match u with
  | 0 => q9tkN T N 1 200 a
  | 1 => q9tkN T N 1 20 a
  | 2 => q9tkN T N 1 400 a
  | 3 => q9tkN T N 0 400 a
  | 4 => q9tkN T N 0 9999 a
  | 5 => q9tkN T N 0 32 a
  | 6 => q9tkN T N 0 (P - 1) a
  | 7 => q9tkN T N 0 (J b - 1) a
  | 8 => q9tkW T N [8] a
  | 9 => q9tkW T N [13] a
  | 10 => q9tkW T N [16, 17, 18] a
  | 11 => q9tkW T N [14, 15] a
  | 12 => q9tk12 T N a
  | 13 => q9tk13 T N a
  | 14 => q9tk14 T N a
  | 20 => q9tkS T N b a
  | 30 => q9tkR [q9tkN T N 0 (P - 1), q9tkW T N [14, 15]] a
  | 31 => q9tkR [q9tkN T N 0 (P - 1), q9tk12 T N, q9tkW T N [13], q9tkN T N 0 400] a
  | 32 => q9tkR [q9tkW T N [16, 17, 18], q9tkN T N 0 9999, q9tkW T N [8], q9tkN T N 1 400, q9tk13 T N] a
  | 33 => q9tkR [q9tk35 T N P J, q9tkW T N [8], q9tkN T N 1 200, q9tk13 T N] a
  | 34 => q9tkR [q9tkN T N 1 20, q9tkS T N 91] a
  | 35 => q9tk35 T N P J a
  | 36 => q9aimI T N P J a
  | _ => (0, a)
noncomputable def q9amI (k : Int) (a : Int) : Int := if k = 0 ∨ k = 7 then q9nvI T N (q9spI T N a) 0 else if k = 1 then q9nvI T N (q9spI T N (q9tkW T N [8] (q9tk35 T N P J a).2).2) 0 else if k = 6 then q9nvI T N (q9spI T N (q9tkW T N [8] (q9tkN T N 0 9999 (q9tkW T N [16, 17, 18] a).2).2).2) 0 else 0
noncomputable def q9rsU (k : Int) : Nat := if k = 0 then 0 else if k = 1 then 33 else if k = 2 then 31 else if k = 3 ∨ k = 4 then 6 else if k = 5 then 30 else if k = 6 then 32 else 34
/-- the rest of a line of a kind, from behind its word on -/
noncomputable def q9rsI (k a : Int) : q9TK2 := q9tkI T N P J (q9rsU k) 0 a
/-- how often a repeat is told that begins at a place -/
noncomputable def q9moI (a : Int) : Int64 := Int64.ofInt (q9amI T N P J 7 (q9weI T N (q9spI T N a)))
/-- the kind of the line that begins at a turn; 8: a repeat is closed, 9: the end -/
noncomputable def q9lkI (c : q9CF9) : Int := if 2 ≤ c.2.2.length ∧ q9byI T N (q9spI T N c.1) = 93 then 8 else if q9byI T N (q9spI T N c.1) < 0 then 9 else q9kbI T N (q9spI T N c.1)
noncomputable def q9rcI (c : q9CF9) : q9TK2 := q9rsI T N P J (q9lkI T N c) (q9weI T N (q9spI T N c.1))
/-- does a line stand at a turn, as far as its sign -/
abbrev q9okL (c : q9CF9) : Prop := 0 ≤ q9lkI T N c ∧ q9lkI T N c ≤ 7 ∧ c.2.1 < 60 ∧ (q9lkI T N c = 7 → c.2.2.length < 5) ∧ (q9rcI T N P J c).1 = 0
/-- the turn behind -/
noncomputable def q9th_nxI (c : q9CF9) : Option q9CF9 := match c.2.2 with
  | [] => none
  | q :: st => if q9lkI T N c = 8 then (match st with
      | [] => none
      | q' :: st' => if q9byI T N (q9spI T N (q9spI T N c.1 + 1)) = 59 then some (q9spI T N (q9spI T N c.1 + 1) + 1, c.2.1, (q'.1, q'.2.1, q'.2.2.1 + q9moI T N P J q.2.1 * q.2.2.1, q'.2.2.2 + q9moI T N P J q.2.1 * q.2.2.2) :: st') else none)
    else if q9okL T N P J c then (if q9lkI T N c = 7 then some ((q9rcI T N P J c).2, c.2.1 + 1, (c.2.1, c.1, 0, 0) :: (q.1, q.2.1, q.2.2.1, q.2.2.2 + 1) :: st)
      else if q9byI T N (q9spI T N (q9rcI T N P J c).2) = 59 then some (q9spI T N (q9rcI T N P J c).2 + 1, c.2.1 + 1, (q.1, q.2.1, (if q9lkI T N c ≤ 1 then q.2.2.1 + Int64.ofInt (q9amI T N P J (q9lkI T N c) (q9weI T N (q9spI T N c.1))) else q.2.2.1), q.2.2.2 + 1) :: st) else none)
    else none
/-- how it ends there -/
noncomputable def q9th_reI (c : q9CF9) : Int × Int := if q9lkI T N c = 8 then (1, q9spI T N (q9spI T N c.1 + 1)) else if q9lkI T N c = 9 then (if c.2.2.length < 2 then (0, 0) else (1, N)) else if q9lkI T N c < 0 then (1, q9spI T N c.1) else if 60 ≤ c.2.1 ∨ (q9lkI T N c = 7 ∧ 5 ≤ c.2.2.length) then (3, q9spI T N c.1) else if (q9rcI T N P J c).1 = 0 then (1, q9spI T N (q9rcI T N P J c).2) else q9rcI T N P J c
noncomputable def q9trI : Nat → Option q9CF9
  | 0 => some (0, 0, [(-1, 0, 0, 0)])
  | n + 1 => (q9trI n).bind (q9th_nxI T N P J)
noncomputable def q9visI (c : q9CF9) : Prop := ∃ n, q9trI T N P J n = some c
end TURN
section TOK
variable {T : Int → Int} {N P : Int} {J : Int → Int}
theorem q9sp_ge {i : Int} : i ≤ q9spI T N i := q9scN_ge
theorem q9we_ge {i : Int} : i ≤ q9weI T N i := q9scN_ge
theorem q9de_ge {i : Int} : i ≤ q9deI T N i := q9scN_ge
theorem q9sp_le {i : Int} : q9spI T N i ≤ max i N := q9scN_le
theorem q9we_le {i : Int} : q9weI T N i ≤ max i N := q9scN_le
theorem q9de_le {i : Int} : q9deI T N i ≤ max i N := q9scN_le
/-- places don't fall; they stay within the text -/
noncomputable def q9tkG (N : Int) (t : Int → q9TK2) : Prop := ∀ a, a ≤ (t a).2 ∧ (t a).2 ≤ max a N
theorem q9tkN_G {lo hi : Int} : q9tkG N (q9tkN T N lo hi) := fun a => by
  have h1 := q9sp_ge (T := T) (N := N) (i := a)
  have h2 := q9sp_le (T := T) (N := N) (i := a)
  have h3 := q9de_ge (T := T) (N := N) (i := q9spI T N a)
  have h4 := q9de_le (T := T) (N := N) (i := q9spI T N a)
  unfold q9tkN
  split
  · exact ⟨h1, h2⟩
  · split
    · show a ≤ q9deI T N (q9spI T N a) ∧ q9deI T N (q9spI T N a) ≤ _
      omega
    · exact ⟨h1, h2⟩
theorem q9tkW_G {ts : List Nat} : q9tkG N (q9tkW T N ts) := fun a => by
  have h1 := q9sp_ge (T := T) (N := N) (i := a)
  have h2 := q9sp_le (T := T) (N := N) (i := a)
  have h3 := q9we_ge (T := T) (N := N) (i := q9spI T N a)
  have h4 := q9we_le (T := T) (N := N) (i := q9spI T N a)
  unfold q9tkW
  split
  · show a ≤ q9weI T N (q9spI T N a) ∧ q9weI T N (q9spI T N a) ≤ _
    omega
  · exact ⟨h1, h2⟩
theorem q9tkS_G {s : Int} (hs : 0 ≤ s) : q9tkG N (q9tkS T N s) := fun a => by
  have h1 := q9sp_ge (T := T) (N := N) (i := a)
  have h2 := q9sp_le (T := T) (N := N) (i := a)
  unfold q9tkS
  split
  · rename_i hb
    have h3 := q9byI_lt (T := T) (N := N) (i := q9spI T N a) (by omega)
    show a ≤ q9spI T N a + 1 ∧ q9spI T N a + 1 ≤ _
    omega
  · exact ⟨h1, h2⟩
theorem q9tk12_G : q9tkG N (q9tk12 T N) := fun a => by
  have h1 := q9sp_ge (T := T) (N := N) (i := a)
  have h2 := q9sp_le (T := T) (N := N) (i := a)
  have h3 := q9we_ge (T := T) (N := N) (i := q9spI T N a)
  have h4 := q9we_le (T := T) (N := N) (i := q9spI T N a)
  unfold q9tk12
  split
  · show a ≤ q9weI T N (q9spI T N a) ∧ q9weI T N (q9spI T N a) ≤ _
    omega
  · exact ⟨h1, h2⟩
theorem q9tk13_G : q9tkG N (q9tk13 T N) := fun a => by
  unfold q9tk13
  split
  · exact q9tkW_G a
  · exact ⟨q9sp_ge, q9sp_le⟩
theorem q9tk14_G : q9tkG N (q9tk14 T N) := fun a => by
  have h1 := q9sp_ge (T := T) (N := N) (i := a)
  have h2 := q9sp_le (T := T) (N := N) (i := a)
  unfold q9tk14
  split
  · rename_i hb
    have h3 := q9byI_lt (T := T) (N := N) (i := q9spI T N a) (by omega)
    show a ≤ q9spI T N a + 1 ∧ q9spI T N a + 1 ≤ _
    omega
  · exact ⟨h1, h2⟩
theorem q9tkR_G : ∀ (ts : List (Int → q9TK2)), (∀ t ∈ ts, q9tkG N t) → q9tkG N (q9tkR ts)
  | [], _, a => by
    show a ≤ a ∧ a ≤ _
    omega
  | t :: ts, h, a => by
    have h1 := h t List.mem_cons_self a
    unfold q9tkR
    split
    · have h2 := q9tkR_G ts (fun t ht => h t (List.mem_cons_of_mem _ ht)) (t a).2
      omega
    · exact h1
theorem q9aimL_G (a : Int) : ∀ t ∈ q9aimL T N P J a, q9tkG N t := by
  unfold q9aimL
  exact List.forall_mem_cons.mpr ⟨q9tkN_G, List.forall_mem_cons.mpr ⟨q9tkS_G (by decide), List.forall_mem_cons.mpr ⟨q9tkN_G, List.forall_mem_cons.mpr ⟨q9tk14_G, List.forall_mem_cons.mpr ⟨q9tkN_G, fun _ h => absurd h List.not_mem_nil⟩⟩⟩⟩⟩
theorem q9aim_G : q9tkG N (q9aimI T N P J) := fun a => q9tkR_G _ (q9aimL_G a) a
theorem q9aimF_G : ∀ k : Nat, q9tkG N (q9aimF T N P J k)
  | 0, a => by
    show a ≤ a ∧ a ≤ _
    omega
  | k + 1, a => by
    have h1 := q9aim_G (T := T) (N := N) (P := P) (J := J) a
    have h2 := q9sp_ge (T := T) (N := N) (i := (q9aimI T N P J a).2)
    have h3 := q9sp_le (T := T) (N := N) (i := (q9aimI T N P J a).2)
    unfold q9aimF
    split
    · split
      · rename_i hb
        have h4 := q9byI_lt (T := T) (N := N) (i := q9spI T N (q9aimI T N P J a).2) (by omega)
        have h5 := q9aimF_G k (q9spI T N (q9aimI T N P J a).2 + 1)
        omega
      · show a ≤ q9spI T N _ ∧ q9spI T N _ ≤ _
        omega
    · exact h1
theorem q9tk35_G : q9tkG N (q9tk35 T N P J) := fun a => q9aimF_G _ a
theorem q9tkI_G {u : Nat} {b : Int} (hb : u = 20 → 0 ≤ b) : q9tkG N (q9tkI T N P J u b) := by
  have nil : ∀ t ∈ ([] : List (Int → q9TK2)), q9tkG N t := fun _ h => absurd h List.not_mem_nil
  have cons : ∀ {t : Int → q9TK2} {ts : List (Int → q9TK2)}, q9tkG N t → (∀ t ∈ ts, q9tkG N t) → ∀ t' ∈ t :: ts, q9tkG N t' := fun h1 h2 => List.forall_mem_cons.mpr ⟨h1, h2⟩
  intro a
  unfold q9tkI
  split
  all_goals first
    | exact q9tkN_G a
    | exact q9tkW_G a
    | exact q9tk12_G a
    | exact q9tk13_G a
    | exact q9tk14_G a
    | exact q9tk35_G a
    | exact q9aim_G a
    | exact q9tkS_G (hb rfl) a
    | exact q9tkR_G _ (cons q9tkN_G (cons q9tkW_G nil)) a
    | exact q9tkR_G _ (cons q9tkN_G (cons q9tk12_G (cons q9tkW_G (cons q9tkN_G nil)))) a
    | exact q9tkR_G _ (cons q9tkW_G (cons q9tkN_G (cons q9tkW_G (cons q9tkN_G (cons q9tk13_G nil))))) a
    | exact q9tkR_G _ (cons q9tk35_G (cons q9tkW_G (cons q9tkN_G (cons q9tk13_G nil)))) a
    | exact q9tkR_G _ (cons q9tkN_G (cons (q9tkS_G (by decide)) nil)) a
    | (show a ≤ a ∧ a ≤ _; omega)
/-- a kind's word isn't empty -/
theorem q9kb_we {i : Int} (h : 0 ≤ q9kbI T N i) : i < q9weI T N i := by
  have key : ∀ t : Nat, t < 8 → q9wsI T N t i = 1 → i < q9weI T N i := fun t ht hw => by
    unfold q9wsI q9wiI at hw
    split at hw
    · rename_i hc
      have := (q9TXW_ok t (by omega)).1
      omega
    · omega
  unfold q9kbI at h
  split at h
  · exact key 0 (by omega) (by assumption)
  · split at h
    · exact key 1 (by omega) (by assumption)
    · split at h
      · exact key 2 (by omega) (by assumption)
      · split at h
        · exact key 3 (by omega) (by assumption)
        · split at h
          · exact key 4 (by omega) (by assumption)
          · split at h
            · exact key 5 (by omega) (by assumption)
            · split at h
              · exact key 6 (by omega) (by assumption)
              · split at h
                · exact key 7 (by omega) (by assumption)
                · omega
theorem q9kb_7 {i : Int} : q9kbI T N i ≤ 7 := by
  unfold q9kbI
  repeat' split
  all_goals omega
theorem q9rc_G {c : q9CF9} : q9weI T N (q9spI T N c.1) ≤ (q9rcI T N P J c).2 ∧ (q9rcI T N P J c).2 ≤ max (q9weI T N (q9spI T N c.1)) N := by
  unfold q9rcI q9rsI
  refine q9tkI_G (fun h => ?_) _
  exfalso
  unfold q9rsU at h
  repeat' split at h
  all_goals omega
theorem q9lk_kb {c : q9CF9} (h1 : 0 ≤ q9lkI T N c) (h2 : q9lkI T N c ≤ 7) : q9lkI T N c = q9kbI T N (q9spI T N c.1) := by
  unfold q9lkI at h1 h2 ⊢
  split
  · rename_i h
    rw [if_pos h] at h2
    omega
  · rename_i h
    rw [if_neg h] at h2
    split
    · rename_i h3
      rw [if_pos h3] at h2
      omega
    · rfl
/-- a turn's place, the next one's -/
theorem q9nx_pos {c c' : q9CF9} (h : q9th_nxI T N P J c = some c') : c.1 < c'.1 ∧ (0 ≤ c.1 → c.1 ≤ N → c'.1 ≤ N) := by
  have s1 := q9sp_ge (T := T) (N := N) (i := c.1)
  have s2 := q9sp_le (T := T) (N := N) (i := c.1)
  unfold q9th_nxI at h
  split at h
  · cases h
  · rename_i q st hst
    split at h
    · split at h
      · cases h
      · rename_i q' st'
        split at h
        · rename_i hb
          cases h
          have s3 := q9sp_ge (T := T) (N := N) (i := q9spI T N c.1 + 1)
          have s4 := q9byI_lt (T := T) (N := N) (i := q9spI T N (q9spI T N c.1 + 1)) (by omega)
          dsimp only
          omega
        · cases h
    · split at h
      · rename_i hn hok
        obtain ⟨k1, k2, k3, k4, k5⟩ := hok
        have e := q9lk_kb k1 k2
        rw [e] at k1
        have s3 := q9kb_we k1
        have s4 := q9we_le (T := T) (N := N) (i := q9spI T N c.1)
        obtain ⟨s5, s6⟩ := q9rc_G (T := T) (N := N) (P := P) (J := J) (c := c)
        split at h
        · cases h
          dsimp only
          omega
        · split at h
          · rename_i hb
            cases h
            have s7 := q9sp_ge (T := T) (N := N) (i := (q9rcI T N P J c).2)
            have s8 := q9byI_lt (T := T) (N := N) (i := q9spI T N (q9rcI T N P J c).2) (by omega)
            dsimp only
            omega
          · cases h
      · cases h
theorem q9tr_succ {n : Nat} {c : q9CF9} (h : q9trI T N P J (n + 1) = some c) : ∃ c0, q9trI T N P J n = some c0 ∧ q9th_nxI T N P J c0 = some c := by
  unfold q9trI at h
  cases h0 : q9trI T N P J n with
  | none => rw [h0] at h; cases h
  | some c0 => rw [h0] at h; exact ⟨c0, rfl, h⟩
theorem q9tr_lt : ∀ {n m : Nat} {c c' : q9CF9}, n < m → q9trI T N P J n = some c → q9trI T N P J m = some c' → c.1 < c'.1
  | n, 0, c, c', h, _, _ => by omega
  | n, m + 1, c, c', h, h1, h2 => by
    obtain ⟨c0, g1, g2⟩ := q9tr_succ h2
    have h3 := (q9nx_pos g2).1
    by_cases hnm : n = m
    · subst hnm
      rw [h1] at g1
      cases g1
      exact h3
    · exact Int.lt_trans (q9tr_lt (by omega) h1 g1) h3
theorem q9vis_pos {c c' : q9CF9} (h : q9visI T N P J c) (h' : q9visI T N P J c') (e : c.1 = c'.1) : c = c' := by
  obtain ⟨n, hn⟩ := h
  obtain ⟨m, hm⟩ := h'
  rcases Nat.lt_trichotomy n m with h1 | h1 | h1
  · have := q9tr_lt h1 hn hm
    omega
  · subst h1
    rw [hn] at hm
    exact Option.some.inj hm
  · have := q9tr_lt h1 hm hn
    omega
theorem q9vis_next {c c' : q9CF9} (h : q9visI T N P J c) (hn : q9th_nxI T N P J c = some c') : q9visI T N P J c' := by
  obtain ⟨n, hn'⟩ := h
  refine ⟨n + 1, ?_⟩
  unfold q9trI
  rw [hn']
  exact hn
theorem q9vis_start : q9visI T N P J (0, 0, [(-1, 0, 0, 0)]) := ⟨0, rfl⟩
/-- what holds of all turns -/
theorem q9vis_ind {p : q9CF9 → Prop} (h0 : p (0, 0, [(-1, 0, 0, 0)])) (hs : ∀ c c', q9visI T N P J c → p c → q9th_nxI T N P J c = some c' → p c') : ∀ {c}, q9visI T N P J c → p c := by
  intro c ⟨n, hn⟩
  induction n generalizing c with
  | zero =>
    cases hn
    exact h0
  | succ n ih =>
    obtain ⟨c0, g1, g2⟩ := q9tr_succ hn
    exact hs c0 c ⟨n, g1⟩ (ih g1) g2
/-- the last turn: there is but q9one -/
theorem q9vis_last {c c' : q9CF9} (h : q9visI T N P J c) (h' : q9visI T N P J c') (e : q9th_nxI T N P J c = none) (e' : q9th_nxI T N P J c' = none) : c = c' := by
  obtain ⟨n, hn⟩ := h
  obtain ⟨m, hm⟩ := h'
  have key : ∀ {n m : Nat} {c c' : q9CF9}, n < m → q9trI T N P J n = some c → q9th_nxI T N P J c = none → q9trI T N P J m = some c' → False := by
    intro n m c c' hlt h1 h2 h3
    have : ∀ k : Nat, q9trI T N P J (n + k + 1) = none := by
      intro k
      induction k with
      | zero =>
        show (q9trI T N P J n).bind _ = none
        rw [h1]
        exact h2
      | succ k ih =>
        show (q9trI T N P J (n + k + 1)).bind _ = none
        rw [ih]
        rfl
    have h4 := this (m - n - 1)
    rw [show n + (m - n - 1) + 1 = m by omega, h3] at h4
    cases h4
  rcases Nat.lt_trichotomy n m with h1 | h1 | h1
  · exact (key h1 hn e hm).elim
  · subst h1
    rw [hn] at hm
    exact Option.some.inj hm
  · exact (key h1 hm e' hn).elim
end TOK
/-! the operations by the model -/
noncomputable def chV {α : Type} (p : α → Prop) : Option α := @dite _ (∃ v, p v) (Classical.propDecidable _) (fun h => some (Classical.choose h)) (fun _ => none)
theorem q9chV_of {α : Type} {p : α → Prop} {v : α} (h : chV p = some v) : p v := by
  unfold chV at h
  split at h
  · rename_i hh
    rw [← Option.some.inj h]
    exact Classical.choose_spec hh
  · cases h
theorem q9chV_to {α : Type} {p : α → Prop} {v : α} (hu : ∀ v', p v' → v' = v) (h : p v) : chV p = some v := by
  unfold chV
  have hh : ∃ v, p v := ⟨v, h⟩
  rw [dif_pos hh, hu _ (Classical.choose_spec hh)]
noncomputable def q9enI (c : q9CF9) (j : Int) : Option q9TE9 := if 0 ≤ j ∧ j < c.2.2.length then c.2.2[c.2.2.length - 1 - j.toNat]? else none
section OPS
variable (T : Int → Int) (N P : Int) (J : Int → Int) (t0 : Int) (Sc : Int → Int)
noncomputable def q9atI (a : Int) (p : q9CF9 → Prop) : Prop := ∃ c, q9visI T N P J c ∧ c.1 = a ∧ p c
/-- a line that is read as far as its sign, a repeat's end: what stands behind it -/
noncomputable def q9prI (c : q9CF9) (p : Int) : Prop := q9visI T N P J c ∧ ((q9okL T N P J c ∧ q9lkI T N c ≠ 7 ∧ p = (q9rcI T N P J c).2) ∨ (q9lkI T N c = 8 ∧ p = q9spI T N c.1 + 1))
noncomputable def q9enE (i v : Int) : Prop := (∃ c, q9visI T N P J c ∧ q9okL T N P J c ∧ c.2.1 = i ∧ q9lkI T N c ≠ 7 ∧ v = i + 1) ∨ ∃ c q st, q9visI T N P J c ∧ q9lkI T N c = 8 ∧ c.2.2 = q :: st ∧ q.1 = i ∧ v = c.2.1
/-- frames and lines done of a stretch of lines, from its beginning on -/
noncomputable def q9hsI : Nat → Int → Int → Int64 → Int64 → Prop
  | 0, _, _, _, _ => False
  | n + 1, b, e, f, d => (b = e ∧ f = 0 ∧ d = 0) ∨ ∃ c m f1 d1 f2 d2, q9visI T N P J c ∧ q9okL T N P J c ∧ c.2.1 = b ∧ q9enE T N P J b m ∧ b < m ∧ m ≤ e ∧ q9hsI n m e f2 d2 ∧ f = f1 + f2 ∧ d = d1 + d2 ∧
      ((q9lkI T N c ≤ 1 ∧ f1 = Int64.ofInt (q9amI T N P J (q9lkI T N c) (q9weI T N (q9spI T N c.1))) ∧ d1 = 1) ∨ (2 ≤ q9lkI T N c ∧ q9lkI T N c ≤ 6 ∧ f1 = 0 ∧ d1 = 1) ∨
       (q9lkI T N c = 7 ∧ ∃ f3 d3, q9hsI n (b + 1) m f3 d3 ∧ f1 = Int64.ofInt (q9amI T N P J 7 (q9weI T N (q9spI T N c.1))) * f3 ∧ d1 = 1 + Int64.ofInt (q9amI T N P J 7 (q9weI T N (q9spI T N c.1))) * d3))
noncomputable def q9laI (p : q9CF9 → Prop) : Prop := ∃ c, q9visI T N P J c ∧ q9th_nxI T N P J c = none ∧ p c
abbrev q9edI (c : q9CF9) : Prop := q9lkI T N c = 9 ∧ c.2.2.length = 1
/-- how it all ends: 0 told, else a fault -/
noncomputable def q9fnI (c : q9CF9) : Int × Int × Int := if q9edI T N c then (match q9enI c 0 with
    | some e => if 1 ≤ e.2.2.1.toInt ∧ e.2.2.1.toInt ≤ 400 ∧ e.2.2.2.toInt ≤ 2000 then (0, 0, e.2.2.1.toInt) else (4, N, 0)
    | none => (0, 0, 0)) else ((q9th_reI T N P J c).1, (q9th_reI T N P J c).2, 0)
noncomputable def finI : Int × Int × Int := @dite _ (∃ c, q9visI T N P J c ∧ q9th_nxI T N P J c = none) (Classical.propDecidable _) (fun h => q9fnI T N P J (Classical.choose h)) (fun _ => (0, 0, 0))
end OPS
/-! who is cast by a text, who speaks: bits -/
noncomputable def q9orI (u w : Int) : Int := (Int32.ofInt u ||| Int32.ofInt w).toInt
section CST
variable (T : Int → Int) (N P : Int) (J : Int → Int)
/-- the bit of who stands at a place -/
noncomputable def q9agw (a : Int) : Option Int := if 0 ≤ q9nvI T N (q9spI T N a) 0 ∧ q9nvI T N (q9spI T N a) 0 ≤ 7 then some (Int32.ofInt 1 <<< (Int32.ofInt (q9nvI T N (q9spI T N a) 0) &&& 31)).toInt else none
/-- q9one aim on -/
noncomputable def q9agS (p p' : Int) : Prop := (q9aimI T N P J p).1 = 0 ∧ q9byI T N (q9spI T N (q9aimI T N P J p).2) = 44 ∧ p' = q9spI T N (q9aimI T N P J p).2 + 1
noncomputable def q9agK : Nat → Int → Int → Int → Prop
  | 0, a, p, v => p = a ∧ v = 0
  | k + 1, a, p, v => ∃ p0 v0 w, q9agK k a p0 v0 ∧ q9agS T N P J p0 p ∧ q9agw T N p0 = some w ∧ v = q9orI v0 w
/-- of the aims from a place on those ahead of q9one; all -/
noncomputable def q9agE (a p v : Int) : Prop := ∃ k, q9agK T N P J k a p v
noncomputable def q9agA (a v : Int) : Prop := ∃ p v0 w, q9agE T N P J a p v0 ∧ (q9aimI T N P J p).1 = 0 ∧ q9byI T N (q9spI T N (q9aimI T N P J p).2) ≠ 44 ∧ q9agw T N p = some w ∧ v = q9orI v0 w
/-- a line's bits; of who speaks -/
noncomputable def q9bgC (c : q9CF9) : Prop := q9visI T N P J c ∧ q9lkI T N c ≠ 8 ∧ (c.2.2.length < 2 → q9lkI T N c ≠ 9)
noncomputable def q9lbC (c : q9CF9) (v : Int) : Prop := (q9kbI T N (q9spI T N c.1) = 1 ∧ q9agA T N P J (q9weI T N (q9spI T N c.1)) v) ∨ (2 ≤ q9kbI T N (q9spI T N c.1) ∧ q9kbI T N (q9spI T N c.1) ≤ 5 ∧ q9agw T N (q9weI T N (q9spI T N c.1)) = some v) ∨ ((q9kbI T N (q9spI T N c.1) = 0 ∨ 6 ≤ q9kbI T N (q9spI T N c.1)) ∧ v = 0)
noncomputable def q9lsC (c : q9CF9) (v : Int) : Prop := (q9kbI T N (q9spI T N c.1) = 2 ∧ q9agw T N (q9weI T N (q9spI T N c.1)) = some v) ∨ (q9kbI T N (q9spI T N c.1) ≠ 2 ∧ v = 0)
noncomputable def q9lbE (z v : Int) : Prop := ∃ c, q9bgC T N P J c ∧ c.2.1 = z ∧ q9lbC T N P J c v
noncomputable def q9lsE (z v : Int) : Prop := ∃ c, q9bgC T N P J c ∧ c.2.1 = z ∧ q9lsC T N c v
/-- of the first lines -/
noncomputable def clF : Nat → Option Int
  | 0 => some 0
  | k + 1 => (clF k).bind fun u => (chV fun v => q9lbE T N P J (k : Int) v).map (q9orI u)
noncomputable def csF : Nat → Option Int
  | 0 => some 0
  | k + 1 => (csF k).bind fun u => (chV fun v => q9lsE T N P J (k : Int) v).map (q9orI u)
end CST
section OPS
variable (T : Int → Int) (N P : Int) (J : Int → Int) (t0 : Int) (Sc : Int → Int)
/-- operations whose result is an int -/
noncomputable def FF (op : Nat) (a b : Int) : Option Int :=
  if op = 1000 then some (q9byI T N a)
  else if op = 1002 then some (q9spI T N a)
  else if op = 1003 then some (q9weI T N a)
  else if op = 1004 then some (q9deI T N a)
  else if op = 1005 then some (q9nvI T N a b)
  else if op = 1007 then some (if 48 ≤ q9byI T N a ∧ q9byI T N a ≤ 57 then 1 else 0)
  else if op = 1008 then some (q9wcI T N a)
  else if op = 1009 then some (if q9byI T N a = b then 1 else 0)
  else if op = 1011 then some (q9vrI T N a (Int32.ofInt b)).toInt
  else if op = 1012 then some (q9koI a)
  else if op = 1013 then some (q9kbI T N a)
  else if op = 1015 then some P
  else if op = 1016 then some (J a)
  else if op = 1018 then some N
  else if op = 1020 then chV fun v => q9atI T N P J a fun _ => v = 1
  else if op = 1021 then chV fun v => q9atI T N P J a fun c => v + 1 = c.2.2.length
  else if op = 1022 then chV fun v => q9atI T N P J a fun c => v = c.2.1
  else if op = 1023 then chV fun v => q9atI T N P J a fun c => 1 ≤ b ∧ ∃ e, q9enI c b = some e ∧ v = e.1
  else if op = 1026 then chV fun v => ∃ c c', q9visI T N P J c ∧ q9th_nxI T N P J c = some c' ∧ c'.1 = a ∧ v = c.1
  else if op = 1027 then chV fun v => q9atI T N P J a fun c => q9lkI T N c ≠ 8 ∧ (c.2.2.length < 2 → q9lkI T N c ≠ 9) ∧ v = 1
  else if op = 1030 then chV fun v => ∃ c, q9prI T N P J c a ∧ v = 1
  else if op = 1031 then chV fun v => ∃ c, q9prI T N P J c a ∧ v + (if q9lkI T N c = 8 then 2 else 1) = c.2.2.length
  else if op = 1032 then chV fun v => ∃ c, q9prI T N P J c a ∧ v = c.2.1 + (if q9lkI T N c = 8 then 0 else 1)
  else if op = 1033 then chV fun v => ∃ c, q9prI T N P J c a ∧ 1 ≤ b ∧ b + (if q9lkI T N c = 8 then 1 else 0) < c.2.2.length ∧ ∃ e, q9enI c b = some e ∧ v = e.1
  else if op = 1034 then chV fun v => ∃ c, q9prI T N P J c a ∧ ∃ q st, c.2.2 = q :: st ∧ v = if q9lkI T N c = 8 then q.2.1 else c.1
  else if op = 1035 then chV fun v => ∃ c c', q9prI T N P J c v ∧ q9th_nxI T N P J c = some c' ∧ c'.1 = a
  else if op = 1036 then chV fun v => ∃ c, q9prI T N P J c a ∧ q9lkI T N c = 8 ∧ v = c.1
  else if op = 1037 then chV fun v => q9atI T N P J a fun c => 1 ≤ b ∧ ∃ e, q9enI c b = some e ∧ v = e.2.1
  else if op = 1038 then chV fun v => ∃ c, q9prI T N P J c a ∧ 1 ≤ b ∧ b + (if q9lkI T N c = 8 then 1 else 0) < c.2.2.length ∧ ∃ e, q9enI c b = some e ∧ v = e.2.1
  else if op = 1040 then chV fun v => q9laI T N P J fun c => v = (q9th_reI T N P J c).1
  else if op = 1041 then chV fun v => q9laI T N P J fun c => (q9th_reI T N P J c).1 ≠ 0 ∧ v = (q9th_reI T N P J c).2
  else if op = 1042 then chV fun v => q9laI T N P J fun c => q9edI T N c ∧ v = c.2.1
  else if op = 1045 then some (finI T N P J).1
  else if op = 1046 then some (finI T N P J).2.1
  else if op = 1047 then some (finI T N P J).2.2
  else if op = 1050 then chV fun v => ∃ c, q9visI T N P J c ∧ q9okL T N P J c ∧ c.2.1 = a ∧ v = q9lkI T N c
  else if op = 1051 then chV fun v => ∃ c, q9visI T N P J c ∧ q9okL T N P J c ∧ c.2.1 = a ∧ v = q9amI T N P J (q9lkI T N c) (q9weI T N (q9spI T N c.1))
  else if op = 1052 then chV fun v => q9enE T N P J a v
  else if op = 1056 then some 0
  else if op = 1058 then some (T a)
  else if op = 1059 then (if 0 ≤ t0 ∧ t0 ≤ 380 ∧ t0 ≤ a ∧ a ≤ t0 + 16 ∧ (a - t0) % 4 = 0 then some (Sc ((a - t0) / 4 + 1)) else none)
  else if op = 1063 then some (Sc a)
  else if op = 1064 then some t0
  else if op = 1480 then q9agw T N a
  else if op = 1481 then chV fun v => q9agA T N P J a v
  else if op = 1482 then chV fun v => q9lbE T N P J a v
  else if op = 1483 then clF T N P J a.toNat
  else if op = 1484 then chV fun v => q9laI T N P J fun c => q9edI T N c ∧ clF T N P J c.2.1.toNat = some v
  else if op = 1485 then chV fun v => q9lsE T N P J a v
  else if op = 1486 then csF T N P J a.toNat
  else if op = 1487 then chV fun v => q9laI T N P J fun c => q9edI T N c ∧ csF T N P J c.2.1.toNat = some v
  else if op = 1488 then chV fun v => q9agE T N P J a b v
  else if 1100 ≤ op ∧ op < 1119 then some (q9wsI T N (op - 1100) a)
  else if 1200 ≤ op ∧ op < 1280 then some (if op % 2 = 0 then (q9tkI T N P J ((op - 1200) / 2) b a).1 else (q9tkI T N P J ((op - 1200) / 2) b a).2)
  else if 1300 ≤ op ∧ op < 1308 then some (q9amI T N P J ((op - 1300 : Nat) : Int) a)
  else none
/-- .. is a long -/
noncomputable def FL (op : Nat) (a b : Int) : Option Int64 :=
  if op = 1024 then chV fun v => q9atI T N P J a fun c => ∃ e, q9enI c b = some e ∧ v = e.2.2.1
  else if op = 1025 then chV fun v => q9atI T N P J a fun c => ∃ e, q9enI c b = some e ∧ v = e.2.2.2
  else if op = 1028 then chV fun v => q9atI T N P J a fun c => ∃ q st, c.2.2 = q :: st ∧ v = q.2.2.2 + 1
  else if op = 1029 then chV fun v => q9atI T N P J a fun c => q9lkI T N c ≤ 1 ∧ ∃ q st, c.2.2 = q :: st ∧ v = q.2.2.1 + Int64.ofInt (q9amI T N P J (q9lkI T N c) (q9weI T N (q9spI T N c.1)))
  else if op = 1043 then chV fun v => q9laI T N P J fun c => q9edI T N c ∧ ∃ e, q9enI c 0 = some e ∧ v = e.2.2.1
  else if op = 1044 then chV fun v => q9laI T N P J fun c => q9edI T N c ∧ ∃ e, q9enI c 0 = some e ∧ v = e.2.2.2
  else if op = 1053 then chV fun v => ∃ n d, q9hsI T N P J n a b v d
  else if op = 1054 then chV fun v => ∃ n f, q9hsI T N P J n a b f v
  else if op = 1057 then chV fun v => ∃ n f d, q9hsI T N P J n a b f d ∧ v = d + 1
  else none
noncomputable def q9loB (op : Nat) : Bool := [1024, 1025, 1028, 1029, 1043, 1044, 1053, 1054, 1057].elem op
noncomputable def fO (op : Nat) (a b : Value) : Option Value := match a, b with
  | .int x, .int y => if q9loB op = true then (FL T N P J op x.toInt y.toInt).map Value.long else (FF T N P J t0 Sc op x.toInt y.toInt).bind q9th_mkI
  | _, _ => none
end OPS
section FFS
variable {T : Int → Int} {N P : Int} {J : Int → Int} {t0 : Int} {Sc : Int → Int}
theorem q9FF_1000 {a b : Int} : FF T N P J t0 Sc 1000 a b = (some (q9byI T N a)) := rfl
theorem q9FF_1002 {a b : Int} : FF T N P J t0 Sc 1002 a b = (some (q9spI T N a)) := rfl
theorem q9FF_1003 {a b : Int} : FF T N P J t0 Sc 1003 a b = (some (q9weI T N a)) := rfl
theorem q9FF_1004 {a b : Int} : FF T N P J t0 Sc 1004 a b = (some (q9deI T N a)) := rfl
theorem q9FF_1005 {a b : Int} : FF T N P J t0 Sc 1005 a b = (some (q9nvI T N a b)) := rfl
theorem q9FF_1007 {a b : Int} : FF T N P J t0 Sc 1007 a b = (some (if 48 ≤ q9byI T N a ∧ q9byI T N a ≤ 57 then 1 else 0)) := rfl
theorem q9FF_1008 {a b : Int} : FF T N P J t0 Sc 1008 a b = (some (q9wcI T N a)) := rfl
theorem q9FF_1009 {a b : Int} : FF T N P J t0 Sc 1009 a b = (some (if q9byI T N a = b then 1 else 0)) := rfl
theorem q9FF_1011 {a b : Int} : FF T N P J t0 Sc 1011 a b = (some (q9vrI T N a (Int32.ofInt b)).toInt) := rfl
theorem q9FF_1012 {a b : Int} : FF T N P J t0 Sc 1012 a b = (some (q9koI a)) := rfl
theorem q9FF_1013 {a b : Int} : FF T N P J t0 Sc 1013 a b = (some (q9kbI T N a)) := rfl
theorem q9FF_1015 {a b : Int} : FF T N P J t0 Sc 1015 a b = (some P) := rfl
theorem q9FF_1016 {a b : Int} : FF T N P J t0 Sc 1016 a b = (some (J a)) := rfl
theorem q9FF_1018 {a b : Int} : FF T N P J t0 Sc 1018 a b = (some N) := rfl
theorem q9FF_1020 {a b : Int} : FF T N P J t0 Sc 1020 a b = (chV fun (v : Int) => q9atI T N P J a fun _ => v = 1) := rfl
theorem q9FF_1021 {a b : Int} : FF T N P J t0 Sc 1021 a b = (chV fun (v : Int) => q9atI T N P J a fun c => v + 1 = c.2.2.length) := rfl
theorem q9FF_1022 {a b : Int} : FF T N P J t0 Sc 1022 a b = (chV fun (v : Int) => q9atI T N P J a fun c => v = c.2.1) := rfl
theorem q9FF_1023 {a b : Int} : FF T N P J t0 Sc 1023 a b = (chV fun (v : Int) => q9atI T N P J a fun c => 1 ≤ b ∧ ∃ e, q9enI c b = some e ∧ v = e.1) := rfl
theorem q9FF_1026 {a b : Int} : FF T N P J t0 Sc 1026 a b = (chV fun (v : Int) => ∃ c c', q9visI T N P J c ∧ q9th_nxI T N P J c = some c' ∧ c'.1 = a ∧ v = c.1) := rfl
theorem q9FF_1027 {a b : Int} : FF T N P J t0 Sc 1027 a b = (chV fun (v : Int) => q9atI T N P J a fun c => q9lkI T N c ≠ 8 ∧ (c.2.2.length < 2 → q9lkI T N c ≠ 9) ∧ v = 1) := rfl
theorem q9FF_1030 {a b : Int} : FF T N P J t0 Sc 1030 a b = (chV fun (v : Int) => ∃ c, q9prI T N P J c a ∧ v = 1) := rfl
theorem q9FF_1031 {a b : Int} : FF T N P J t0 Sc 1031 a b = (chV fun (v : Int) => ∃ c, q9prI T N P J c a ∧ v + (if q9lkI T N c = 8 then 2 else 1) = c.2.2.length) := rfl
theorem q9FF_1032 {a b : Int} : FF T N P J t0 Sc 1032 a b = (chV fun (v : Int) => ∃ c, q9prI T N P J c a ∧ v = c.2.1 + (if q9lkI T N c = 8 then 0 else 1)) := rfl
theorem q9FF_1033 {a b : Int} : FF T N P J t0 Sc 1033 a b = (chV fun (v : Int) => ∃ c, q9prI T N P J c a ∧ 1 ≤ b ∧ b + (if q9lkI T N c = 8 then 1 else 0) < c.2.2.length ∧ ∃ e, q9enI c b = some e ∧ v = e.1) := rfl
theorem q9FF_1034 {a b : Int} : FF T N P J t0 Sc 1034 a b = (chV fun (v : Int) => ∃ c, q9prI T N P J c a ∧ ∃ q st, c.2.2 = q :: st ∧ v = if q9lkI T N c = 8 then q.2.1 else c.1) := rfl
theorem q9FF_1035 {a b : Int} : FF T N P J t0 Sc 1035 a b = (chV fun (v : Int) => ∃ c c', q9prI T N P J c v ∧ q9th_nxI T N P J c = some c' ∧ c'.1 = a) := rfl
theorem q9FF_1036 {a b : Int} : FF T N P J t0 Sc 1036 a b = (chV fun (v : Int) => ∃ c, q9prI T N P J c a ∧ q9lkI T N c = 8 ∧ v = c.1) := rfl
theorem q9FF_1037 {a b : Int} : FF T N P J t0 Sc 1037 a b = (chV fun (v : Int) => q9atI T N P J a fun c => 1 ≤ b ∧ ∃ e, q9enI c b = some e ∧ v = e.2.1) := rfl
theorem q9FF_1038 {a b : Int} : FF T N P J t0 Sc 1038 a b = (chV fun (v : Int) => ∃ c, q9prI T N P J c a ∧ 1 ≤ b ∧ b + (if q9lkI T N c = 8 then 1 else 0) < c.2.2.length ∧ ∃ e, q9enI c b = some e ∧ v = e.2.1) := rfl
theorem q9FF_1040 {a b : Int} : FF T N P J t0 Sc 1040 a b = (chV fun (v : Int) => q9laI T N P J fun c => v = (q9th_reI T N P J c).1) := rfl
theorem q9FF_1041 {a b : Int} : FF T N P J t0 Sc 1041 a b = (chV fun (v : Int) => q9laI T N P J fun c => (q9th_reI T N P J c).1 ≠ 0 ∧ v = (q9th_reI T N P J c).2) := rfl
theorem q9FF_1042 {a b : Int} : FF T N P J t0 Sc 1042 a b = (chV fun (v : Int) => q9laI T N P J fun c => q9edI T N c ∧ v = c.2.1) := rfl
theorem q9FF_1045 {a b : Int} : FF T N P J t0 Sc 1045 a b = (some (finI T N P J).1) := rfl
theorem q9FF_1046 {a b : Int} : FF T N P J t0 Sc 1046 a b = (some (finI T N P J).2.1) := rfl
theorem q9FF_1047 {a b : Int} : FF T N P J t0 Sc 1047 a b = (some (finI T N P J).2.2) := rfl
theorem q9FF_1050 {a b : Int} : FF T N P J t0 Sc 1050 a b = (chV fun (v : Int) => ∃ c, q9visI T N P J c ∧ q9okL T N P J c ∧ c.2.1 = a ∧ v = q9lkI T N c) := rfl
theorem q9FF_1051 {a b : Int} : FF T N P J t0 Sc 1051 a b = (chV fun (v : Int) => ∃ c, q9visI T N P J c ∧ q9okL T N P J c ∧ c.2.1 = a ∧ v = q9amI T N P J (q9lkI T N c) (q9weI T N (q9spI T N c.1))) := rfl
theorem q9FF_1052 {a b : Int} : FF T N P J t0 Sc 1052 a b = (chV fun (v : Int) => q9enE T N P J a v) := rfl
theorem q9FF_1056 {a b : Int} : FF T N P J t0 Sc 1056 a b = (some 0) := rfl
theorem q9FF_1058 {a b : Int} : FF T N P J t0 Sc 1058 a b = (some (T a)) := rfl
theorem q9FF_1059 {a b : Int} : FF T N P J t0 Sc 1059 a b = ((if 0 ≤ t0 ∧ t0 ≤ 380 ∧ t0 ≤ a ∧ a ≤ t0 + 16 ∧ (a - t0) % 4 = 0 then some (Sc ((a - t0) / 4 + 1)) else none)) := rfl
theorem q9FF_1063 {a b : Int} : FF T N P J t0 Sc 1063 a b = (some (Sc a)) := rfl
theorem q9FF_1064 {a b : Int} : FF T N P J t0 Sc 1064 a b = (some t0) := rfl
theorem q9FL_1024 {a b : Int} : FL T N P J 1024 a b = (chV fun (v : Int64) => q9atI T N P J a fun c => ∃ e, q9enI c b = some e ∧ v = e.2.2.1) := rfl
theorem q9FL_1025 {a b : Int} : FL T N P J 1025 a b = (chV fun (v : Int64) => q9atI T N P J a fun c => ∃ e, q9enI c b = some e ∧ v = e.2.2.2) := rfl
theorem q9FL_1028 {a b : Int} : FL T N P J 1028 a b = (chV fun (v : Int64) => q9atI T N P J a fun c => ∃ q st, c.2.2 = q :: st ∧ v = q.2.2.2 + 1) := rfl
theorem q9FL_1029 {a b : Int} : FL T N P J 1029 a b = (chV fun (v : Int64) => q9atI T N P J a fun c => q9lkI T N c ≤ 1 ∧ ∃ q st, c.2.2 = q :: st ∧ v = q.2.2.1 + Int64.ofInt (q9amI T N P J (q9lkI T N c) (q9weI T N (q9spI T N c.1)))) := rfl
theorem q9FL_1043 {a b : Int} : FL T N P J 1043 a b = (chV fun (v : Int64) => q9laI T N P J fun c => q9edI T N c ∧ ∃ e, q9enI c 0 = some e ∧ v = e.2.2.1) := rfl
theorem q9FL_1044 {a b : Int} : FL T N P J 1044 a b = (chV fun (v : Int64) => q9laI T N P J fun c => q9edI T N c ∧ ∃ e, q9enI c 0 = some e ∧ v = e.2.2.2) := rfl
theorem q9FL_1053 {a b : Int} : FL T N P J 1053 a b = (chV fun (v : Int64) => ∃ n d, q9hsI T N P J n a b v d) := rfl
theorem q9FL_1054 {a b : Int} : FL T N P J 1054 a b = (chV fun (v : Int64) => ∃ n f, q9hsI T N P J n a b f v) := rfl
theorem q9FL_1057 {a b : Int} : FL T N P J 1057 a b = (chV fun (v : Int64) => ∃ n f d, q9hsI T N P J n a b f d ∧ v = d + 1) := rfl
theorem q9FF_1480 {a b : Int} : FF T N P J t0 Sc 1480 a b = (q9agw T N a) := rfl
theorem q9FF_1481 {a b : Int} : FF T N P J t0 Sc 1481 a b = (chV fun (v : Int) => q9agA T N P J a v) := rfl
theorem q9FF_1482 {a b : Int} : FF T N P J t0 Sc 1482 a b = (chV fun (v : Int) => q9lbE T N P J a v) := rfl
theorem q9FF_1483 {a b : Int} : FF T N P J t0 Sc 1483 a b = (clF T N P J a.toNat) := rfl
theorem q9FF_1484 {a b : Int} : FF T N P J t0 Sc 1484 a b = (chV fun (v : Int) => q9laI T N P J fun c => q9edI T N c ∧ clF T N P J c.2.1.toNat = some v) := rfl
theorem q9FF_1485 {a b : Int} : FF T N P J t0 Sc 1485 a b = (chV fun (v : Int) => q9lsE T N P J a v) := rfl
theorem q9FF_1486 {a b : Int} : FF T N P J t0 Sc 1486 a b = (csF T N P J a.toNat) := rfl
theorem q9FF_1487 {a b : Int} : FF T N P J t0 Sc 1487 a b = (chV fun (v : Int) => q9laI T N P J fun c => q9edI T N c ∧ csF T N P J c.2.1.toNat = some v) := rfl
theorem q9FF_1488 {a b : Int} : FF T N P J t0 Sc 1488 a b = (chV fun (v : Int) => q9agE T N P J a b v) := rfl
theorem q9FF_1100 {a b : Int} : FF T N P J t0 Sc 1100 a b = some (q9wsI T N 0 a) := rfl
theorem q9FF_1101 {a b : Int} : FF T N P J t0 Sc 1101 a b = some (q9wsI T N 1 a) := rfl
theorem q9FF_1102 {a b : Int} : FF T N P J t0 Sc 1102 a b = some (q9wsI T N 2 a) := rfl
theorem q9FF_1103 {a b : Int} : FF T N P J t0 Sc 1103 a b = some (q9wsI T N 3 a) := rfl
theorem q9FF_1104 {a b : Int} : FF T N P J t0 Sc 1104 a b = some (q9wsI T N 4 a) := rfl
theorem q9FF_1105 {a b : Int} : FF T N P J t0 Sc 1105 a b = some (q9wsI T N 5 a) := rfl
theorem q9FF_1106 {a b : Int} : FF T N P J t0 Sc 1106 a b = some (q9wsI T N 6 a) := rfl
theorem q9FF_1107 {a b : Int} : FF T N P J t0 Sc 1107 a b = some (q9wsI T N 7 a) := rfl
theorem q9FF_1108 {a b : Int} : FF T N P J t0 Sc 1108 a b = some (q9wsI T N 8 a) := rfl
theorem q9FF_1109 {a b : Int} : FF T N P J t0 Sc 1109 a b = some (q9wsI T N 9 a) := rfl
theorem q9FF_1110 {a b : Int} : FF T N P J t0 Sc 1110 a b = some (q9wsI T N 10 a) := rfl
theorem q9FF_1111 {a b : Int} : FF T N P J t0 Sc 1111 a b = some (q9wsI T N 11 a) := rfl
theorem q9FF_1112 {a b : Int} : FF T N P J t0 Sc 1112 a b = some (q9wsI T N 12 a) := rfl
theorem q9FF_1113 {a b : Int} : FF T N P J t0 Sc 1113 a b = some (q9wsI T N 13 a) := rfl
theorem q9FF_1114 {a b : Int} : FF T N P J t0 Sc 1114 a b = some (q9wsI T N 14 a) := rfl
theorem q9FF_1115 {a b : Int} : FF T N P J t0 Sc 1115 a b = some (q9wsI T N 15 a) := rfl
theorem q9FF_1116 {a b : Int} : FF T N P J t0 Sc 1116 a b = some (q9wsI T N 16 a) := rfl
theorem q9FF_1117 {a b : Int} : FF T N P J t0 Sc 1117 a b = some (q9wsI T N 17 a) := rfl
theorem q9FF_1118 {a b : Int} : FF T N P J t0 Sc 1118 a b = some (q9wsI T N 18 a) := rfl
theorem q9FF_1200 {a b : Int} : FF T N P J t0 Sc 1200 a b = some (q9tkI T N P J 0 b a).1 := rfl
theorem q9FF_1201 {a b : Int} : FF T N P J t0 Sc 1201 a b = some (q9tkI T N P J 0 b a).2 := rfl
theorem q9FF_1202 {a b : Int} : FF T N P J t0 Sc 1202 a b = some (q9tkI T N P J 1 b a).1 := rfl
theorem q9FF_1203 {a b : Int} : FF T N P J t0 Sc 1203 a b = some (q9tkI T N P J 1 b a).2 := rfl
theorem q9FF_1204 {a b : Int} : FF T N P J t0 Sc 1204 a b = some (q9tkI T N P J 2 b a).1 := rfl
theorem q9FF_1205 {a b : Int} : FF T N P J t0 Sc 1205 a b = some (q9tkI T N P J 2 b a).2 := rfl
theorem q9FF_1206 {a b : Int} : FF T N P J t0 Sc 1206 a b = some (q9tkI T N P J 3 b a).1 := rfl
theorem q9FF_1207 {a b : Int} : FF T N P J t0 Sc 1207 a b = some (q9tkI T N P J 3 b a).2 := rfl
theorem q9FF_1208 {a b : Int} : FF T N P J t0 Sc 1208 a b = some (q9tkI T N P J 4 b a).1 := rfl
theorem q9FF_1209 {a b : Int} : FF T N P J t0 Sc 1209 a b = some (q9tkI T N P J 4 b a).2 := rfl
theorem q9FF_1210 {a b : Int} : FF T N P J t0 Sc 1210 a b = some (q9tkI T N P J 5 b a).1 := rfl
theorem q9FF_1211 {a b : Int} : FF T N P J t0 Sc 1211 a b = some (q9tkI T N P J 5 b a).2 := rfl
theorem q9FF_1212 {a b : Int} : FF T N P J t0 Sc 1212 a b = some (q9tkI T N P J 6 b a).1 := rfl
theorem q9FF_1213 {a b : Int} : FF T N P J t0 Sc 1213 a b = some (q9tkI T N P J 6 b a).2 := rfl
theorem q9FF_1214 {a b : Int} : FF T N P J t0 Sc 1214 a b = some (q9tkI T N P J 7 b a).1 := rfl
theorem q9FF_1215 {a b : Int} : FF T N P J t0 Sc 1215 a b = some (q9tkI T N P J 7 b a).2 := rfl
theorem q9FF_1216 {a b : Int} : FF T N P J t0 Sc 1216 a b = some (q9tkI T N P J 8 b a).1 := rfl
theorem q9FF_1217 {a b : Int} : FF T N P J t0 Sc 1217 a b = some (q9tkI T N P J 8 b a).2 := rfl
theorem q9FF_1218 {a b : Int} : FF T N P J t0 Sc 1218 a b = some (q9tkI T N P J 9 b a).1 := rfl
theorem q9FF_1219 {a b : Int} : FF T N P J t0 Sc 1219 a b = some (q9tkI T N P J 9 b a).2 := rfl
theorem q9FF_1220 {a b : Int} : FF T N P J t0 Sc 1220 a b = some (q9tkI T N P J 10 b a).1 := rfl
theorem q9FF_1221 {a b : Int} : FF T N P J t0 Sc 1221 a b = some (q9tkI T N P J 10 b a).2 := rfl
theorem q9FF_1222 {a b : Int} : FF T N P J t0 Sc 1222 a b = some (q9tkI T N P J 11 b a).1 := rfl
theorem q9FF_1223 {a b : Int} : FF T N P J t0 Sc 1223 a b = some (q9tkI T N P J 11 b a).2 := rfl
theorem q9FF_1224 {a b : Int} : FF T N P J t0 Sc 1224 a b = some (q9tkI T N P J 12 b a).1 := rfl
theorem q9FF_1225 {a b : Int} : FF T N P J t0 Sc 1225 a b = some (q9tkI T N P J 12 b a).2 := rfl
theorem q9FF_1226 {a b : Int} : FF T N P J t0 Sc 1226 a b = some (q9tkI T N P J 13 b a).1 := rfl
theorem q9FF_1227 {a b : Int} : FF T N P J t0 Sc 1227 a b = some (q9tkI T N P J 13 b a).2 := rfl
theorem q9FF_1228 {a b : Int} : FF T N P J t0 Sc 1228 a b = some (q9tkI T N P J 14 b a).1 := rfl
theorem q9FF_1229 {a b : Int} : FF T N P J t0 Sc 1229 a b = some (q9tkI T N P J 14 b a).2 := rfl
theorem q9FF_1240 {a b : Int} : FF T N P J t0 Sc 1240 a b = some (q9tkI T N P J 20 b a).1 := rfl
theorem q9FF_1241 {a b : Int} : FF T N P J t0 Sc 1241 a b = some (q9tkI T N P J 20 b a).2 := rfl
theorem q9FF_1260 {a b : Int} : FF T N P J t0 Sc 1260 a b = some (q9tkI T N P J 30 b a).1 := rfl
theorem q9FF_1261 {a b : Int} : FF T N P J t0 Sc 1261 a b = some (q9tkI T N P J 30 b a).2 := rfl
theorem q9FF_1262 {a b : Int} : FF T N P J t0 Sc 1262 a b = some (q9tkI T N P J 31 b a).1 := rfl
theorem q9FF_1263 {a b : Int} : FF T N P J t0 Sc 1263 a b = some (q9tkI T N P J 31 b a).2 := rfl
theorem q9FF_1264 {a b : Int} : FF T N P J t0 Sc 1264 a b = some (q9tkI T N P J 32 b a).1 := rfl
theorem q9FF_1265 {a b : Int} : FF T N P J t0 Sc 1265 a b = some (q9tkI T N P J 32 b a).2 := rfl
theorem q9FF_1266 {a b : Int} : FF T N P J t0 Sc 1266 a b = some (q9tkI T N P J 33 b a).1 := rfl
theorem q9FF_1267 {a b : Int} : FF T N P J t0 Sc 1267 a b = some (q9tkI T N P J 33 b a).2 := rfl
theorem q9FF_1268 {a b : Int} : FF T N P J t0 Sc 1268 a b = some (q9tkI T N P J 34 b a).1 := rfl
theorem q9FF_1269 {a b : Int} : FF T N P J t0 Sc 1269 a b = some (q9tkI T N P J 34 b a).2 := rfl
theorem q9FF_1270 {a b : Int} : FF T N P J t0 Sc 1270 a b = some (q9tkI T N P J 35 b a).1 := rfl
theorem q9FF_1271 {a b : Int} : FF T N P J t0 Sc 1271 a b = some (q9tkI T N P J 35 b a).2 := rfl
theorem q9FF_1272 {a b : Int} : FF T N P J t0 Sc 1272 a b = some (q9tkI T N P J 36 b a).1 := rfl
theorem q9FF_1273 {a b : Int} : FF T N P J t0 Sc 1273 a b = some (q9tkI T N P J 36 b a).2 := rfl
theorem q9FF_1300 {a b : Int} : FF T N P J t0 Sc 1300 a b = some (q9amI T N P J 0 a) := rfl
theorem q9FF_1301 {a b : Int} : FF T N P J t0 Sc 1301 a b = some (q9amI T N P J 1 a) := rfl
theorem q9FF_1306 {a b : Int} : FF T N P J t0 Sc 1306 a b = some (q9amI T N P J 6 a) := rfl
theorem q9FF_1307 {a b : Int} : FF T N P J t0 Sc 1307 a b = some (q9amI T N P J 7 a) := rfl
end FFS
/-! from values to ints -/
theorem q9exo_hi {f : Nat → Value → Value → Option Value} {o : Nat} (h : 1000 ≤ o) {a b : Value} : q9exo f o a b = f o a b := by
  unfold q9exo
  split
  all_goals first
    | omega
    | rw [if_pos h]
section VAL
variable {T : Int → Int} {N P : Int} {J : Int → Int} {t0 : Int} {Sc : Int → Int} {w : Nat → Value}
theorem q9evZ (h : w 0 = .int 0) : q9ev w (0, 0) = .int 0 := by
  rw [q9ev_zero]
  exact h
theorem q9evC (h : w 0 = .int 0) (d : Int) : q9ev w (0, d) = .int (Int32.ofInt d) := by
  unfold q9ev
  dsimp only
  rw [h]
  show Value.int (0 + Int32.ofInt d) = _
  rw [Int32.zero_add]
theorem q9evS {k : Nat} {v : Value} (h : w k = v) : q9ev w (k, 0) = v := by
  rw [q9ev_zero]
  exact h
theorem q9evO {k : Nat} {x : Int32} (h : w k = .int x) (d : Int) : q9ev w (k, d) = .int (x + Int32.ofInt d) := by
  unfold q9ev
  dsimp only
  rw [h]
theorem q9th_pX {op : Nat} {a b c : q9AV} {x y z : Int32} (ha : q9ev w a = .int x) (hb : q9ev w b = .int y) (hc : q9ev w c = .int z) (h : q9exo (fO T N P J t0 Sc) op (q9ev w a) (q9ev w b) = some (q9ev w c)) (ho : 1000 ≤ op ∧ q9loB op = false) : FF T N P J t0 Sc op x.toInt y.toInt = some z.toInt := by
  rw [q9exo_hi ho.1, ha, hb, hc] at h
  unfold fO at h
  dsimp only at h
  rw [if_neg (by rw [ho.2]; exact Bool.false_ne_true)] at h
  cases hF : FF T N P J t0 Sc op x.toInt y.toInt with
  | none => rw [hF] at h; cases h
  | some v =>
    rw [hF] at h
    have h : q9th_mkI v = some (.int z) := h
    rw [q9mkI_of h]
theorem q9pL {op : Nat} {a b c : q9AV} {x y : Int32} {z : Int64} (ha : q9ev w a = .int x) (hb : q9ev w b = .int y) (hc : q9ev w c = .long z) (h : q9exo (fO T N P J t0 Sc) op (q9ev w a) (q9ev w b) = some (q9ev w c)) (ho : 1000 ≤ op ∧ q9loB op = true) : FL T N P J op x.toInt y.toInt = some z := by
  rw [q9exo_hi ho.1, ha, hb, hc] at h
  unfold fO at h
  dsimp only at h
  rw [if_pos ho.2] at h
  cases hF : FL T N P J op x.toInt y.toInt with
  | none => rw [hF] at h; cases h
  | some v =>
    rw [hF] at h
    cases h
    rfl
theorem q9pB {op : Nat} {a b c : q9AV} {x y z : Value} (ha : q9ev w a = x) (hb : q9ev w b = y) (hc : q9ev w c = z) (h : q9exo (fO T N P J t0 Sc) op (q9ev w a) (q9ev w b) = some (q9ev w c)) : q9exo (fO T N P J t0 Sc) op x y = some z := by
  rw [ha, hb, hc] at h
  exact h
theorem q9pV {op : Nat} {a b : q9AV} {x y : Int32} {n : Int} (ha : q9ev w a = .int x) (hb : q9ev w b = .int y) (h : q9exo (fO T N P J t0 Sc) op (q9ev w a) (q9ev w b) = some (.int (Int32.ofInt n))) (ho : 1000 ≤ op ∧ q9loB op = false ∧ -2147483648 ≤ n ∧ n ≤ 2147483647) : FF T N P J t0 Sc op x.toInt y.toInt = some n := by
  rw [q9exo_hi ho.1, ha, hb] at h
  unfold fO at h
  dsimp only at h
  rw [if_neg (by rw [ho.2.1]; exact Bool.false_ne_true)] at h
  cases hF : FF T N P J t0 Sc op x.toInt y.toInt with
  | none => rw [hF] at h; cases h
  | some v =>
    rw [hF] at h
    have h : q9th_mkI v = some (.int (Int32.ofInt n)) := h
    rw [q9mkI_of h, q9oI_toInt ho.2.2]
theorem q9pC {a b : q9AV} {x y : Int32} {d : Int} (ha : q9ev w a = .int x) (hb : q9ev w b = .int y) (h : q9nw (q9ev w a) ≤ q9nw (q9ev w b) + d) : x.toInt ≤ y.toInt + d := by
  rw [ha, hb] at h
  exact h
theorem q9th_tX {op : Nat} {a b c : q9AV} {x y z : Int32} (ha : q9ev w a = .int x) (hb : q9ev w b = .int y) (hc : q9ev w c = .int z) (h : FF T N P J t0 Sc op x.toInt y.toInt = some z.toInt) (ho : 1000 ≤ op ∧ q9loB op = false) : q9exo (fO T N P J t0 Sc) op (q9ev w a) (q9ev w b) = some (q9ev w c) := by
  rw [q9exo_hi ho.1, ha, hb, hc]
  unfold fO
  dsimp only
  rw [if_neg (by rw [ho.2]; exact Bool.false_ne_true), h]
  exact q9mkI_to rfl
theorem q9th_tL {op : Nat} {a b c : q9AV} {x y : Int32} {z : Int64} (ha : q9ev w a = .int x) (hb : q9ev w b = .int y) (hc : q9ev w c = .long z) (h : FL T N P J op x.toInt y.toInt = some z) (ho : 1000 ≤ op ∧ q9loB op = true) : q9exo (fO T N P J t0 Sc) op (q9ev w a) (q9ev w b) = some (q9ev w c) := by
  rw [q9exo_hi ho.1, ha, hb, hc]
  unfold fO
  dsimp only
  rw [if_pos ho.2, h]
  rfl
theorem q9th_tC {a b : q9AV} {x y : Int32} {d : Int} (ha : q9ev w a = .int x) (hb : q9ev w b = .int y) (h : x.toInt ≤ y.toInt + d) : q9nw (q9ev w a) ≤ q9nw (q9ev w b) + d := by
  rw [ha, hb]
  exact h
theorem q9upN_of {n k : Nat} {vs : List Value} {v : Value} (hk : k < n) (h : w k = v) : q9upN w n vs k = v := by
  unfold q9upN
  rw [if_pos hk]
  exact h
theorem q9upN_at {n k : Nat} {vs : List Value} (hk : n ≤ k) : q9upN w n vs k = vs.getD (k - n) .null := by
  unfold q9upN
  rw [if_neg (by omega)]
end VAL
/-! what the rules want of the model -/
theorem q9ad32 {x : Int32} {d : Int} (h : -2147483648 ≤ x.toInt + d ∧ x.toInt + d ≤ 2147483647 ∧ -2147483648 ≤ d ∧ d ≤ 2147483647) : (x + Int32.ofInt d).toInt = x.toInt + d := by
  rw [Int32.toInt_add, q9oI_toInt (by omega), Int.bmod_eq_of_le (by omega) (by omega)]
theorem q9su32 {f : Nat → Value → Value → Option Value} {x y z : Int32} (h : q9exo f 1 (.int x) (.int y) = some (.int z)) (h1 : -2147483648 ≤ x.toInt - y.toInt ∧ x.toInt - y.toInt ≤ 2147483647) : z.toInt = x.toInt - y.toInt := by
  have h : some (Value.int (x - y)) = some (.int z) := h
  have h := Value.int.inj (Option.some.inj h)
  rw [← h, Int32.toInt_sub, Int.bmod_eq_of_le (by omega) (by omega)]
theorem q9su32t {f : Nat → Value → Value → Option Value} {x y z : Int32} (h : z.toInt = x.toInt - y.toInt) : q9exo f 1 (.int x) (.int y) = some (.int z) := by
  show some (Value.int (x - y)) = _
  have h1 := Int32.le_toInt z
  have h2 := Int32.toInt_lt z
  rw [show x - y = z from Int32.toInt_inj.mp (by rw [Int32.toInt_sub, h, Int.bmod_eq_of_le (by omega) (by omega)])]
theorem q9mu32 {f : Nat → Value → Value → Option Value} {x y z : Int32} (h : q9exo f 2 (.int x) (.int y) = some (.int z)) (h1 : -2147483648 ≤ x.toInt * y.toInt ∧ x.toInt * y.toInt ≤ 2147483647) : z.toInt = x.toInt * y.toInt := by
  have h : some (Value.int (x * y)) = some (.int z) := h
  have h := Value.int.inj (Option.some.inj h)
  rw [← h, Int32.toInt_mul, Int.bmod_eq_of_le (by omega) (by omega)]
theorem q9aa32 {f : Nat → Value → Value → Option Value} {x y z : Int32} (h : q9exo f 0 (.int x) (.int y) = some (.int z)) (h1 : -2147483648 ≤ x.toInt + y.toInt ∧ x.toInt + y.toInt ≤ 2147483647) : z.toInt = x.toInt + y.toInt := by
  have h : some (Value.int (x + y)) = some (.int z) := h
  have h := Value.int.inj (Option.some.inj h)
  rw [← h, Int32.toInt_add, Int.bmod_eq_of_le (by omega) (by omega)]
theorem q9mi32 {f : Nat → Value → Value → Option Value} {x y z : Int32} (h : q9exo f 61 (.int x) (.int y) = some (.int z)) : z.toInt = min x.toInt y.toInt := by
  have h : some (Value.int (if x.toInt ≤ y.toInt then x else y)) = some (.int z) := h
  have h := Value.int.inj (Option.some.inj h)
  rw [← h]
  split
  all_goals omega
theorem q9ma32 {f : Nat → Value → Value → Option Value} {x y z : Int32} (h : q9exo f 60 (.int x) (.int y) = some (.int z)) : z.toInt = max x.toInt y.toInt := by
  have h : some (Value.int (if x.toInt ≤ y.toInt then y else x)) = some (.int z) := h
  have h := Value.int.inj (Option.some.inj h)
  rw [← h]
  split
  all_goals omega
section SCN
variable {T : Int → Int} {N : Int} {i : Int}
theorem q9sp_yes (h : q9byI T N i = 32) : q9spI T N i = q9spI T N (i + 1) := q9scN_yes (q9byI_lt (T := T) (N := N) (i := i) (by omega)).2 (decide_eq_true h)
theorem q9sp_no (h : q9byI T N i ≠ 32) : q9spI T N i = i := q9scN_no (decide_eq_false h)
theorem q9we_yes (h : 97 ≤ q9byI T N i ∧ q9byI T N i ≤ 122) : q9weI T N i = q9weI T N (i + 1) := q9scN_yes (q9byI_lt (T := T) (N := N) (i := i) (by omega)).2 (decide_eq_true h)
theorem q9we_no (h : q9byI T N i ≤ 96 ∨ 123 ≤ q9byI T N i) : q9weI T N i = i := q9scN_no (decide_eq_false (by omega))
theorem q9de_yes (h : 48 ≤ q9byI T N i ∧ q9byI T N i ≤ 57) : q9deI T N i = q9deI T N (i + 1) := q9scN_yes (q9byI_lt (T := T) (N := N) (i := i) (by omega)).2 (decide_eq_true h)
theorem q9de_no (h : q9byI T N i ≤ 47 ∨ 58 ≤ q9byI T N i) : q9deI T N i = i := q9scN_no (decide_eq_false (by omega))
theorem q9sp_sp : q9spI T N (q9spI T N i) = q9spI T N i := q9sp_no fun h => by
  have hs : q9isBl T N (q9spI T N i) = false := q9scN_stop fun i hi => q9isBl_lt hi
  exact of_decide_eq_false hs h
theorem q9nv_cap {v : Int} (h : 0 ≤ v) : q9nvI T N i v = q9nvI T N i (min 1000000 v) := by
  unfold q9nvI
  rw [show min 1000000 (max 0 v) = min 1000000 (max 0 (min 1000000 v)) by omega]
theorem q9ws_len {t : Nat} (h : q9weI T N i - i ≠ (q9TXW.getD t []).length) : q9wsI T N t i = 0 := by
  unfold q9wsI q9wiI
  rw [if_neg fun hc => h hc.1]
theorem q9ws_ne {t : Nat} (j : Nat) (hj : j < (q9TXW.getD t []).length) (h : q9byI T N (i + j) ≠ (q9TXW.getD t []).getD j 0) : q9wsI T N t i = 0 := by
  unfold q9wsI q9wiI
  rw [if_neg fun hc => h (hc.2 j hj)]
theorem q9ws_yes {t : Nat} (h1 : q9weI T N i - i = (q9TXW.getD t []).length) (h2 : ∀ j : Nat, j < (q9TXW.getD t []).length → q9byI T N (i + j) = (q9TXW.getD t []).getD j 0) : q9wsI T N t i = 1 := by
  unfold q9wsI q9wiI
  rw [if_pos ⟨h1, h2⟩]
theorem q9ws_b0 {t : Nat} (ht : t < 19) (h : q9wsI T N t i = 1) : q9byI T N i = (q9TXW.getD t []).getD 0 0 := by
  have := (q9TXW_ok t ht).1
  unfold q9wsI q9wiI at h
  split at h
  · rename_i hc
    have h0 := hc.2 0 (by omega)
    rw [show i + ((0 : Nat) : Int) = i by omega] at h0
    exact h0
  · omega
end SCN
theorem q9byI_rng {T : Int → Int} {N i : Int} (hT : ∀ i, 0 ≤ T i ∧ T i ≤ 255) : -1 ≤ q9byI T N i ∧ q9byI T N i ≤ 255 := by
  unfold q9byI
  have := hT i
  split
  all_goals omega
theorem q9oI_of {x : Int32} : Int32.ofInt x.toInt = x := Int32.toInt_inj.mp (q9oI_toInt (by have := Int32.le_toInt x; have := Int32.toInt_lt x; omega))
theorem q9add_oI {x : Int32} {d : Int} (h : -2147483648 ≤ x.toInt + d ∧ x.toInt + d ≤ 2147483647 ∧ -2147483648 ≤ d ∧ d ≤ 2147483647) : x + Int32.ofInt d = Int32.ofInt (x.toInt + d) := Int32.toInt_inj.mp (by rw [q9ad32 h, q9oI_toInt ⟨h.1, h.2.1⟩])
theorem q9sub_11 {x y : Int32} : (x + Int32.ofInt 1) - (y + Int32.ofInt 1) = x - y := by
  apply Int32.toBitVec_inj.mp
  show (x.toBitVec + 1#32) - (y.toBitVec + 1#32) = x.toBitVec - y.toBitVec
  apply BitVec.eq_of_toNat_eq
  rw [BitVec.toNat_sub, BitVec.toNat_sub, BitVec.toNat_add, BitVec.toNat_add]
  have h1 := x.toBitVec.isLt
  have h2 := y.toBitVec.isLt
  have e : (1#32).toNat = 1 := rfl
  rw [e]
  omega
theorem q9tB {T : Int → Int} {N P : Int} {J : Int → Int} {t0 : Int} {Sc : Int → Int} {w : Nat → Value} {op : Nat} {a b c : q9AV} {x y z : Value} (ha : q9ev w a = x) (hb : q9ev w b = y) (hc : q9ev w c = z) (h : q9exo (fO T N P J t0 Sc) op x y = some z) : q9exo (fO T N P J t0 Sc) op (q9ev w a) (q9ev w b) = some (q9ev w c) := by
  rw [ha, hb, hc]
  exact h
section TKL
variable {T : Int → Int} {N P : Int} {J : Int → Int} {a p e v lo hi : Int}
theorem q9tkN_0 (h1 : q9spI T N a = p) (h2 : q9deI T N p = e) (h3 : q9nvI T N p 0 = v) (h4 : p < e) (h5 : lo ≤ v) (h6 : v ≤ hi) : q9tkN T N lo hi a = (0, e) := by
  unfold q9tkN
  rw [h1, h2, h3, if_neg (by omega), if_pos ⟨h5, h6⟩]
theorem q9tkN_1 (h1 : q9spI T N a = p) (h2 : q9deI T N p = e) (h4 : e ≤ p) : q9tkN T N lo hi a = (1, p) := by
  unfold q9tkN
  rw [h1, h2, if_pos h4]
theorem q9tkN_2 (h1 : q9spI T N a = p) (h2 : q9deI T N p = e) (h3 : q9nvI T N p 0 = v) (h4 : p < e) (h5 : v < lo ∨ hi < v) : q9tkN T N lo hi a = (2, p) := by
  unfold q9tkN
  rw [h1, h2, h3, if_neg (by omega), if_neg (by omega)]
theorem q9tkW_0 {ts : List Nat} {t : Nat} (ht : t ∈ ts) (h1 : q9spI T N a = p) (h2 : 1 ≤ q9wsI T N t p) (h3 : q9weI T N p = e) : q9tkW T N ts a = (0, e) := by
  have hw : q9wsI T N t p = 1 := by
    rcases q9ws_01 (T := T) (N := N) (t := t) (i := p) with h | h
    · exact h
    · omega
  unfold q9tkW
  rw [h1, h3, if_pos ⟨t, ht, hw⟩]
theorem q9tkW_1 {ts : List Nat} (h1 : q9spI T N a = p) (h2 : ∀ t ∈ ts, q9wsI T N t p ≤ 0) : q9tkW T N ts a = (1, p) := by
  unfold q9tkW
  rw [h1, if_neg fun ⟨t, ht, hw⟩ => by
    have := h2 t ht
    omega]
theorem q9tkS_0 {s : Int} (h1 : q9spI T N a = p) (h2 : q9byI T N p = s) : q9tkS T N s a = (0, p + 1) := by
  unfold q9tkS
  rw [h1, if_pos h2]
theorem q9tkS_1 {s : Int} (h1 : q9spI T N a = p) (h2 : q9byI T N p ≠ s) : q9tkS T N s a = (1, p) := by
  unfold q9tkS
  rw [h1, if_neg h2]
theorem q9tkR_c {t : Int → q9TK2} {ts : List (Int → q9TK2)} {q : Int} (h1 : (t a).1 = 0) (h2 : (t a).2 = q) : q9tkR (t :: ts) a = q9tkR ts q := by
  show (if (t a).1 = 0 then q9tkR ts (t a).2 else t a) = q9tkR ts q
  rw [if_pos h1, h2]
theorem q9tkR_f {t : Int → q9TK2} {ts : List (Int → q9TK2)} (h1 : 1 ≤ (t a).1) : q9tkR (t :: ts) a = t a := by
  unfold q9tkR
  rw [if_neg (by omega)]
theorem q9is_1 {s k : Int} (h : (if q9byI T N p = s then (1 : Int) else 0) = k) (hk : 1 ≤ k) : q9byI T N p = s := by
  split at h
  · assumption
  · omega
theorem q9is_0 {s k : Int} (h : (if q9byI T N p = s then (1 : Int) else 0) = k) (hk : k ≤ 0) : q9byI T N p ≠ s := by
  split at h
  · omega
  · assumption
end TKL
section AIM
variable {T : Int → Int} {N P : Int} {J : Int → Int}
theorem q9aimF_fuel : ∀ (k m : Nat) (a : Int), (N - a).toNat + 1 ≤ k → (N - a).toNat + 1 ≤ m → q9aimF T N P J k a = q9aimF T N P J m a
  | 0, _, a, h, _ => by omega
  | k + 1, 0, a, _, h => by omega
  | k + 1, m + 1, a, h1, h2 => by
    unfold q9aimF
    split
    · split
      · rename_i hb
        have h4 := q9byI_lt (T := T) (N := N) (i := q9spI T N (q9aimI T N P J a).2) (by omega)
        have h5 := (q9aim_G (T := T) (N := N) (P := P) (J := J) a).1
        have h6 := q9sp_ge (T := T) (N := N) (i := (q9aimI T N P J a).2)
        exact q9aimF_fuel k m _ (by omega) (by omega)
      · rfl
    · rfl
theorem q9tk35_1 {a p : Int} (h1 : (q9aimI T N P J a).1 = 0) (h2 : q9spI T N (q9aimI T N P J a).2 = p) (h3 : q9byI T N p = 44) : q9tk35 T N P J a = q9tk35 T N P J (p + 1) := by
  have h4 := q9byI_lt (T := T) (N := N) (i := p) (by omega)
  have h5 := (q9aim_G (T := T) (N := N) (P := P) (J := J) a).1
  have h6 := q9sp_ge (T := T) (N := N) (i := (q9aimI T N P J a).2)
  show q9aimF T N P J ((N - a).toNat + 1) a = q9aimF T N P J ((N - (p + 1)).toNat + 1) (p + 1)
  show (if (q9aimI T N P J a).1 = 0 then _ else _) = _
  rw [if_pos h1, h2, if_pos h3]
  exact q9aimF_fuel _ _ _ (by omega) (by omega)
theorem q9tk35_0 {a p : Int} (h1 : (q9aimI T N P J a).1 = 0) (h2 : q9spI T N (q9aimI T N P J a).2 = p) (h3 : q9byI T N p ≠ 44) : q9tk35 T N P J a = (0, p) := by
  show (if (q9aimI T N P J a).1 = 0 then _ else _) = _
  rw [if_pos h1, h2, if_neg h3]
theorem q9tk35_f {a : Int} (h1 : 1 ≤ (q9aimI T N P J a).1) : q9tk35 T N P J a = q9aimI T N P J a := by
  show (if (q9aimI T N P J a).1 = 0 then _ else _) = _
  rw [if_neg (by omega)]
/-- kinds of faults of what is read of a line -/
noncomputable def q9tkB (t : Int → q9TK2) : Prop := ∀ a, 0 ≤ (t a).1 ∧ (t a).1 ≤ 2
theorem q9tkN_B {lo hi : Int} : q9tkB (q9tkN T N lo hi) := fun a => by
  unfold q9tkN
  split
  · exact ⟨(by decide : (0 : Int) ≤ 1), (by decide : (1 : Int) ≤ 2)⟩
  · split
    · exact ⟨(by decide : (0 : Int) ≤ 0), (by decide : (0 : Int) ≤ 2)⟩
    · exact ⟨(by decide : (0 : Int) ≤ 2), (by decide : (2 : Int) ≤ 2)⟩
theorem q9tkW_B {ts : List Nat} : q9tkB (q9tkW T N ts) := fun a => by
  unfold q9tkW
  split
  · exact ⟨(by decide : (0 : Int) ≤ 0), (by decide : (0 : Int) ≤ 2)⟩
  · exact ⟨(by decide : (0 : Int) ≤ 1), (by decide : (1 : Int) ≤ 2)⟩
theorem q9tkS_B {s : Int} : q9tkB (q9tkS T N s) := fun a => by
  unfold q9tkS
  split
  · exact ⟨(by decide : (0 : Int) ≤ 0), (by decide : (0 : Int) ≤ 2)⟩
  · exact ⟨(by decide : (0 : Int) ≤ 1), (by decide : (1 : Int) ≤ 2)⟩
theorem q9tk12_B : q9tkB (q9tk12 T N) := fun a => by
  unfold q9tk12
  split
  · exact ⟨(by decide : (0 : Int) ≤ 0), (by decide : (0 : Int) ≤ 2)⟩
  · exact ⟨(by decide : (0 : Int) ≤ 1), (by decide : (1 : Int) ≤ 2)⟩
theorem q9tk13_B : q9tkB (q9tk13 T N) := fun a => by
  unfold q9tk13
  split
  · exact q9tkW_B a
  · exact ⟨(by decide : (0 : Int) ≤ 0), (by decide : (0 : Int) ≤ 2)⟩
theorem q9tk14_B : q9tkB (q9tk14 T N) := fun a => by
  unfold q9tk14
  split
  · exact ⟨(by decide : (0 : Int) ≤ 0), (by decide : (0 : Int) ≤ 2)⟩
  · exact ⟨(by decide : (0 : Int) ≤ 0), (by decide : (0 : Int) ≤ 2)⟩
theorem q9tkR_B : ∀ (ts : List (Int → q9TK2)), (∀ t ∈ ts, q9tkB t) → q9tkB (q9tkR ts)
  | [], _, a => ⟨(by decide : (0 : Int) ≤ 0), (by decide : (0 : Int) ≤ 2)⟩
  | t :: ts, h, a => by
    unfold q9tkR
    split
    · exact q9tkR_B ts (fun t ht => h t (List.mem_cons_of_mem _ ht)) _
    · exact h t List.mem_cons_self a
theorem q9aim_B : q9tkB (q9aimI T N P J) := fun a => q9tkR_B _ (by
  unfold q9aimL
  exact List.forall_mem_cons.mpr ⟨q9tkN_B, List.forall_mem_cons.mpr ⟨q9tkS_B, List.forall_mem_cons.mpr ⟨q9tkN_B, List.forall_mem_cons.mpr ⟨q9tk14_B, List.forall_mem_cons.mpr ⟨q9tkN_B, fun _ h => absurd h List.not_mem_nil⟩⟩⟩⟩⟩) a
theorem q9aimF_B : ∀ k : Nat, q9tkB (q9aimF T N P J k)
  | 0, a => ⟨(by decide : (0 : Int) ≤ 0), (by decide : (0 : Int) ≤ 2)⟩
  | k + 1, a => by
    unfold q9aimF
    split
    · split
      · exact q9aimF_B k _
      · exact ⟨(by decide : (0 : Int) ≤ 0), (by decide : (0 : Int) ≤ 2)⟩
    · exact q9aim_B a
theorem q9tk35_B : q9tkB (q9tk35 T N P J) := fun a => q9aimF_B _ a
theorem q9tkI_B {u : Nat} {b : Int} : q9tkB (q9tkI T N P J u b) := by
  have nil : ∀ t ∈ ([] : List (Int → q9TK2)), q9tkB t := fun _ h => absurd h List.not_mem_nil
  have cons : ∀ {t : Int → q9TK2} {ts : List (Int → q9TK2)}, q9tkB t → (∀ t ∈ ts, q9tkB t) → ∀ t' ∈ t :: ts, q9tkB t' := fun h1 h2 => List.forall_mem_cons.mpr ⟨h1, h2⟩
  intro a
  unfold q9tkI
  split
  all_goals first
    | exact q9tkN_B a
    | exact q9tkW_B a
    | exact q9tk12_B a
    | exact q9tk13_B a
    | exact q9tk14_B a
    | exact q9tk35_B a
    | exact q9aim_B a
    | exact q9tkS_B a
    | exact q9tkR_B _ (cons q9tkN_B (cons q9tkW_B nil)) a
    | exact q9tkR_B _ (cons q9tkN_B (cons q9tk12_B (cons q9tkW_B (cons q9tkN_B nil)))) a
    | exact q9tkR_B _ (cons q9tkW_B (cons q9tkN_B (cons q9tkW_B (cons q9tkN_B (cons q9tk13_B nil))))) a
    | exact q9tkR_B _ (cons q9tk35_B (cons q9tkW_B (cons q9tkN_B (cons q9tk13_B nil)))) a
    | exact q9tkR_B _ (cons q9tkN_B (cons q9tkS_B nil)) a
    | exact ⟨(by decide : (0 : Int) ≤ 0), (by decide : (0 : Int) ≤ 2)⟩
end AIM
theorem q9mu32t {f : Nat → Value → Value → Option Value} {x y z : Int32} (h : z.toInt = x.toInt * y.toInt) : q9exo f 2 (.int x) (.int y) = some (.int z) := by
  show some (Value.int (x * y)) = _
  have h1 := Int32.le_toInt z
  have h2 := Int32.toInt_lt z
  rw [show x * y = z from Int32.toInt_inj.mp (by rw [Int32.toInt_mul, h, Int.bmod_eq_of_le (by omega) (by omega)])]
theorem q9tkN_lt {T : Int → Int} {N lo hi a : Int} (h : (q9tkN T N lo hi a).1 = 0) : a + 1 ≤ (q9tkN T N lo hi a).2 := by
  have h1 := q9sp_ge (T := T) (N := N) (i := a)
  unfold q9tkN at h ⊢
  split at h
  · cases h
  · rename_i hc
    rw [if_neg hc]
    split at h
    · rename_i hc2
      rw [if_pos hc2]
      show a + 1 ≤ q9deI T N _
      omega
    · cases h
theorem q9tkS_lt {T : Int → Int} {N s a : Int} (h : (q9tkS T N s a).1 = 0) : a + 1 ≤ (q9tkS T N s a).2 := by
  have h1 := q9sp_ge (T := T) (N := N) (i := a)
  unfold q9tkS at h ⊢
  split at h
  · rename_i hc
    rw [if_pos hc]
    show a + 1 ≤ q9spI T N a + 1
    omega
  · cases h
theorem q9byI_in {T : Int → Int} {N i : Int} (hT : ∀ i, 0 ≤ T i ∧ T i ≤ 255) (h : 0 ≤ i ∧ i < N) : 0 ≤ q9byI T N i := by
  unfold q9byI
  rw [if_pos h]
  exact (hT i).1
theorem q9and_255 (x : Int32) : 0 ≤ (x &&& 255).toInt ∧ (x &&& 255).toInt ≤ 255 := by
  have hs : (x &&& 255).toBitVec.toNat ≤ 255 := by
    have e1 : (x &&& 255).toBitVec = x.toBitVec &&& 255#32 := rfl
    rw [e1, BitVec.toNat_and]
    exact Nat.and_le_right
  have e : (x &&& 255).toInt = (x &&& 255).toBitVec.toInt := rfl
  rw [e, BitVec.toInt_eq_toNat_cond, if_pos (by omega)]
  omega
/-! the turns: what the rules want of them -/
section q9TRN
variable {T : Int → Int} {N P : Int} {J : Int → Int}
theorem q9th_at_of {a : Int} {p : q9CF9 → Prop} {c : q9CF9} (hv : q9visI T N P J c) (hc : c.1 = a) (h : q9atI T N P J a p) : p c := by
  obtain ⟨c', h1, h2, h3⟩ := h
  rw [q9vis_pos hv h1 (by rw [hc, h2])]
  exact h3
theorem q9at_V {α : Type} {a : Int} {p : α → q9CF9 → Prop} {v : α} {c : q9CF9} (hv : q9visI T N P J c) (hc : c.1 = a) (hp : p v c) (hu : ∀ v', p v' c → v' = v) : chV (fun v => q9atI T N P J a (p v)) = some v :=
  q9chV_to (fun v' h => hu v' (q9th_at_of hv hc h)) ⟨c, hv, hc, hp⟩
theorem q9en_top {c : q9CF9} {q : q9TE9} {st : List q9TE9} (h : c.2.2 = q :: st) {d : Int} (hd : d + 1 = c.2.2.length) : q9enI c d = some q := by
  unfold q9enI
  have hl : c.2.2.length = st.length + 1 := by rw [h, List.length_cons]
  rw [if_pos (by omega), show c.2.2.length - 1 - d.toNat = 0 by omega, h]
  rfl
theorem q9en_low {c : q9CF9} {q : q9TE9} {st : List q9TE9} (h : c.2.2 = q :: st) {j : Int} (h0 : 0 ≤ j) (hj : j < st.length) : q9enI c j = st[st.length - 1 - j.toNat]? := by
  unfold q9enI
  have hl : c.2.2.length = st.length + 1 := by rw [h, List.length_cons]
  rw [if_pos (by omega), h, show (q :: st).length - 1 - j.toNat = (st.length - 1 - j.toNat) + 1 by rw [List.length_cons]; omega]
  rfl
theorem q9en_lt {c : q9CF9} {j : Int} {e : q9TE9} (h : q9enI c j = some e) : 0 ≤ j ∧ j < c.2.2.length := by
  unfold q9enI at h
  split at h
  · assumption
  · cases h
/-- the kind of what begins at a turn -/
theorem q9lk_of {c : q9CF9} (h8 : q9lkI T N c ≠ 8) (hk : 0 ≤ q9kbI T N (q9spI T N c.1)) : q9lkI T N c = q9kbI T N (q9spI T N c.1) := by
  have hw := q9kb_we hk
  have hb := q9we_let (T := T) (N := N) (i := q9spI T N c.1) 0 (by omega)
  rw [show q9spI T N c.1 + ((0 : Nat) : Int) = q9spI T N c.1 by omega] at hb
  unfold q9lkI at h8 ⊢
  split
  · rename_i h
    rw [if_pos h] at h8
    exact absurd rfl h8
  · rw [if_neg (by omega)]
theorem q9lk_neg {c : q9CF9} (h8 : q9lkI T N c ≠ 8) (hb : 0 ≤ q9byI T N (q9spI T N c.1)) : q9lkI T N c = q9kbI T N (q9spI T N c.1) := by
  unfold q9lkI at h8 ⊢
  split
  · rename_i h
    rw [if_pos h] at h8
    exact absurd rfl h8
  · rw [if_neg (by omega)]
theorem q9lk_8 {c : q9CF9} (h1 : 2 ≤ c.2.2.length) (h2 : q9byI T N (q9spI T N c.1) = 93) : q9lkI T N c = 8 := by
  unfold q9lkI
  rw [if_pos ⟨h1, h2⟩]
theorem q9lk_9 {c : q9CF9} (h2 : q9byI T N (q9spI T N c.1) < 0) : q9lkI T N c = 9 := by
  unfold q9lkI
  rw [if_neg (by omega), if_pos h2]
theorem q9kb_le8 {i : Int} : q9kbI T N i ≠ 8 ∧ q9kbI T N i ≠ 9 := by
  have := q9kb_7 (T := T) (N := N) (i := i)
  omega
/-- a whole line -/
theorem q9nx_line {c : q9CF9} {q : q9TE9} {st : List q9TE9} {r : q9TK2} (hst : c.2.2 = q :: st) (h1 : 0 ≤ q9lkI T N c) (h2 : q9lkI T N c ≤ 6) (hz : c.2.1 < 60) (hr : q9rcI T N P J c = r) (h0 : r.1 = 0) (hs : q9byI T N (q9spI T N r.2) = 59) :
    q9th_nxI T N P J c = some (q9spI T N r.2 + 1, c.2.1 + 1, (q.1, q.2.1, (if q9lkI T N c ≤ 1 then q.2.2.1 + Int64.ofInt (q9amI T N P J (q9lkI T N c) (q9weI T N (q9spI T N c.1))) else q.2.2.1), q.2.2.2 + 1) :: st) := by
  have hok : q9okL T N P J c := ⟨h1, by omega, hz, fun h => by omega, by rw [hr]; exact h0⟩
  unfold q9th_nxI
  split
  · rename_i h
    rw [h] at hst
    cases hst
  · rename_i q' st' h
    rw [h] at hst
    cases hst
    rw [if_neg (by omega), if_pos hok, if_neg (by omega), hr, if_pos hs]
/-- a repeat begins -/
theorem q9nx_open {c : q9CF9} {q : q9TE9} {st : List q9TE9} {r : q9TK2} (hst : c.2.2 = q :: st) (h1 : q9lkI T N c = 7) (hz : c.2.1 < 60) (hd : c.2.2.length < 5) (hr : q9rcI T N P J c = r) (h0 : r.1 = 0) :
    q9th_nxI T N P J c = some (r.2, c.2.1 + 1, (c.2.1, c.1, 0, 0) :: (q.1, q.2.1, q.2.2.1, q.2.2.2 + 1) :: st) := by
  have hok : q9okL T N P J c := ⟨by omega, by omega, hz, fun h => hd, by rw [hr]; exact h0⟩
  unfold q9th_nxI
  split
  · rename_i h
    rw [h] at hst
    cases hst
  · rename_i q' st' h
    rw [h] at hst
    cases hst
    rw [if_neg (by omega), if_pos hok, if_pos h1, hr]
/-- a repeat closes -/
theorem q9nx_close {c : q9CF9} {q q' : q9TE9} {st : List q9TE9} (hst : c.2.2 = q :: q' :: st) (h8 : q9lkI T N c = 8) (hs : q9byI T N (q9spI T N (q9spI T N c.1 + 1)) = 59) :
    q9th_nxI T N P J c = some (q9spI T N (q9spI T N c.1 + 1) + 1, c.2.1, (q'.1, q'.2.1, q'.2.2.1 + q9moI T N P J q.2.1 * q.2.2.1, q'.2.2.2 + q9moI T N P J q.2.1 * q.2.2.2) :: st) := by
  unfold q9th_nxI
  split
  · rename_i h
    rw [h] at hst
    cases hst
  · rename_i q9 st9 h
    rw [h] at hst
    cases hst
    rw [if_pos h8]
    dsimp only
    rw [if_pos hs]
theorem q9nx_no8 {c : q9CF9} (h8 : q9lkI T N c = 8) (hs : q9byI T N (q9spI T N (q9spI T N c.1 + 1)) ≠ 59) : q9th_nxI T N P J c = none := by
  unfold q9th_nxI
  split
  · rfl
  · rw [if_pos h8]
    split
    · rfl
    · rw [if_neg hs]
theorem q9nx_no {c : q9CF9} (h8 : q9lkI T N c ≠ 8) (h : ¬ q9okL T N P J c ∨ (q9lkI T N c ≠ 7 ∧ q9byI T N (q9spI T N (q9rcI T N P J c).2) ≠ 59)) : q9th_nxI T N P J c = none := by
  unfold q9th_nxI
  split
  · rfl
  · rw [if_neg h8]
    split
    · rename_i hok
      rcases h with h | ⟨h, h2⟩
      · exact absurd hok h
      · rw [if_neg h, if_neg h2]
    · rfl
theorem q9la_of {p : q9CF9 → Prop} {c : q9CF9} (hv : q9visI T N P J c) (hn : q9th_nxI T N P J c = none) (h : q9laI T N P J p) : p c := by
  obtain ⟨c', h1, h2, h3⟩ := h
  rw [q9vis_last hv h1 hn h2]
  exact h3
theorem q9la_V {α : Type} {p : α → q9CF9 → Prop} {v : α} {c : q9CF9} (hv : q9visI T N P J c) (hn : q9th_nxI T N P J c = none) (hp : p v c) (hu : ∀ v', p v' c → v' = v) : chV (fun v => q9laI T N P J (p v)) = some v :=
  q9chV_to (fun v' h => hu v' (q9la_of hv hn h)) ⟨c, hv, hn, hp⟩
/-- what stands behind a line tells which it is -/
theorem q9pr_gt {c : q9CF9} {p : Int} (h : q9prI T N P J c p) : c.1 < p := by
  have s1 := q9sp_ge (T := T) (N := N) (i := c.1)
  obtain ⟨-, ⟨⟨k1, k2, -, -, -⟩, h7, rfl⟩ | ⟨h8, rfl⟩⟩ := h
  · rw [q9lk_kb k1 k2] at k1
    have s3 := q9kb_we k1
    have s5 := (q9rc_G (T := T) (N := N) (P := P) (J := J) (c := c)).1
    omega
  · omega
theorem q9pr_nx {c c' : q9CF9} {p : Int} (h : q9prI T N P J c p) (hn : q9th_nxI T N P J c = some c') : p < c'.1 := by
  obtain ⟨-, ⟨hok, h7, rfl⟩ | ⟨h8, rfl⟩⟩ := h
  · have s1 := q9sp_ge (T := T) (N := N) (i := (q9rcI T N P J c).2)
    unfold q9th_nxI at hn
    split at hn
    · cases hn
    · rw [if_neg (by have := hok.2.1; omega), if_pos hok, if_neg h7] at hn
      split at hn
      · cases hn
        dsimp only
        omega
      · cases hn
  · have s1 := q9sp_ge (T := T) (N := N) (i := q9spI T N c.1 + 1)
    unfold q9th_nxI at hn
    split at hn
    · cases hn
    · rw [if_pos h8] at hn
      split at hn
      · cases hn
      · split at hn
        · cases hn
          dsimp only
          omega
        · cases hn
theorem q9tr_nx {n m : Nat} {c c' : q9CF9} (h : n < m) (h1 : q9trI T N P J n = some c) (h2 : q9trI T N P J m = some c') : ∃ c1, q9th_nxI T N P J c = some c1 ∧ c1.1 ≤ c'.1 := by
  have key : ∀ k : Nat, n + 1 + k = m → ∃ c1, q9th_nxI T N P J c = some c1 ∧ c1.1 ≤ c'.1 := by
    intro k hk
    cases h3 : q9trI T N P J (n + 1) with
    | none =>
      have : ∀ k : Nat, q9trI T N P J (n + 1 + k) = none := by
        intro k
        induction k with
        | zero => exact h3
        | succ k ih =>
          show (q9trI T N P J (n + 1 + k)).bind _ = none
          rw [ih]
          rfl
      rw [← hk, this k] at h2
      cases h2
    | some c1 =>
      have h4 : (q9trI T N P J n).bind (q9th_nxI T N P J) = some c1 := h3
      rw [h1] at h4
      refine ⟨c1, h4, ?_⟩
      by_cases hm : n + 1 = m
      · subst hm
        rw [h3] at h2
        cases h2
        exact Int.le_refl _
      · exact Int.le_of_lt (q9tr_lt (by omega) h3 h2)
  exact key (m - (n + 1)) (by omega)
theorem q9pr_one {c c' : q9CF9} {p : Int} (h : q9prI T N P J c p) (h' : q9prI T N P J c' p) : c = c' := by
  obtain ⟨n, hn⟩ := h.1
  obtain ⟨m, hm⟩ := h'.1
  rcases Nat.lt_trichotomy n m with h1 | h1 | h1
  · obtain ⟨c1, g1, g2⟩ := q9tr_nx h1 hn hm
    have := q9pr_nx h g1
    have := q9pr_gt h'
    omega
  · subst h1
    rw [hn] at hm
    exact Option.some.inj hm
  · obtain ⟨c1, g1, g2⟩ := q9tr_nx h1 hm hn
    have := q9pr_nx h' g1
    have := q9pr_gt h
    omega
theorem q9pr_V {α : Type} {a : Int} {p : α → q9CF9 → Prop} {v : α} {c : q9CF9} (hv : q9prI T N P J c a) (hp : p v c) (hu : ∀ v', p v' c → v' = v) : chV (fun v => ∃ c, q9prI T N P J c a ∧ p v c) = some v :=
  q9chV_to (fun v' ⟨c', h1, h2⟩ => hu v' (by rw [q9pr_one hv h1]; exact h2)) ⟨c, hv, hp⟩
/-- a line by its number -/
theorem q9sz_nx {c c' : q9CF9} (h : q9th_nxI T N P J c = some c') : c'.2.1 = c.2.1 + (if q9lkI T N c = 8 then 0 else 1) := by
  unfold q9th_nxI at h
  split at h
  · cases h
  · split at h
    · rename_i h8
      rw [if_pos h8]
      split at h
      · cases h
      · split at h
        · cases h
          dsimp only
          omega
        · cases h
    · rename_i h8
      rw [if_neg h8]
      split at h
      · split at h
        · cases h
          rfl
        · split at h
          · cases h
            rfl
          · cases h
      · cases h
theorem q9sz_mono : ∀ {n m : Nat} {c c' : q9CF9}, n ≤ m → q9trI T N P J n = some c → q9trI T N P J m = some c' → c.2.1 ≤ c'.2.1
  | n, 0, c, c', h, h1, h2 => by
    obtain rfl : n = 0 := by omega
    rw [h1] at h2
    cases h2
    exact Int.le_refl _
  | n, m + 1, c, c', h, h1, h2 => by
    by_cases hnm : n = m + 1
    · subst hnm
      rw [h1] at h2
      cases h2
      exact Int.le_refl _
    · obtain ⟨c0, g1, g2⟩ := q9tr_succ h2
      have h3 := q9sz_mono (by omega) h1 g1
      have h4 := q9sz_nx g2
      split at h4
      all_goals omega
theorem q9ln_one {c c' : q9CF9} (h : q9visI T N P J c) (h' : q9visI T N P J c') (hk : q9okL T N P J c) (hk' : q9okL T N P J c') (e : c.2.1 = c'.2.1) : c = c' := by
  have key : ∀ {n m : Nat} {c c' : q9CF9}, n < m → q9trI T N P J n = some c → q9okL T N P J c → q9trI T N P J m = some c' → c.2.1 < c'.2.1 := by
    intro n m c c' hlt h1 h2 h3
    cases h4 : q9trI T N P J (n + 1) with
    | none =>
      obtain ⟨c1, g1, -⟩ := q9tr_nx hlt h1 h3
      have h5 : (q9trI T N P J n).bind (q9th_nxI T N P J) = none := h4
      rw [h1] at h5
      have h5 : q9th_nxI T N P J c = none := h5
      rw [g1] at h5
      cases h5
    | some c1 =>
      have h5 : (q9trI T N P J n).bind (q9th_nxI T N P J) = some c1 := h4
      rw [h1] at h5
      have h6 := q9sz_nx h5
      rw [if_neg (by have := h2.2.1; omega)] at h6
      have h7 := q9sz_mono (by omega) h4 h3
      omega
  obtain ⟨n, hn⟩ := h
  obtain ⟨m, hm⟩ := h'
  rcases Nat.lt_trichotomy n m with h1 | h1 | h1
  · have := key h1 hn hk hm
    omega
  · subst h1
    rw [hn] at hm
    exact Option.some.inj hm
  · have := key h1 hm hk' hn
    omega
theorem q9ln_V {α : Type} {a : Int} {p : α → q9CF9 → Prop} {v : α} {c : q9CF9} (hv : q9visI T N P J c) (hk : q9okL T N P J c) (hc : c.2.1 = a) (hp : p v c) (hu : ∀ v', p v' c → v' = v) : chV (fun v => ∃ c, q9visI T N P J c ∧ q9okL T N P J c ∧ c.2.1 = a ∧ p v c) = some v :=
  q9chV_to (fun v' ⟨c', h1, h2, h3, h4⟩ => hu v' (by rw [q9ln_one hv h1 hk h2 (by rw [hc, h3])]; exact h4)) ⟨c, hv, hk, hc, hp⟩
/-- unclosed repeats: lines that are read, turns that were -/
noncomputable def q9th_stP (c : q9CF9) : List (Int × Int) := c.2.2.map (fun e => (e.1, e.2.1))
theorem q9stP_len {c : q9CF9} : (q9th_stP c).length = c.2.2.length := List.length_map _
noncomputable def q9opI (T : Int → Int) (N P : Int) (J : Int → Int) (L : List (Int × Int)) (z : Int) : Prop := ∀ (j : Nat) (o : Int × Int), L[j]? = some o → j + 1 < L.length → 0 ≤ o.1 ∧ o.1 < z ∧ (∃ c0, q9visI T N P J c0 ∧ q9okL T N P J c0 ∧ q9lkI T N c0 = 7 ∧ c0.2.1 = o.1 ∧ c0.1 = o.2) ∧ ∀ (j' : Nat) (o' : Int × Int), L[j']? = some o' → j < j' → j' + 1 < L.length → o'.1 < o.1
noncomputable def q9inv9 (T : Int → Int) (N P : Int) (J : Int → Int) (c : q9CF9) : Prop := 0 ≤ c.1 ∧ c.1 ≤ N ∧ 0 ≤ c.2.1 ∧ c.2.1 ≤ 60 ∧ 1 ≤ c.2.2.length ∧ c.2.2.length ≤ 5 ∧ q9opI T N P J (q9th_stP c) c.2.1
theorem q9opI.more {L : List (Int × Int)} {z z' : Int} (h : q9opI T N P J L z) (hz : z ≤ z') : q9opI T N P J L z' := fun j o h1 h2 => by
  obtain ⟨k1, k2, k3⟩ := h j o h1 h2
  exact ⟨k1, by omega, k3⟩
theorem q9opI.tail {L : List (Int × Int)} {o0 : Int × Int} {z : Int} (h : q9opI T N P J (o0 :: L) z) : q9opI T N P J L z := fun j o h1 h2 => by
  obtain ⟨k1, k2, k3, k4⟩ := h (j + 1) o h1 (by rw [List.length_cons]; omega)
  exact ⟨k1, k2, k3, fun j' o' g1 g2 g3 => k4 (j' + 1) o' g1 (by omega) (by rw [List.length_cons]; omega)⟩
theorem q9nx_stP {c c' : q9CF9} (h : q9th_nxI T N P J c = some c') : (∃ o L, q9lkI T N c = 8 ∧ q9th_stP c = o :: L ∧ q9th_stP c' = L ∧ 1 ≤ L.length ∧ c'.2.1 = c.2.1) ∨ (q9okL T N P J c ∧ q9lkI T N c = 7 ∧ q9th_stP c' = (c.2.1, c.1) :: q9th_stP c ∧ c'.2.1 = c.2.1 + 1) ∨ (q9okL T N P J c ∧ q9lkI T N c ≠ 7 ∧ q9th_stP c' = q9th_stP c ∧ c'.2.1 = c.2.1 + 1) := by
  unfold q9th_nxI at h
  split at h
  · cases h
  · rename_i q st hst
    split at h
    · rename_i h8
      split at h
      · cases h
      · rename_i q' st'
        split at h
        · cases h
          refine .inl ⟨(q.1, q.2.1), (q'.1, q'.2.1) :: st'.map (fun e => (e.1, e.2.1)), h8, ?_, rfl, by rw [List.length_cons]; omega, rfl⟩
          unfold q9th_stP
          rw [hst]
          rfl
        · cases h
    · split at h
      · rename_i hok
        split at h
        · rename_i h7
          cases h
          refine .inr (.inl ⟨hok, h7, ?_, rfl⟩)
          unfold q9th_stP
          rw [hst]
          rfl
        · rename_i h7
          split at h
          · cases h
            refine .inr (.inr ⟨hok, h7, ?_, rfl⟩)
            unfold q9th_stP
            rw [hst]
            rfl
          · cases h
      · cases h
theorem q9vis_inv (hN : 0 ≤ N) : ∀ {c : q9CF9}, q9visI T N P J c → q9inv9 T N P J c := by
  refine q9vis_ind (p := fun c => q9inv9 T N P J c) ⟨Int.le_refl _, hN, Int.le_refl _, by show (0 : Int) ≤ 60; decide, Nat.le_refl _, by show 1 ≤ 5; decide, fun j o h1 h2 => ?_⟩ fun c c' hv hi hn => ?_
  · have h2 : j + 1 < 1 := h2
    omega
  · obtain ⟨i1, i2, i3, i4, i5, i6, i7⟩ := hi
    have hp := q9nx_pos hn
    rcases q9nx_stP hn with ⟨o, L, h8, e1, e2, e3, e4⟩ | ⟨hok, h7, e1, e2⟩ | ⟨hok, h7, e1, e2⟩
    · have l1 := q9stP_len (c := c)
      have l2 := q9stP_len (c := c')
      rw [e1, List.length_cons] at l1
      rw [e2] at l2
      rw [e1] at i7
      refine ⟨by omega, hp.2 i1 i2, by omega, by omega, by omega, by omega, ?_⟩
      rw [e2, e4]
      exact i7.tail
    · have l1 := q9stP_len (c := c)
      have l2 := q9stP_len (c := c')
      rw [e1, List.length_cons] at l2
      obtain ⟨k1, k2, k3, k4, k5⟩ := hok
      have k4 := k4 h7
      refine ⟨by omega, hp.2 i1 i2, by omega, by omega, by omega, by omega, ?_⟩
      rw [e1, e2]
      intro j o h1 h2
      rw [List.length_cons] at h2
      cases j with
      | zero =>
        cases h1
        refine ⟨i3, by dsimp only; omega, ⟨c, hv, ⟨k1, k2, k3, fun _ => k4, k5⟩, h7, rfl, rfl⟩, fun j' o' g1 g2 g3 => ?_⟩
        cases j' with
        | zero => omega
        | succ j' =>
          rw [List.length_cons] at g3
          exact (i7 j' o' g1 (by omega)).2.1
      | succ j =>
        obtain ⟨m1, m2, m3, m4⟩ := i7 j o h1 (by omega)
        refine ⟨m1, by omega, m3, fun j' o' g1 g2 g3 => ?_⟩
        cases j' with
        | zero => omega
        | succ j' =>
          rw [List.length_cons] at g3
          exact m4 j' o' g1 (by omega) (by omega)
    · have l1 := q9stP_len (c := c)
      have l2 := q9stP_len (c := c')
      rw [e1] at l2
      refine ⟨by omega, hp.2 i1 i2, by omega, by have := hok.2.2.1; omega, by omega, by omega, ?_⟩
      rw [e1, e2]
      exact i7.more (by omega)
theorem q9top_of {c : q9CF9} {q : q9TE9} {st : List q9TE9} (h : c.2.2 = q :: st) : (q9th_stP c)[0]? = some (q.1, q.2.1) := by
  unfold q9th_stP
  rw [h]
  rfl
theorem q9lk8_len {c : q9CF9} (h : q9lkI T N c = 8) : 2 ≤ c.2.2.length := by
  unfold q9lkI at h
  split at h
  · rename_i hc
    exact hc.1
  · split at h
    · omega
    · exact absurd h q9kb_le8.1
theorem q9lk8_b {c : q9CF9} (h : q9lkI T N c = 8) : q9byI T N (q9spI T N c.1) = 93 := by
  unfold q9lkI at h
  split at h
  · rename_i hc
    exact hc.2
  · split at h
    · omega
    · exact absurd h q9kb_le8.1
theorem q9tr_noi {i : Int} : ∀ {n m : Nat} {c c' : q9CF9}, n ≤ m → q9trI T N P J n = some c → (∀ (j : Nat) (o : Int × Int), (q9th_stP c)[j]? = some o → j + 1 < (q9th_stP c).length → o.1 ≠ i) → i < c.2.1 → q9trI T N P J m = some c' → (∀ (j : Nat) (o : Int × Int), (q9th_stP c')[j]? = some o → j + 1 < (q9th_stP c').length → o.1 ≠ i) ∧ i < c'.2.1
  | n, 0, c, c', h, h1, h2, h3, h4 => by
    obtain rfl : n = 0 := by omega
    rw [h1] at h4
    cases h4
    exact ⟨h2, h3⟩
  | n, m + 1, c, c', h, h1, h2, h3, h4 => by
    by_cases hnm : n = m + 1
    · subst hnm
      rw [h1] at h4
      cases h4
      exact ⟨h2, h3⟩
    · obtain ⟨c0, g1, g2⟩ := q9tr_succ h4
      obtain ⟨k1, k2⟩ := q9tr_noi (by omega) h1 h2 h3 g1
      rcases q9nx_stP g2 with ⟨o, L, h8, e1, e2, e3, e4⟩ | ⟨hok, h7, e1, e2⟩ | ⟨hok, h7, e1, e2⟩
      · refine ⟨fun j o' j1 j2 => ?_, by omega⟩
        rw [e2] at j1 j2
        refine k1 (j + 1) o' (by rw [e1]; exact j1) ?_
        rw [e1, List.length_cons]
        omega
      · refine ⟨fun j o' j1 j2 => ?_, by omega⟩
        rw [e1] at j1 j2
        rw [List.length_cons] at j2
        cases j with
        | zero =>
          cases j1
          dsimp only
          omega
        | succ j => exact k1 j o' j1 (by omega)
      · rw [e1]
        exact ⟨k1, by omega⟩
theorem q9cl_one (hN : 0 ≤ N) {c c' : q9CF9} {q q' : q9TE9} {st st' : List q9TE9} (h : q9visI T N P J c) (h' : q9visI T N P J c') (h8 : q9lkI T N c = 8) (h8' : q9lkI T N c' = 8) (hs : c.2.2 = q :: st) (hs' : c'.2.2 = q' :: st') (e : q.1 = q'.1) : c = c' := by
  have key : ∀ {n m : Nat} {c c' : q9CF9} {q q' : q9TE9} {st st' : List q9TE9}, n < m → q9trI T N P J n = some c → q9trI T N P J m = some c' → q9lkI T N c = 8 → q9lkI T N c' = 8 → c.2.2 = q :: st → c'.2.2 = q' :: st' → q.1 = q'.1 → False := by
    intro n m c c' q q' st st' hlt h1 h2 h8 h8' hs hs' e
    have hi := q9vis_inv hN ⟨n, h1⟩
    have hi' := q9vis_inv hN ⟨m, h2⟩
    obtain ⟨-, -, -, -, -, -, i7⟩ := hi
    have l8 := q9lk8_len h8
    have l8' := q9lk8_len h8'
    obtain ⟨m1, m2, -, m4⟩ := i7 0 _ (q9top_of hs) (by rw [q9stP_len]; omega)
    cases h4 : q9trI T N P J (n + 1) with
    | none =>
      obtain ⟨c1, g1, -⟩ := q9tr_nx hlt h1 h2
      have h5 : (q9trI T N P J n).bind (q9th_nxI T N P J) = none := h4
      rw [h1] at h5
      have h5 : q9th_nxI T N P J c = none := h5
      rw [g1] at h5
      cases h5
    | some c1 =>
      have h5 : (q9trI T N P J n).bind (q9th_nxI T N P J) = some c1 := h4
      rw [h1] at h5
      have h5 : q9th_nxI T N P J c = some c1 := h5
      rcases q9nx_stP h5 with ⟨o, L, -, e1, e2, e3, e4⟩ | ⟨hok, h7, e1, e2⟩ | ⟨hok, h7, e1, e2⟩
      · have ho : o = (q.1, q.2.1) := by
          have := q9top_of hs
          rw [e1] at this
          exact Option.some.inj this
        have key2 := q9tr_noi (i := q.1) (by omega) h4 (fun j o' j1 j2 => by
          rw [e2] at j1 j2
          have := m4 (j + 1) o' (by rw [e1]; exact j1) (by omega) (by rw [e1, List.length_cons]; omega)
          dsimp only at this
          omega) (by dsimp only at m2; omega) h2
        exact key2.1 0 _ (q9top_of hs') (by rw [q9stP_len]; omega) e.symm
      · have := hok.2.1
        omega
      · have := hok.2.1
        omega
  obtain ⟨n, hn⟩ := h
  obtain ⟨m, hm⟩ := h'
  rcases Nat.lt_trichotomy n m with h1 | h1 | h1
  · exact (key h1 hn hm h8 h8' hs hs' e).elim
  · subst h1
    rw [hn] at hm
    exact Option.some.inj hm
  · exact (key h1 hm hn h8' h8 hs' hs e.symm).elim
theorem q9en_one (hN : 0 ≤ N) {i v v' : Int} (h : q9enE T N P J i v) (h' : q9enE T N P J i v') : v' = v := by
  have mix : ∀ {c c' : q9CF9} {q : q9TE9} {st : List q9TE9}, q9visI T N P J c → q9okL T N P J c → c.2.1 = i → q9lkI T N c ≠ 7 → q9visI T N P J c' → q9lkI T N c' = 8 → c'.2.2 = q :: st → q.1 = i → False := by
    intro c c' q st a1 a2 a3 a4 b1 b2 b3 b4
    obtain ⟨-, -, -, -, -, -, i7⟩ := q9vis_inv hN b1
    have l8 := q9lk8_len b2
    obtain ⟨-, -, ⟨c0, k1, k2, k3, k4, -⟩, -⟩ := i7 0 _ (q9top_of b3) (by rw [q9stP_len]; omega)
    have k4 : c0.2.1 = q.1 := k4
    have := q9ln_one a1 k1 a2 k2 (by rw [a3, k4, b4])
    subst this
    exact a4 k3
  rcases h with ⟨c, a1, a2, a3, a4, a5⟩ | ⟨c, q, st, b1, b2, b3, b4, b5⟩
  · rcases h' with ⟨c', a1', a2', a3', a4', a5'⟩ | ⟨c', q', st', b1', b2', b3', b4', b5'⟩
    · omega
    · exact (mix a1 a2 a3 a4 b1' b2' b3' b4').elim
  · rcases h' with ⟨c', a1', a2', a3', a4', a5'⟩ | ⟨c', q', st', b1', b2', b3', b4', b5'⟩
    · exact (mix a1' a2' a3' a4' b1 b2 b3 b4).elim
    · have := q9cl_one hN b1 b1' b2 b2' b3 b3' (by rw [b4, b4'])
      subst this
      omega
end q9TRN
section REV
variable {T : Int → Int} {N P : Int} {J : Int → Int}
theorem q9en_rev {c : q9CF9} {j : Int} (h0 : 0 ≤ j) : (q9enI c j).map (fun e => (e.1, e.2.1)) = (q9th_stP c).reverse[j.toNat]? := by
  unfold q9enI
  split
  · rename_i h
    rw [List.getElem?_reverse (by rw [q9stP_len]; omega), q9stP_len]
    unfold q9th_stP
    rw [List.getElem?_map]
  · rename_i h
    rw [List.getElem?_eq_none (by rw [List.length_reverse, q9stP_len]; omega)]
    rfl
theorem q9en_of {c : q9CF9} {j : Int} {e : q9TE9} (h : q9enI c j = some e) : (q9th_stP c).reverse[j.toNat]? = some (e.1, e.2.1) := by
  rw [← q9en_rev (q9en_lt h).1, h]
  rfl
theorem q9en_to {c : q9CF9} {j : Int} {o : Int × Int} (h0 : 0 ≤ j) (h : (q9th_stP c).reverse[j.toNat]? = some o) : ∃ e, q9enI c j = some e ∧ e.1 = o.1 ∧ e.2.1 = o.2 := by
  rw [← q9en_rev h0] at h
  cases he : q9enI c j with
  | none => rw [he] at h; cases h
  | some e =>
    rw [he] at h
    cases h
    exact ⟨e, rfl, rfl, rfl⟩
/-- what stays unclosed from a turn to the next -/
theorem q9nx_en {c c' : q9CF9} (hn : q9th_nxI T N P J c = some c') {j : Int} {e : q9TE9} (he : q9enI c j = some e) (hj : j < c'.2.2.length) : ∃ e', q9enI c' j = some e' ∧ e'.1 = e.1 ∧ e'.2.1 = e.2.1 := by
  have h0 := (q9en_lt he).1
  have hl := (q9en_lt he).2
  have h1 := q9en_of he
  refine q9en_to (o := (e.1, e.2.1)) h0 ?_
  have l1 := q9stP_len (c := c)
  have l2 := q9stP_len (c := c')
  rcases q9nx_stP hn with ⟨o, L, h8, e1, e2, e3, e4⟩ | ⟨hok, h7, e1, e2⟩ | ⟨hok, h7, e1, e2⟩
  · rw [e1, List.reverse_cons, List.getElem?_append_left (by rw [List.length_reverse, ← e2, l2]; omega)] at h1
    rw [e2]
    exact h1
  · rw [e1, List.reverse_cons, List.getElem?_append_left (by rw [List.length_reverse, l1]; omega)]
    exact h1
  · rw [e1]
    exact h1
/-- where an unclosed repeat began, the same were open -/
theorem q9vis_ab (hN : 0 ≤ N) : ∀ {c : q9CF9}, q9visI T N P J c → ∀ (j : Nat) (o : Int × Int), (q9th_stP c)[j]? = some o → j + 1 < (q9th_stP c).length → ∃ c0, q9visI T N P J c0 ∧ q9okL T N P J c0 ∧ q9lkI T N c0 = 7 ∧ c0.2.1 = o.1 ∧ c0.1 = o.2 ∧ q9th_stP c0 = (q9th_stP c).drop (j + 1) := by
  refine q9vis_ind (p := fun c => ∀ (j : Nat) (o : Int × Int), (q9th_stP c)[j]? = some o → j + 1 < (q9th_stP c).length → ∃ c0, q9visI T N P J c0 ∧ q9okL T N P J c0 ∧ q9lkI T N c0 = 7 ∧ c0.2.1 = o.1 ∧ c0.1 = o.2 ∧ q9th_stP c0 = (q9th_stP c).drop (j + 1)) (fun j o h1 h2 => ?_) fun c c' hv hi hn => ?_
  · have h2 : j + 1 < 1 := h2
    omega
  · rcases q9nx_stP hn with ⟨o, L, h8, e1, e2, e3, e4⟩ | ⟨hok, h7, e1, e2⟩ | ⟨hok, h7, e1, e2⟩
    · rw [e2]
      intro j o' h1 h2
      have := hi (j + 1) o' (by rw [e1]; exact h1) (by rw [e1, List.length_cons]; omega)
      rw [e1] at this
      exact this
    · rw [e1]
      intro j o' h1 h2
      rw [List.length_cons] at h2
      cases j with
      | zero =>
        cases h1
        exact ⟨c, hv, hok, h7, rfl, rfl, rfl⟩
      | succ j => exact hi j o' h1 (by omega)
    · rw [e1]
      exact hi
/-- behind a line -/
theorem q9pr_next (hN : 0 ≤ N) {c : q9CF9} {p : Int} (h : q9prI T N P J c p) (hs : q9byI T N (q9spI T N p) = 59) : ∃ c', q9th_nxI T N P J c = some c' ∧ c'.1 = q9spI T N p + 1 ∧ c'.2.1 = c.2.1 + (if q9lkI T N c = 8 then 0 else 1) ∧ c'.2.2.length + (if q9lkI T N c = 8 then 1 else 0) = c.2.2.length := by
  have hi := q9vis_inv hN h.1
  obtain ⟨q, st, hst⟩ : ∃ q st, c.2.2 = q :: st := by
    cases hh : c.2.2 with
    | nil =>
      have := hi.2.2.2.2.1
      rw [hh] at this
      exact absurd this (by decide)
    | cons q st => exact ⟨q, st, rfl⟩
  rcases h.2 with ⟨hok, h7, rfl⟩ | ⟨h8, rfl⟩
  · have k1 := hok.1
    have k2 := hok.2.1
    have h8 : ¬ q9lkI T N c = 8 := by omega
    refine ⟨_, q9nx_line hst hok.1 (by omega) hok.2.2.1 rfl hok.2.2.2.2 hs, rfl, by show c.2.1 + 1 = _; rw [if_neg h8], ?_⟩
    rw [if_neg h8, hst]
    rfl
  · have l8 := q9lk8_len h8
    cases st with
    | nil =>
      rw [hst] at l8
      exact absurd l8 (by show ¬ 2 ≤ 1; decide)
    | cons q' st =>
      refine ⟨_, q9nx_close hst h8 hs, rfl, by rw [if_pos h8]; dsimp only; omega, ?_⟩
      rw [if_pos h8, hst]
      rfl
theorem q9pr_none {c : q9CF9} {p : Int} (h : q9prI T N P J c p) (hs : q9byI T N (q9spI T N p) ≠ 59) : q9th_nxI T N P J c = none ∧ q9th_reI T N P J c = (1, q9spI T N p) := by
  rcases h.2 with ⟨hok, h7, rfl⟩ | ⟨h8, rfl⟩
  · have k1 := hok.1
    have k2 := hok.2.1
    have k3 := hok.2.2.1
    refine ⟨q9nx_no (by omega) (.inr ⟨h7, hs⟩), ?_⟩
    unfold q9th_reI
    rw [if_neg (by omega), if_neg (by omega), if_neg (by omega), if_neg (by omega), if_pos hok.2.2.2.2]
  · refine ⟨q9nx_no8 h8 hs, ?_⟩
    unfold q9th_reI
    rw [if_pos h8]
end REV
section HOP
variable {T : Int → Int} {N P : Int} {J : Int → Int}
theorem q9i2l_of {x : Int32} : x.toInt64 = Int64.ofInt x.toInt := Int64.toInt_inj.mp (by
  have h1 := Int32.le_toInt x
  have h2 := Int32.toInt_lt x
  rw [Int32.toInt_toInt64, Int64.toInt_ofInt_of_le (by omega) (by omega)])
/-- a line's own frames, lines done -/
noncomputable def q9vaI (T : Int → Int) (N P : Int) (J : Int → Int) (n : Nat) (c : q9CF9) (b m : Int) (f1 d1 : Int64) : Prop :=
  (q9lkI T N c ≤ 1 ∧ f1 = Int64.ofInt (q9amI T N P J (q9lkI T N c) (q9weI T N (q9spI T N c.1))) ∧ d1 = 1) ∨ (2 ≤ q9lkI T N c ∧ q9lkI T N c ≤ 6 ∧ f1 = 0 ∧ d1 = 1) ∨
       (q9lkI T N c = 7 ∧ ∃ f3 d3, q9hsI T N P J n (b + 1) m f3 d3 ∧ f1 = Int64.ofInt (q9amI T N P J 7 (q9weI T N (q9spI T N c.1))) * f3 ∧ d1 = 1 + Int64.ofInt (q9amI T N P J 7 (q9weI T N (q9spI T N c.1))) * d3)
theorem q9hs_up : ∀ (n : Nat) (b e : Int) (f d : Int64), q9hsI T N P J n b e f d → q9hsI T N P J (n + 1) b e f d
  | 0, _, _, _, _, h => False.elim h
  | n + 1, b, e, f, d, h => by
    rcases h with h | ⟨c, m, f1, d1, f2, d2, h1, h2, h3, h4, h5, h6, h7, h8, h9, h10⟩
    · exact .inl h
    · refine .inr ⟨c, m, f1, d1, f2, d2, h1, h2, h3, h4, h5, h6, q9hs_up n _ _ _ _ h7, h8, h9, ?_⟩
      rcases h10 with h | h | ⟨k1, f3, d3, k2, k3⟩
      · exact .inl h
      · exact .inr (.inl h)
      · exact .inr (.inr ⟨k1, f3, d3, q9hs_up n _ _ _ _ k2, k3⟩)
theorem q9hs_add {n : Nat} {b e : Int} {f d : Int64} (h : q9hsI T N P J n b e f d) : ∀ k : Nat, q9hsI T N P J (n + k) b e f d
  | 0 => h
  | k + 1 => q9hs_up _ _ _ _ _ (q9hs_add h k)
theorem q9hs_one (hN : 0 ≤ N) : ∀ (n m : Nat) (b e : Int) (f d f' d' : Int64), q9hsI T N P J n b e f d → q9hsI T N P J m b e f' d' → f' = f ∧ d' = d
  | 0, _, _, _, _, _, _, _, h, _ => False.elim h
  | _ + 1, 0, _, _, _, _, _, _, _, h => False.elim h
  | n + 1, m + 1, b, e, f, d, f', d', h, h' => by
    rcases h with ⟨h1, h2, h3⟩ | ⟨c, k, f1, d1, f2, d2, h1, h2, h3, h4, h5, h6, h7, h8, h9, h10⟩
    · rcases h' with ⟨g1, g2, g3⟩ | ⟨c', k', f1', d1', f2', d2', g1, g2, g3, g4, g5, g6, g7, g8, g9, g10⟩
      · rw [h2, h3, g2, g3]
        exact ⟨rfl, rfl⟩
      · omega
    · rcases h' with ⟨g1, g2, g3⟩ | ⟨c', k', f1', d1', f2', d2', g1, g2, g3, g4, g5, g6, g7, g8, g9, g10⟩
      · omega
      · have hc := q9ln_one h1 g1 h2 g2 (by rw [h3, g3])
        subst hc
        have hk := q9en_one hN h4 g4
        subst hk
        obtain ⟨e1, e2⟩ := q9hs_one hN n m _ _ _ _ _ _ h7 g7
        subst e1
        subst e2
        have hv : f1' = f1 ∧ d1' = d1 := by
          rcases h10 with ⟨a1, a2, a3⟩ | ⟨a1, a2, a3, a4⟩ | ⟨a1, f3, d3, a2, a3, a4⟩
          · rcases g10 with ⟨b1, b2, b3⟩ | ⟨b1, b2, b3, b4⟩ | ⟨b1, f3', d3', b2, b3, b4⟩
            · rw [a2, a3, b2, b3]
              exact ⟨rfl, rfl⟩
            · omega
            · omega
          · rcases g10 with ⟨b1, b2, b3⟩ | ⟨b1, b2, b3, b4⟩ | ⟨b1, f3', d3', b2, b3, b4⟩
            · omega
            · rw [a3, a4, b3, b4]
              exact ⟨rfl, rfl⟩
            · omega
          · rcases g10 with ⟨b1, b2, b3⟩ | ⟨b1, b2, b3, b4⟩ | ⟨b1, f3', d3', b2, b3, b4⟩
            · omega
            · omega
            · obtain ⟨e3, e4⟩ := q9hs_one hN n m _ _ _ _ _ _ a2 b2
              rw [a3, a4, b3, b4, e3, e4]
              exact ⟨rfl, rfl⟩
        rw [h8, h9, g8, g9, hv.1, hv.2]
        exact ⟨rfl, rfl⟩
theorem q9vaI.up {n : Nat} {c : q9CF9} {b m : Int} {f d : Int64} (h : q9vaI T N P J n c b m f d) (k : Nat) : q9vaI T N P J (n + k) c b m f d := by
  rcases h with h | h | ⟨k1, f3, d3, k2, k3⟩
  · exact .inl h
  · exact .inr (.inl h)
  · exact .inr (.inr ⟨k1, f3, d3, q9hs_add k2 k, k3⟩)
theorem q9hs_nil {b : Int} : q9hsI T N P J 1 b b 0 0 := .inl ⟨rfl, rfl, rfl⟩
/-- q9one line q9more -/
theorem q9hs_snoc {k : Nat} {c : q9CF9} {i m : Int} {f1 d1 : Int64} (h1 : q9visI T N P J c) (h2 : q9okL T N P J c) (h3 : c.2.1 = i) (h4 : q9enE T N P J i m) (h5 : i < m) (h10 : q9vaI T N P J k c i m f1 d1) :
    ∀ (n : Nat) (b : Int) (f d : Int64), q9hsI T N P J n b i f d → q9hsI T N P J (n + k + 1) b m (f + f1) (d + d1)
  | 0, _, _, _, h => False.elim h
  | n + 1, b, f, d, h => by
    rcases h with ⟨g1, g2, g3⟩ | ⟨c', m', f1', d1', f2, d2, g1, g2, g3, g4, g5, g6, g7, g8, g9, g10⟩
    · subst g1
      subst g2
      subst g3
      refine .inr ⟨c, m, f1, d1, 0, 0, h1, h2, h3, h4, h5, Int.le_refl _, ?_, by rw [Int64.zero_add, Int64.add_zero], by rw [Int64.zero_add, Int64.add_zero], ?_⟩
      · have := q9hs_add (q9hs_nil (T := T) (N := N) (P := P) (J := J) (b := m)) (n + k)
        rw [show n + 1 + k = 1 + (n + k) by omega]
        exact this
      · have := h10.up (n + 1)
        rw [show n + 1 + k = k + (n + 1) by omega]
        exact this
    · have ih := q9hs_snoc h1 h2 h3 h4 h5 h10 n m' f2 d2 g7
      refine .inr ⟨c', m', f1', d1', f2 + f1, d2 + d1, g1, g2, g3, g4, g5, by omega, ?_, by rw [g8, Int64.add_assoc], by rw [g9, Int64.add_assoc], ?_⟩
      · rw [show n + 1 + k = n + k + 1 by omega]
        exact ih
      · have := q9vaI.up (T := T) (N := N) (P := P) (J := J) (n := n) (c := c') (b := b) (m := m') (f := f1') (d := d1') g10 (k + 1)
        rw [show n + 1 + k = n + (k + 1) by omega]
        exact this
noncomputable def q9hsL (T : Int → Int) (N P : Int) (J : Int → Int) : Bool → List q9TE9 → Int → Prop
  | _, [], _ => True
  | t, q :: st, e => (∃ n d, q9hsI T N P J n (q.1 + 1) e q.2.2.1 d ∧ q.2.2.2 = if t = true then d else d + 1) ∧ q9hsL T N P J false st q.1
theorem q9mo_am {c : q9CF9} {a : Int} (h : c.1 = a) : Int64.ofInt (q9amI T N P J 7 (q9weI T N (q9spI T N c.1))) = q9moI T N P J a := by
  rw [h]
  rfl
theorem q9vis_hs (hN : 0 ≤ N) : ∀ {c : q9CF9}, q9visI T N P J c → q9hsL T N P J true c.2.2 c.2.1 := by
  refine q9vis_ind (p := fun c => q9hsL T N P J true c.2.2 c.2.1) ⟨⟨1, 0, q9hs_nil, rfl⟩, trivial⟩ fun c c' hv hi hn => ?_
  obtain ⟨i1, i2, i3, i4, i5, i6, i7⟩ := q9vis_inv hN hv
  have hn0 := hn
  unfold q9th_nxI at hn
  split at hn
  · cases hn
  · rename_i q st hst
    rw [hst] at hi
    obtain ⟨⟨n, d, k1, k2⟩, k3⟩ := hi
    rw [if_pos rfl] at k2
    split at hn
    · rename_i h8
      split at hn
      · cases hn
      · rename_i q' st'
        split at hn
        · cases hn
          obtain ⟨⟨n', d', m1, m2⟩, m3⟩ := k3
          rw [if_neg (by decide)] at m2
          have l8 := q9lk8_len h8
          obtain ⟨o1, o2, ⟨c0, p1, p2, p3, p4, p5⟩, -⟩ := i7 0 _ (q9top_of hst) (by rw [q9stP_len]; omega)
          dsimp only at o1 o2 p4 p5
          have hen : q9enE T N P J q.1 c.2.1 := .inr ⟨c, q, q' :: st', hv, h8, hst, rfl, rfl⟩
          have hs := q9hs_snoc (k := n) (f1 := q9moI T N P J q.2.1 * q.2.2.1) (d1 := 1 + q9moI T N P J q.2.1 * q.2.2.2) p1 p2 p4 hen o2 (.inr (.inr ⟨p3, q.2.2.1, d, k1, by rw [q9mo_am p5], by rw [q9mo_am p5, k2]⟩)) n' _ _ _ m1
          exact ⟨⟨_, _, hs, by rw [if_pos rfl, m2, Int64.add_assoc]⟩, m3⟩
        · cases hn
    · split at hn
      · rename_i h8 hok
        split at hn
        · cases hn
          exact ⟨⟨1, 0, q9hs_nil, rfl⟩, ⟨n, d, k1, by rw [if_neg (by decide), k2]⟩, k3⟩
        · rename_i h7
          split at hn
          · cases hn
            have hen : q9enE T N P J c.2.1 (c.2.1 + 1) := .inl ⟨c, hv, hok, rfl, h7, rfl⟩
            have g1 := hok.1
            have g2 := hok.2.1
            by_cases hk : q9lkI T N c ≤ 1
            · have hs := q9hs_snoc (k := 0) hv hok rfl hen (by omega) (.inl ⟨hk, rfl, rfl⟩) n _ _ _ k1
              refine ⟨⟨n + 0 + 1, d + 1, ?_, by show q.2.2.2 + 1 = if true = true then d + 1 else d + 1 + 1; rw [if_pos rfl, k2]⟩, k3⟩
              dsimp only
              rw [if_pos hk]
              exact hs
            · have hs := q9hs_snoc (k := 0) hv hok rfl hen (by omega) (.inr (.inl ⟨by omega, by omega, rfl, rfl⟩)) n _ _ _ k1
              rw [Int64.add_zero] at hs
              refine ⟨⟨n + 0 + 1, d + 1, ?_, by show q.2.2.2 + 1 = if true = true then d + 1 else d + 1 + 1; rw [if_pos rfl, k2]⟩, k3⟩
              dsimp only
              rw [if_neg hk]
              exact hs
          · cases hn
      · cases hn
/-- the text itself is the last -/
theorem q9vis_base : ∀ {c : q9CF9}, q9visI T N P J c → (q9th_stP c).getLast? = some (-1, 0) := by
  refine q9vis_ind (p := fun c => (q9th_stP c).getLast? = some (-1, 0)) rfl fun c c' hv hi hn => ?_
  rcases q9nx_stP hn with ⟨o, L, h8, e1, e2, e3, e4⟩ | ⟨hok, h7, e1, e2⟩ | ⟨hok, h7, e1, e2⟩
  · rw [e1] at hi
    rw [e2]
    cases L with
    | nil => exact absurd e3 (by decide)
    | cons a L =>
      rw [List.getLast?_cons_cons] at hi
      exact hi
  · rw [e1]
    cases hL : q9th_stP c with
    | nil => rw [hL] at hi; cases hi
    | cons a L =>
      rw [List.getLast?_cons_cons, ← hL]
      exact hi
  · rw [e1]
    exact hi
end HOP
section FV
variable {T : Int → Int} {N P : Int} {J : Int → Int} {t0 : Int} {Sc : Int → Int}
theorem q9prev_one {c d c' : q9CF9} (h : q9visI T N P J c) (h' : q9visI T N P J d) (e : q9th_nxI T N P J c = some c') (e' : q9th_nxI T N P J d = some c') : c = d := by
  obtain ⟨n, hn⟩ := h
  obtain ⟨m, hm⟩ := h'
  have h1 : q9trI T N P J (n + 1) = some c' := by
    show (q9trI T N P J n).bind _ = _
    rw [hn]
    exact e
  have h2 : q9trI T N P J (m + 1) = some c' := by
    show (q9trI T N P J m).bind _ = _
    rw [hm]
    exact e'
  rcases Nat.lt_trichotomy n m with h3 | h3 | h3
  · have := q9tr_lt (by omega) h1 h2
    omega
  · subst h3
    rw [hn] at hm
    exact Option.some.inj hm
  · have := q9tr_lt (by omega) h2 h1
    omega
theorem q9F_vis {c : q9CF9} {a b : Int} (hv : q9visI T N P J c) (hc : c.1 = a) : FF T N P J t0 Sc 1020 a b = some 1 := by
  rw [q9FF_1020]
  exact q9at_V hv hc rfl fun v' h => h
theorem q9F_dp {c : q9CF9} {a b v : Int} (hv : q9visI T N P J c) (hc : c.1 = a) (h : v + 1 = c.2.2.length) : FF T N P J t0 Sc 1021 a b = some v := by
  rw [q9FF_1021]
  exact q9at_V (p := fun (v : Int) c => v + 1 = c.2.2.length) hv hc h fun v' h' => by omega
theorem q9F_sz {c : q9CF9} {a b v : Int} (hv : q9visI T N P J c) (hc : c.1 = a) (h : v = c.2.1) : FF T N P J t0 Sc 1022 a b = some v := by
  rw [q9FF_1022]
  exact q9at_V (p := fun (v : Int) c => v = c.2.1) hv hc h fun v' h' => by omega
theorem q9F_opn {c : q9CF9} {a b v : Int} {e : q9TE9} (hv : q9visI T N P J c) (hc : c.1 = a) (hb : 1 ≤ b) (he : q9enI c b = some e) (h : v = e.1) : FF T N P J t0 Sc 1023 a b = some v := by
  rw [q9FF_1023]
  exact q9at_V (p := fun (v : Int) c => 1 ≤ b ∧ ∃ e, q9enI c b = some e ∧ v = e.1) hv hc ⟨hb, e, he, h⟩ fun v' ⟨_, e', h1, h2⟩ => by
    rw [he] at h1
    cases h1
    rw [h, h2]
theorem q9F_opb {c : q9CF9} {a b v : Int} {e : q9TE9} (hv : q9visI T N P J c) (hc : c.1 = a) (hb : 1 ≤ b) (he : q9enI c b = some e) (h : v = e.2.1) : FF T N P J t0 Sc 1037 a b = some v := by
  rw [q9FF_1037]
  exact q9at_V (p := fun (v : Int) c => 1 ≤ b ∧ ∃ e, q9enI c b = some e ∧ v = e.2.1) hv hc ⟨hb, e, he, h⟩ fun v' ⟨_, e', h1, h2⟩ => by
    rw [he] at h1
    cases h1
    rw [h, h2]
theorem q9F_prv {c c' : q9CF9} {a b v : Int} (hv : q9visI T N P J c) (hn : q9th_nxI T N P J c = some c') (hc : c'.1 = a) (h : v = c.1) : FF T N P J t0 Sc 1026 a b = some v := by
  rw [q9FF_1026]
  refine q9chV_to (fun v' ⟨d, d', h1, h2, h3, h4⟩ => ?_) ⟨c, c', hv, hn, hc, h⟩
  have e := q9vis_pos (q9vis_next hv hn) (q9vis_next h1 h2) (by rw [hc, h3])
  subst e
  rw [h4, h, q9prev_one hv h1 hn h2]
theorem q9F_beg {c : q9CF9} {a b : Int} (hv : q9visI T N P J c) (hc : c.1 = a) (h8 : q9lkI T N c ≠ 8) (h9 : c.2.2.length < 2 → q9lkI T N c ≠ 9) : FF T N P J t0 Sc 1027 a b = some 1 := by
  rw [q9FF_1027]
  exact q9at_V (p := fun (v : Int) c => q9lkI T N c ≠ 8 ∧ (c.2.2.length < 2 → q9lkI T N c ≠ 9) ∧ v = 1) hv hc ⟨h8, h9, rfl⟩ fun v' h' => h'.2.2
theorem q9F_pvs {c : q9CF9} {a b : Int} (hv : q9prI T N P J c a) : FF T N P J t0 Sc 1030 a b = some 1 := by
  rw [q9FF_1030]
  exact q9pr_V (p := fun (v : Int) c => v = 1) hv rfl fun v' h => h
theorem q9F_pdp {c : q9CF9} {a b v : Int} (hv : q9prI T N P J c a) (h : v + (if q9lkI T N c = 8 then 2 else 1) = c.2.2.length) : FF T N P J t0 Sc 1031 a b = some v := by
  rw [q9FF_1031]
  exact q9pr_V (p := fun (v : Int) c => v + (if q9lkI T N c = 8 then 2 else 1) = c.2.2.length) hv h fun v' h' => by omega
theorem q9F_psz {c : q9CF9} {a b v : Int} (hv : q9prI T N P J c a) (h : v = c.2.1 + (if q9lkI T N c = 8 then 0 else 1)) : FF T N P J t0 Sc 1032 a b = some v := by
  rw [q9FF_1032]
  exact q9pr_V (p := fun (v : Int) c => v = c.2.1 + (if q9lkI T N c = 8 then 0 else 1)) hv h fun v' h' => by rw [h', h]
theorem q9F_pop {c : q9CF9} {a b v : Int} {e : q9TE9} (hv : q9prI T N P J c a) (hb : 1 ≤ b) (hl : b + (if q9lkI T N c = 8 then 1 else 0) < c.2.2.length) (he : q9enI c b = some e) (h : v = e.1) : FF T N P J t0 Sc 1033 a b = some v := by
  rw [q9FF_1033]
  exact q9pr_V (p := fun (v : Int) c => 1 ≤ b ∧ b + (if q9lkI T N c = 8 then 1 else 0) < c.2.2.length ∧ ∃ e, q9enI c b = some e ∧ v = e.1) hv ⟨hb, hl, e, he, h⟩ fun v' ⟨_, _, e', h1, h2⟩ => by
    rw [he] at h1
    cases h1
    rw [h, h2]
theorem q9F_pob {c : q9CF9} {a b v : Int} {e : q9TE9} (hv : q9prI T N P J c a) (hb : 1 ≤ b) (hl : b + (if q9lkI T N c = 8 then 1 else 0) < c.2.2.length) (he : q9enI c b = some e) (h : v = e.2.1) : FF T N P J t0 Sc 1038 a b = some v := by
  rw [q9FF_1038]
  exact q9pr_V (p := fun (v : Int) c => 1 ≤ b ∧ b + (if q9lkI T N c = 8 then 1 else 0) < c.2.2.length ∧ ∃ e, q9enI c b = some e ∧ v = e.2.1) hv ⟨hb, hl, e, he, h⟩ fun v' ⟨_, _, e', h1, h2⟩ => by
    rw [he] at h1
    cases h1
    rw [h, h2]
theorem q9F_plk {c : q9CF9} {a b v : Int} {q : q9TE9} {st : List q9TE9} (hv : q9prI T N P J c a) (hst : c.2.2 = q :: st) (h : v = if q9lkI T N c = 8 then q.2.1 else c.1) : FF T N P J t0 Sc 1034 a b = some v := by
  rw [q9FF_1034]
  exact q9pr_V (p := fun (v : Int) c => ∃ q st, c.2.2 = q :: st ∧ v = if q9lkI T N c = 8 then q.2.1 else c.1) hv ⟨q, st, hst, h⟩ fun v' ⟨q', st', h1, h2⟩ => by
    rw [hst] at h1
    cases h1
    rw [h, h2]
theorem q9F_vlk {c c' : q9CF9} {a b v : Int} (hv : q9prI T N P J c v) (hn : q9th_nxI T N P J c = some c') (hc : c'.1 = a) : FF T N P J t0 Sc 1035 a b = some v := by
  rw [q9FF_1035]
  refine q9chV_to (fun v' ⟨d, d', h1, h2, h3⟩ => ?_) ⟨c, c', hv, hn, hc⟩
  have e := q9vis_pos (q9vis_next hv.1 hn) (q9vis_next h1.1 h2) (by rw [hc, h3])
  subst e
  have e2 := q9prev_one hv.1 h1.1 hn h2
  subst e2
  rcases hv.2 with ⟨ok1, g1, g2⟩ | ⟨g1, g2⟩
  · rcases h1.2 with ⟨ok2, k1, k2⟩ | ⟨k1, k2⟩
    · rw [g2, k2]
    · have := ok1.2.1
      omega
  · rcases h1.2 with ⟨ok2, k1, k2⟩ | ⟨k1, k2⟩
    · have := ok2.2.1
      omega
    · rw [g2, k2]
theorem q9F_pca {c : q9CF9} {a b v : Int} (hv : q9prI T N P J c a) (h8 : q9lkI T N c = 8) (h : v = c.1) : FF T N P J t0 Sc 1036 a b = some v := by
  rw [q9FF_1036]
  exact q9pr_V (p := fun (v : Int) c => q9lkI T N c = 8 ∧ v = c.1) hv ⟨h8, h⟩ fun v' h' => by rw [h'.2, h]
theorem q9F_rsk {c : q9CF9} {a b v : Int} (hv : q9visI T N P J c) (hn : q9th_nxI T N P J c = none) (h : v = (q9th_reI T N P J c).1) : FF T N P J t0 Sc 1040 a b = some v := by
  rw [q9FF_1040]
  exact q9la_V (p := fun (v : Int) c => v = (q9th_reI T N P J c).1) hv hn h fun v' h' => by rw [h', h]
theorem q9F_rsp {c : q9CF9} {a b v : Int} (hv : q9visI T N P J c) (hn : q9th_nxI T N P J c = none) (h0 : (q9th_reI T N P J c).1 ≠ 0) (h : v = (q9th_reI T N P J c).2) : FF T N P J t0 Sc 1041 a b = some v := by
  rw [q9FF_1041]
  exact q9la_V (p := fun (v : Int) c => (q9th_reI T N P J c).1 ≠ 0 ∧ v = (q9th_reI T N P J c).2) hv hn ⟨h0, h⟩ fun v' h' => by rw [h'.2, h]
theorem q9F_fsz {c : q9CF9} {a b v : Int} (hv : q9visI T N P J c) (hn : q9th_nxI T N P J c = none) (h0 : q9edI T N c) (h : v = c.2.1) : FF T N P J t0 Sc 1042 a b = some v := by
  rw [q9FF_1042]
  exact q9la_V (p := fun (v : Int) c => q9edI T N c ∧ v = c.2.1) hv hn ⟨h0, h⟩ fun v' h' => by rw [h'.2, h]
theorem q9F_kd {c : q9CF9} {a b v : Int} (hv : q9visI T N P J c) (hk : q9okL T N P J c) (hc : c.2.1 = a) (h : v = q9lkI T N c) : FF T N P J t0 Sc 1050 a b = some v := by
  rw [q9FF_1050]
  exact q9ln_V (p := fun (v : Int) c => v = q9lkI T N c) hv hk hc h fun v' h' => by rw [h', h]
theorem q9F_mn {c : q9CF9} {a b v : Int} (hv : q9visI T N P J c) (hk : q9okL T N P J c) (hc : c.2.1 = a) (h : v = q9amI T N P J (q9lkI T N c) (q9weI T N (q9spI T N c.1))) : FF T N P J t0 Sc 1051 a b = some v := by
  rw [q9FF_1051]
  exact q9ln_V (p := fun (v : Int) c => v = q9amI T N P J (q9lkI T N c) (q9weI T N (q9spI T N c.1))) hv hk hc h fun v' h' => by rw [h', h]
theorem q9F_en (hN : 0 ≤ N) {a b v : Int} (h : q9enE T N P J a v) : FF T N P J t0 Sc 1052 a b = some v := by
  rw [q9FF_1052]
  exact q9chV_to (fun v' h' => q9en_one hN h h') h
theorem q9G_frv {c : q9CF9} {a b : Int} {v : Int64} {e : q9TE9} (hv : q9visI T N P J c) (hc : c.1 = a) (he : q9enI c b = some e) (h : v = e.2.2.1) : FL T N P J 1024 a b = some v := by
  rw [q9FL_1024]
  exact q9at_V (p := fun (v : Int64) c => ∃ e, q9enI c b = some e ∧ v = e.2.2.1) hv hc ⟨e, he, h⟩ fun v' ⟨e', h1, h2⟩ => by
    rw [he] at h1
    cases h1
    rw [h, h2]
theorem q9G_dnv {c : q9CF9} {a b : Int} {v : Int64} {e : q9TE9} (hv : q9visI T N P J c) (hc : c.1 = a) (he : q9enI c b = some e) (h : v = e.2.2.2) : FL T N P J 1025 a b = some v := by
  rw [q9FL_1025]
  exact q9at_V (p := fun (v : Int64) c => ∃ e, q9enI c b = some e ∧ v = e.2.2.2) hv hc ⟨e, he, h⟩ fun v' ⟨e', h1, h2⟩ => by
    rw [he] at h1
    cases h1
    rw [h, h2]
theorem q9G_dn1 {c : q9CF9} {a b : Int} {v : Int64} {q : q9TE9} {st : List q9TE9} (hv : q9visI T N P J c) (hc : c.1 = a) (hst : c.2.2 = q :: st) (h : v = q.2.2.2 + 1) : FL T N P J 1028 a b = some v := by
  rw [q9FL_1028]
  exact q9at_V (p := fun (v : Int64) c => ∃ q st, c.2.2 = q :: st ∧ v = q.2.2.2 + 1) hv hc ⟨q, st, hst, h⟩ fun v' ⟨q', st', h1, h2⟩ => by
    rw [hst] at h1
    cases h1
    rw [h, h2]
theorem q9G_frn {c : q9CF9} {a b : Int} {v : Int64} {q : q9TE9} {st : List q9TE9} (hv : q9visI T N P J c) (hc : c.1 = a) (hk : q9lkI T N c ≤ 1) (hst : c.2.2 = q :: st) (h : v = q.2.2.1 + Int64.ofInt (q9amI T N P J (q9lkI T N c) (q9weI T N (q9spI T N c.1)))) : FL T N P J 1029 a b = some v := by
  rw [q9FL_1029]
  exact q9at_V (p := fun (v : Int64) c => q9lkI T N c ≤ 1 ∧ ∃ q st, c.2.2 = q :: st ∧ v = q.2.2.1 + Int64.ofInt (q9amI T N P J (q9lkI T N c) (q9weI T N (q9spI T N c.1)))) hv hc ⟨hk, q, st, hst, h⟩ fun v' ⟨_, q', st', h1, h2⟩ => by
    rw [hst] at h1
    cases h1
    rw [h, h2]
theorem q9G_ffr {c : q9CF9} {a b : Int} {v : Int64} {e : q9TE9} (hv : q9visI T N P J c) (hn : q9th_nxI T N P J c = none) (h0 : q9edI T N c) (he : q9enI c 0 = some e) (h : v = e.2.2.1) : FL T N P J 1043 a b = some v := by
  rw [q9FL_1043]
  exact q9la_V (p := fun (v : Int64) c => q9edI T N c ∧ ∃ e, q9enI c 0 = some e ∧ v = e.2.2.1) hv hn ⟨h0, e, he, h⟩ fun v' ⟨_, e', h1, h2⟩ => by
    rw [he] at h1
    cases h1
    rw [h, h2]
theorem q9G_fdn {c : q9CF9} {a b : Int} {v : Int64} {e : q9TE9} (hv : q9visI T N P J c) (hn : q9th_nxI T N P J c = none) (h0 : q9edI T N c) (he : q9enI c 0 = some e) (h : v = e.2.2.2) : FL T N P J 1044 a b = some v := by
  rw [q9FL_1044]
  exact q9la_V (p := fun (v : Int64) c => q9edI T N c ∧ ∃ e, q9enI c 0 = some e ∧ v = e.2.2.2) hv hn ⟨h0, e, he, h⟩ fun v' ⟨_, e', h1, h2⟩ => by
    rw [he] at h1
    cases h1
    rw [h, h2]
theorem q9G_fs (hN : 0 ≤ N) {a b : Int} {v d : Int64} {n : Nat} (h : q9hsI T N P J n a b v d) : FL T N P J 1053 a b = some v := by
  rw [q9FL_1053]
  exact q9chV_to (fun v' ⟨m, d', h'⟩ => (q9hs_one hN _ _ _ _ _ _ _ _ h h').1) ⟨n, d, h⟩
theorem q9G_ds (hN : 0 ≤ N) {a b : Int} {v f : Int64} {n : Nat} (h : q9hsI T N P J n a b f v) : FL T N P J 1054 a b = some v := by
  rw [q9FL_1054]
  exact q9chV_to (fun v' ⟨m, d', h'⟩ => (q9hs_one hN _ _ _ _ _ _ _ _ h h').2) ⟨n, f, h⟩
theorem q9G_ds1 (hN : 0 ≤ N) {a b : Int} {v f d : Int64} {n : Nat} (h : q9hsI T N P J n a b f d) (e : v = d + 1) : FL T N P J 1057 a b = some v := by
  rw [q9FL_1057]
  exact q9chV_to (fun v' ⟨m, f', d', h', e'⟩ => by rw [e', e, (q9hs_one hN _ _ _ _ _ _ _ _ h h').2]) ⟨n, f, d, h, e⟩
end FV
section FIN
variable {T : Int → Int} {N P : Int} {J : Int → Int} {t0 : Int} {Sc : Int → Int}
theorem q9lk_k {c : q9CF9} (hk : 0 ≤ q9kbI T N (q9spI T N c.1)) : q9lkI T N c = q9kbI T N (q9spI T N c.1) := by
  refine q9lk_of (fun h8 => ?_) hk
  have hw := q9kb_we hk
  have hb := q9we_let (T := T) (N := N) (i := q9spI T N c.1) 0 (by omega)
  rw [show q9spI T N c.1 + ((0 : Nat) : Int) = q9spI T N c.1 by omega, q9lk8_b h8] at hb
  omega
theorem q9fin_of {c : q9CF9} (hv : q9visI T N P J c) (hn : q9th_nxI T N P J c = none) : finI T N P J = q9fnI T N P J c := by
  unfold finI
  have hh : ∃ c, q9visI T N P J c ∧ q9th_nxI T N P J c = none := ⟨c, hv, hn⟩
  rw [dif_pos hh, q9vis_last (Classical.choose_spec hh).1 hv (Classical.choose_spec hh).2 hn]
theorem q9fn_ed {c : q9CF9} {e : q9TE9} (h : q9edI T N c) (he : q9enI c 0 = some e) : q9fnI T N P J c = if 1 ≤ e.2.2.1.toInt ∧ e.2.2.1.toInt ≤ 400 ∧ e.2.2.2.toInt ≤ 2000 then (0, 0, e.2.2.1.toInt) else (4, N, 0) := by
  unfold q9fnI
  rw [if_pos h, he]
theorem q9fn_no {c : q9CF9} (h : 1 ≤ (q9th_reI T N P J c).1) : q9fnI T N P J c = ((q9th_reI T N P J c).1, (q9th_reI T N P J c).2, 0) := by
  unfold q9fnI
  rw [if_neg]
  rintro ⟨h9, hl⟩
  have : q9th_reI T N P J c = (0, 0) := by
    unfold q9th_reI
    rw [if_neg (by omega), if_pos h9, if_pos (by omega)]
  rw [this] at h
  exact absurd h (by decide)
theorem q9re_rng (hN : 0 ≤ N) {c : q9CF9} (hv : q9visI T N P J c) : 0 ≤ (q9th_reI T N P J c).1 ∧ (q9th_reI T N P J c).1 ≤ 3 ∧ 0 ≤ (q9th_reI T N P J c).2 ∧ (q9th_reI T N P J c).2 ≤ N := by
  have hi := q9vis_inv hN hv
  have i1 := hi.1
  have i2 := hi.2.1
  have s1 := q9sp_ge (T := T) (N := N) (i := c.1)
  have s2 := q9sp_le (T := T) (N := N) (i := c.1)
  obtain ⟨s5, s6⟩ := q9rc_G (T := T) (N := N) (P := P) (J := J) (c := c)
  have s3 := q9we_ge (T := T) (N := N) (i := q9spI T N c.1)
  have s4 := q9we_le (T := T) (N := N) (i := q9spI T N c.1)
  unfold q9th_reI
  split
  · rename_i h8
    have hb := q9byI_lt (T := T) (N := N) (i := q9spI T N c.1) (by rw [q9lk8_b h8]; decide)
    have s7 := q9sp_ge (T := T) (N := N) (i := q9spI T N c.1 + 1)
    have s8 := q9sp_le (T := T) (N := N) (i := q9spI T N c.1 + 1)
    dsimp only
    omega
  · split
    · split
      · dsimp only
        omega
      · dsimp only
        omega
    · split
      · dsimp only
        omega
      · split
        · dsimp only
          omega
        · split
          · have s7 := q9sp_ge (T := T) (N := N) (i := (q9rcI T N P J c).2)
            have s8 := q9sp_le (T := T) (N := N) (i := (q9rcI T N P J c).2)
            dsimp only
            omega
          · have s7 : 0 ≤ (q9rcI T N P J c).1 ∧ (q9rcI T N P J c).1 ≤ 2 := q9tkI_B _
            omega
theorem q9fin_rng (hN : 0 ≤ N ∧ N ≤ 400) : 0 ≤ (finI T N P J).1 ∧ (finI T N P J).1 ≤ 9 ∧ 0 ≤ (finI T N P J).2.1 ∧ (finI T N P J).2.1 ≤ 400 ∧ 0 ≤ (finI T N P J).2.2 ∧ (finI T N P J).2.2 ≤ 400 := by
  unfold finI
  split
  · rename_i hh
    obtain ⟨hv, hn⟩ := Classical.choose_spec hh
    have h1 := q9re_rng hN.1 hv
    unfold q9fnI
    split
    · split
      · split
        · rename_i hc
          dsimp only
          omega
        · dsimp only
          omega
      · dsimp only
        omega
    · dsimp only
      omega
  · dsimp only
    omega
/-- an unclosed repeat's line -/
theorem q9op_kd (hN : 0 ≤ N) {c : q9CF9} {j : Int} {e : q9TE9} (hv : q9visI T N P J c) (hj : 1 ≤ j) (he : q9enI c j = some e) : 0 ≤ e.1 ∧ e.1 < c.2.1 ∧ ∃ c0, q9visI T N P J c0 ∧ q9okL T N P J c0 ∧ q9lkI T N c0 = 7 ∧ c0.2.1 = e.1 := by
  obtain ⟨-, -, -, -, -, -, i7⟩ := q9vis_inv hN hv
  have h1 := q9en_of he
  have hl := (q9en_lt he).2
  have l1 := q9stP_len (c := c)
  rw [List.getElem?_reverse (by omega)] at h1
  obtain ⟨k1, k2, ⟨c0, b1, b2, b3, b4, -⟩, -⟩ := i7 _ _ h1 (by omega)
  exact ⟨k1, k2, c0, b1, b2, b3, b4⟩
/-- where an unclosed repeat began -/
theorem q9ab_en (hN : 0 ≤ N) {c : q9CF9} {q : q9TE9} {st : List q9TE9} (hv : q9visI T N P J c) (hst : c.2.2 = q :: st) (h8 : q9lkI T N c = 8) {a j : Int} (ha : q.2.1 = a) {p : q9CF9 → Prop} (h : q9atI T N P J a p) : ∃ c0, q9visI T N P J c0 ∧ c0.1 = a ∧ p c0 ∧ (∀ e, q9enI c0 j = some e → ∃ e', q9enI c j = some e' ∧ e'.1 = e.1 ∧ e'.2.1 = e.2.1) ∧ c0.2.2.length + 1 = c.2.2.length := by
  have l8 := q9lk8_len h8
  have l1 := q9stP_len (c := c)
  obtain ⟨c0, b1, b2, b3, b4, b5, b6⟩ := q9vis_ab hN hv 0 _ (q9top_of hst) (by omega)
  have b5 : c0.1 = q.2.1 := b5
  have l2 := q9stP_len (c := c0)
  have l3 : c0.2.2.length + 1 = c.2.2.length := by
    rw [b6, List.length_drop] at l2
    omega
  refine ⟨c0, b1, by rw [b5, ha], q9th_at_of b1 (by rw [b5, ha]) h, fun e he => ?_, l3⟩
  have h0 := (q9en_lt he).1
  have h1 := q9en_of he
  refine q9en_to (o := (e.1, e.2.1)) h0 ?_
  have hl := (q9en_lt he).2
  cases hs : q9th_stP c with
  | nil => rw [hs] at l1; exact absurd l1 (by rw [List.length_nil]; omega)
  | cons o L =>
    rw [hs] at b6
    have b6 : q9th_stP c0 = L := b6
    rw [List.reverse_cons, List.getElem?_append_left (by rw [List.length_reverse, ← b6]; omega), ← b6]
    exact h1
end FIN
section CST2
variable {T : Int → Int} {N P : Int} {J : Int → Int}
theorem q9or_of {x y : Int32} : (x ||| y).toInt = q9orI x.toInt y.toInt := by
  unfold q9orI
  rw [q9oI_of, q9oI_of]
theorem q9sm_nat {x : Int32} (h : 0 ≤ x.toInt ∧ x.toInt ≤ 255) : x.toBitVec.toNat < 2 ^ 8 := by
  have e : x.toInt = x.toBitVec.toInt := rfl
  have h1 := BitVec.toInt_eq_toNat_cond x.toBitVec
  have h2 := x.toBitVec.isLt
  rw [e, h1] at h
  split at h <;> omega
theorem q9nat_sm {x : Int32} (h : x.toBitVec.toNat < 2 ^ 8) : 0 ≤ x.toInt ∧ x.toInt ≤ 255 := by
  have e : x.toInt = x.toBitVec.toInt := rfl
  have h1 := BitVec.toInt_eq_toNat_cond x.toBitVec
  rw [e, h1]
  split <;> omega
theorem q9or_sm {x y : Int32} (h : 0 ≤ x.toInt ∧ x.toInt ≤ 255) (h' : 0 ≤ y.toInt ∧ y.toInt ≤ 255) : 0 ≤ (x ||| y).toInt ∧ (x ||| y).toInt ≤ 255 := by
  apply q9nat_sm
  rw [show (x ||| y).toBitVec = x.toBitVec ||| y.toBitVec from rfl, BitVec.toNat_or]
  exact Nat.or_lt_two_pow (q9sm_nat h) (q9sm_nat h')
theorem q9or_rng {u w : Int} (h : 0 ≤ u ∧ u ≤ 255) (h' : 0 ≤ w ∧ w ≤ 255) : 0 ≤ q9orI u w ∧ q9orI u w ≤ 255 := q9or_sm (by rw [q9oI_toInt (by omega)]; exact h) (by rw [q9oI_toInt (by omega)]; exact h')
theorem q9agw_rng {a v : Int} (h : q9agw T N a = some v) : 0 ≤ v ∧ v ≤ 255 := by
  unfold q9agw at h
  split at h
  · rename_i hc
    have h := Option.some.inj h
    subst h
    generalize q9nvI T N (q9spI T N a) 0 = n at hc ⊢
    have hn : n = 0 ∨ n = 1 ∨ n = 2 ∨ n = 3 ∨ n = 4 ∨ n = 5 ∨ n = 6 ∨ n = 7 := by omega
    rcases hn with rfl | rfl | rfl | rfl | rfl | rfl | rfl | rfl <;> decide
  · cases h
theorem q9agS_lt {p p' : Int} (h : q9agS T N P J p p') : p < p' := by
  obtain ⟨-, -, h3⟩ := h
  have h1 := (q9aim_G (T := T) (N := N) (P := P) (J := J) p).1
  have h2 := q9sp_ge (T := T) (N := N) (i := (q9aimI T N P J p).2)
  omega
theorem q9agK_one : ∀ {k : Nat} {a p p' v v' : Int}, q9agK T N P J k a p v → q9agK T N P J k a p' v' → p' = p ∧ v' = v
  | 0, _, _, _, _, _, h, h' => ⟨h'.1.trans h.1.symm, h'.2.trans h.2.symm⟩
  | k + 1, _, _, _, _, _, h, h' => by
    obtain ⟨p0, v0, w, h1, h2, h3, h4⟩ := h
    obtain ⟨p0', v0', w', h1', h2', h3', h4'⟩ := h'
    obtain ⟨e1, e2⟩ := q9agK_one h1 h1'
    subst e1
    subst e2
    rw [h3] at h3'
    cases h3'
    exact ⟨h2'.2.2.trans h2.2.2.symm, h4'.trans h4.symm⟩
/-- an earlier aim is followed by another -/
theorem q9agK_st {k : Nat} {a : Int} : ∀ {m : Nat} {p' v' : Int}, q9agK T N P J (k + 1 + m) a p' v' → ∃ p v q, q9agK T N P J k a p v ∧ q9agS T N P J p q ∧ q ≤ p'
  | 0, _, _, h => by
    obtain ⟨p0, v0, w, h1, h2, -⟩ := h
    exact ⟨p0, v0, _, h1, h2, Int.le_refl _⟩
  | m + 1, _, _, h => by
    obtain ⟨p0, v0, w, h1, h2, -⟩ := h
    obtain ⟨p, v, q, g1, g2, g3⟩ := q9agK_st (m := m) h1
    have := q9agS_lt h2
    exact ⟨p, v, q, g1, g2, by omega⟩
theorem q9agE_one {a p v v' : Int} (h : q9agE T N P J a p v) (h' : q9agE T N P J a p v') : v' = v := by
  obtain ⟨k, hk⟩ := h
  obtain ⟨k', hk'⟩ := h'
  rcases Nat.lt_trichotomy k k' with hh | hh | hh
  · obtain ⟨m, rfl⟩ : ∃ m, k' = k + 1 + m := ⟨k' - (k + 1), by omega⟩
    obtain ⟨p0, v0, q, g1, g2, g3⟩ := q9agK_st hk'
    obtain ⟨e1, -⟩ := q9agK_one hk g1
    have := q9agS_lt g2
    omega
  · subst hh
    exact (q9agK_one hk hk').2
  · obtain ⟨m, rfl⟩ : ∃ m, k = k' + 1 + m := ⟨k - (k' + 1), by omega⟩
    obtain ⟨p0, v0, q, g1, g2, g3⟩ := q9agK_st hk
    obtain ⟨e1, -⟩ := q9agK_one hk' g1
    have := q9agS_lt g2
    omega
theorem q9agA_one {a v v' : Int} (h : q9agA T N P J a v) (h' : q9agA T N P J a v') : v' = v := by
  obtain ⟨p, u, w, ⟨k, hk⟩, h2, h3, h4, h5⟩ := h
  obtain ⟨p', u', w', ⟨k', hk'⟩, h2', h3', h4', h5'⟩ := h'
  rcases Nat.lt_trichotomy k k' with hh | hh | hh
  · obtain ⟨m, rfl⟩ : ∃ m, k' = k + 1 + m := ⟨k' - (k + 1), by omega⟩
    obtain ⟨p0, v0, q, g1, g2, g3⟩ := q9agK_st hk'
    obtain ⟨e1, -⟩ := q9agK_one hk g1
    subst e1
    exact absurd g2.2.1 h3
  · subst hh
    obtain ⟨e1, e2⟩ := q9agK_one hk hk'
    subst e1
    subst e2
    rw [h4] at h4'
    cases h4'
    rw [h5, h5']
  · obtain ⟨m, rfl⟩ : ∃ m, k = k' + 1 + m := ⟨k - (k' + 1), by omega⟩
    obtain ⟨p0, v0, q, g1, g2, g3⟩ := q9agK_st hk
    obtain ⟨e1, -⟩ := q9agK_one hk' g1
    subst e1
    exact absurd g2.2.1 h3'
theorem q9agK_rng : ∀ {k : Nat} {a p v : Int}, q9agK T N P J k a p v → 0 ≤ v ∧ v ≤ 255
  | 0, _, _, _, h => by
    have := h.2
    omega
  | k + 1, _, _, _, h => by
    obtain ⟨p0, v0, w, h1, -, h3, h4⟩ := h
    rw [h4]
    exact q9or_rng (q9agK_rng h1) (q9agw_rng h3)
theorem q9agE_rng {a p v : Int} (h : q9agE T N P J a p v) : 0 ≤ v ∧ v ≤ 255 := by
  obtain ⟨k, hk⟩ := h
  exact q9agK_rng hk
theorem q9agA_rng {a v : Int} (h : q9agA T N P J a v) : 0 ≤ v ∧ v ≤ 255 := by
  obtain ⟨p, u, w, h1, -, -, h4, h5⟩ := h
  rw [h5]
  exact q9or_rng (q9agE_rng h1) (q9agw_rng h4)
theorem q9bg_one {c c' : q9CF9} (h : q9bgC T N P J c) (h' : q9bgC T N P J c') (e : c.2.1 = c'.2.1) : c = c' := by
  have key : ∀ {n m : Nat} {c c' : q9CF9}, n < m → q9trI T N P J n = some c → q9lkI T N c ≠ 8 → q9trI T N P J m = some c' → c.2.1 < c'.2.1 := by
    intro n m c c' hlt h1 h2 h3
    obtain ⟨c1, g1, -⟩ := q9tr_nx hlt h1 h3
    have h4 : q9trI T N P J (n + 1) = some c1 := by
      show (q9trI T N P J n).bind (q9th_nxI T N P J) = _
      rw [h1]
      exact g1
    have h6 := q9sz_nx g1
    rw [if_neg h2] at h6
    have h7 := q9sz_mono (by omega) h4 h3
    omega
  obtain ⟨⟨n, hn⟩, h8, -⟩ := h
  obtain ⟨⟨m, hm⟩, h8', -⟩ := h'
  rcases Nat.lt_trichotomy n m with h1 | h1 | h1
  · have := key h1 hn h8 hm
    omega
  · subst h1
    rw [hn] at hm
    exact Option.some.inj hm
  · have := key h1 hm h8' hn
    omega
theorem q9lbE_one {z v v' : Int} (h : q9lbE T N P J z v) (h' : q9lbE T N P J z v') : v' = v := by
  obtain ⟨c, h1, h2, h3⟩ := h
  obtain ⟨c', h1', h2', h3'⟩ := h'
  have := q9bg_one h1 h1' (h2.trans h2'.symm)
  subst this
  rcases h3 with ⟨a1, a2⟩ | ⟨a1, a3, a2⟩ | ⟨a1, a2⟩ <;> rcases h3' with ⟨b1, b2⟩ | ⟨b1, b3, b2⟩ | ⟨b1, b2⟩
  · exact q9agA_one a2 b2
  · omega
  · omega
  · omega
  · rw [a2] at b2
    exact (Option.some.inj b2).symm
  · omega
  · omega
  · omega
  · omega
theorem q9lsE_one {z v v' : Int} (h : q9lsE T N P J z v) (h' : q9lsE T N P J z v') : v' = v := by
  obtain ⟨c, h1, h2, h3⟩ := h
  obtain ⟨c', h1', h2', h3'⟩ := h'
  have := q9bg_one h1 h1' (h2.trans h2'.symm)
  subst this
  rcases h3 with ⟨a1, a2⟩ | ⟨a1, a2⟩ <;> rcases h3' with ⟨b1, b2⟩ | ⟨b1, b2⟩
  · rw [a2] at b2
    exact (Option.some.inj b2).symm
  · omega
  · omega
  · omega
theorem q9lbE_rng {z v : Int} (h : q9lbE T N P J z v) : 0 ≤ v ∧ v ≤ 255 := by
  obtain ⟨c, -, -, h3⟩ := h
  rcases h3 with ⟨-, a2⟩ | ⟨-, -, a2⟩ | ⟨-, a2⟩
  · exact q9agA_rng a2
  · exact q9agw_rng a2
  · omega
theorem q9lsE_rng {z v : Int} (h : q9lsE T N P J z v) : 0 ≤ v ∧ v ≤ 255 := by
  obtain ⟨c, -, -, h3⟩ := h
  rcases h3 with ⟨-, a2⟩ | ⟨-, a2⟩
  · exact q9agw_rng a2
  · omega
theorem q9agE_V {a p v : Int} (h : q9agE T N P J a p v) : chV (fun v => q9agE T N P J a p v) = some v := q9chV_to (fun _ h' => q9agE_one h h') h
theorem q9agA_V {a v : Int} (h : q9agA T N P J a v) : chV (fun v => q9agA T N P J a v) = some v := q9chV_to (fun _ h' => q9agA_one h h') h
theorem q9lbE_V {z v : Int} (h : q9lbE T N P J z v) : chV (fun v => q9lbE T N P J z v) = some v := q9chV_to (fun _ h' => q9lbE_one h h') h
theorem q9lsE_V {z v : Int} (h : q9lsE T N P J z v) : chV (fun v => q9lsE T N P J z v) = some v := q9chV_to (fun _ h' => q9lsE_one h h') h
theorem q9clF_s {k : Nat} {u w : Int} (h1 : clF T N P J k = some u) (h2 : q9lbE T N P J (k : Int) w) : clF T N P J (k + 1) = some (q9orI u w) := by
  show (clF T N P J k).bind _ = _
  rw [h1]
  show (chV fun v => q9lbE T N P J (k : Int) v).map (q9orI u) = _
  rw [q9lbE_V h2]
  rfl
theorem q9csF_s {k : Nat} {u w : Int} (h1 : csF T N P J k = some u) (h2 : q9lsE T N P J (k : Int) w) : csF T N P J (k + 1) = some (q9orI u w) := by
  show (csF T N P J k).bind _ = _
  rw [h1]
  show (chV fun v => q9lsE T N P J (k : Int) v).map (q9orI u) = _
  rw [q9lsE_V h2]
  rfl
theorem q9clF_rng : ∀ {k : Nat} {u : Int}, clF T N P J k = some u → 0 ≤ u ∧ u ≤ 255
  | 0, u, h => by
    have h : (0 : Int) = u := Option.some.inj h
    omega
  | k + 1, u, h => by
    have h : (clF T N P J k).bind (fun u => (chV fun v => q9lbE T N P J (k : Int) v).map (q9orI u)) = some u := h
    cases h1 : clF T N P J k with
    | none => rw [h1] at h; cases h
    | some u0 =>
      rw [h1] at h
      have h : (chV fun v => q9lbE T N P J (k : Int) v).map (q9orI u0) = some u := h
      cases h2 : chV (fun v => q9lbE T N P J (k : Int) v) with
      | none => rw [h2] at h; cases h
      | some w =>
        rw [h2] at h
        have h := Option.some.inj h
        rw [← h]
        exact q9or_rng (q9clF_rng h1) (q9lbE_rng (q9chV_of h2))
theorem q9csF_rng : ∀ {k : Nat} {u : Int}, csF T N P J k = some u → 0 ≤ u ∧ u ≤ 255
  | 0, u, h => by
    have h : (0 : Int) = u := Option.some.inj h
    omega
  | k + 1, u, h => by
    have h : (csF T N P J k).bind (fun u => (chV fun v => q9lsE T N P J (k : Int) v).map (q9orI u)) = some u := h
    cases h1 : csF T N P J k with
    | none => rw [h1] at h; cases h
    | some u0 =>
      rw [h1] at h
      have h : (chV fun v => q9lsE T N P J (k : Int) v).map (q9orI u0) = some u := h
      cases h2 : chV (fun v => q9lsE T N P J (k : Int) v) with
      | none => rw [h2] at h; cases h
      | some w =>
        rw [h2] at h
        have h := Option.some.inj h
        rw [← h]
        exact q9or_rng (q9csF_rng h1) (q9lsE_rng (q9chV_of h2))
end CST2
