/-! a model of a text: bytes by places, what is read of them -/
def q9th_mkI (v : Int) : Option Value := if -2147483648 ≤ v ∧ v ≤ 2147483647 then some (.int (Int32.ofInt v)) else none
theorem q9oI_toInt {v : Int} (h : -2147483648 ≤ v ∧ v ≤ 2147483647) : (Int32.ofInt v).toInt = v := Int32.toInt_ofInt_of_le (by omega) (by omega)
theorem q9mkI_of {v : Int} {x : Int32} (h : q9th_mkI v = some (.int x)) : v = x.toInt := by
  unfold q9th_mkI at h
  split at h
  · rename_i hc
    have h := Value.int.inj (Option.some.inj h)
    rw [← h, q9oI_toInt hc]
  · cases h
theorem q9mkI_to {v : Int} {x : Int32} (h : v = x.toInt) : q9th_mkI v = some (.int x) := by
  subst h
  have h1 := Int32.le_toInt x
  have h2 := Int32.toInt_lt x
  unfold q9th_mkI
  rw [if_pos (by omega), Int32.toInt_inj.mp (q9oI_toInt (by omega))]
theorem q9mkI_V {v : Int} {w : Value} (h : q9th_mkI v = some w) : ∃ x : Int32, w = .int x ∧ v = x.toInt := by
  unfold q9th_mkI at h
  split at h
  · rename_i hc
    exact ⟨_, (Option.some.inj h).symm, (q9oI_toInt hc).symm⟩
  · cases h
/-- how far something goes on from a place -/
def q9scI (p : Int → Bool) : Nat → Int → Int
  | 0, i => i
  | k + 1, i => if p i = true then q9scI p k (i + 1) else i
def q9scN (p : Int → Bool) (N i : Int) : Int := q9scI p (N - i).toNat i
theorem q9scN_yes {p : Int → Bool} {N i : Int} (hN : i < N) (h : p i = true) : q9scN p N i = q9scN p N (i + 1) := by
  unfold q9scN
  rw [show (N - i).toNat = (N - (i + 1)).toNat + 1 by omega]
  show (if p i = true then _ else _) = _
  rw [if_pos h]
theorem q9scN_no {p : Int → Bool} {N i : Int} (h : p i = false) : q9scN p N i = i := by
  unfold q9scN
  cases (N - i).toNat with
  | zero => rfl
  | succ k =>
    show (if p i = true then _ else _) = _
    rw [if_neg (by rw [h]; exact Bool.false_ne_true)]
theorem q9scI_ge {p : Int → Bool} : ∀ (k : Nat) (i : Int), i ≤ q9scI p k i
  | 0, i => Int.le_refl _
  | k + 1, i => by
    unfold q9scI
    split
    · exact Int.le_trans (by omega) (q9scI_ge k (i + 1))
    · exact Int.le_refl _
theorem q9scN_ge {p : Int → Bool} {N i : Int} : i ≤ q9scN p N i := q9scI_ge _ _
theorem q9scI_le {p : Int → Bool} : ∀ (k : Nat) (i : Int), q9scI p k i ≤ i + k
  | 0, i => by
    show i ≤ _
    omega
  | k + 1, i => by
    unfold q9scI
    split
    · have := q9scI_le (p := p) k (i + 1)
      omega
    · omega
theorem q9scN_le {p : Int → Bool} {N i : Int} : q9scN p N i ≤ max i N := by
  have := q9scI_le (p := p) (N - i).toNat i
  unfold q9scN
  omega
theorem q9scI_all {p : Int → Bool} : ∀ (k : Nat) (i j : Int), i ≤ j → j < q9scI p k i → p j = true
  | 0, i, j, h1, h2 => by
    have h2 : j < i := h2
    omega
  | k + 1, i, j, h1, h2 => by
    unfold q9scI at h2
    split at h2
    · rename_i hp
      by_cases hj : j = i
      · rw [hj]
        exact hp
      · exact q9scI_all k (i + 1) j (by omega) h2
    · omega
theorem q9scI_stop {p : Int → Bool} {N : Int} (hp : ∀ i, p i = true → i < N) : ∀ (k : Nat) (i : Int), N - i ≤ k → p (q9scI p k i) = false
  | 0, i, h => by
    show p i = false
    cases hi : p i with
    | false => rfl
    | true =>
      have := hp i hi
      omega
  | k + 1, i, h => by
    unfold q9scI
    split
    · exact q9scI_stop hp k (i + 1) (by omega)
    · rename_i hn
      cases hi : p i with
      | false => rfl
      | true => exact absurd hi hn
theorem q9scN_stop {p : Int → Bool} {N i : Int} (hp : ∀ i, p i = true → i < N) : p (q9scN p N i) = false := q9scI_stop hp _ _ (by omega)
def q9byI (T : Int → Int) (N i : Int) : Int := if 0 ≤ i ∧ i < N then T i else -1
theorem q9byI_lt {T : Int → Int} {N i : Int} (h : 0 ≤ q9byI T N i) : 0 ≤ i ∧ i < N := by
  unfold q9byI at h
  split at h
  · assumption
  · omega
def q9isBl (T : Int → Int) (N i : Int) : Bool := decide (q9byI T N i = 32)
def q9isLe (T : Int → Int) (N i : Int) : Bool := decide (97 ≤ q9byI T N i ∧ q9byI T N i ≤ 122)
def q9isDi (T : Int → Int) (N i : Int) : Bool := decide (48 ≤ q9byI T N i ∧ q9byI T N i ≤ 57)
theorem q9isBl_lt {T : Int → Int} {N i : Int} (h : q9isBl T N i = true) : i < N := by
  have h := of_decide_eq_true h
  exact (q9byI_lt (T := T) (N := N) (i := i) (by omega)).2
theorem q9isLe_lt {T : Int → Int} {N i : Int} (h : q9isLe T N i = true) : i < N := by
  have h := of_decide_eq_true h
  exact (q9byI_lt (T := T) (N := N) (i := i) (by omega)).2
theorem q9isDi_lt {T : Int → Int} {N i : Int} (h : q9isDi T N i = true) : i < N := by
  have h := of_decide_eq_true h
  exact (q9byI_lt (T := T) (N := N) (i := i) (by omega)).2
def q9spI (T : Int → Int) (N i : Int) : Int := q9scN (q9isBl T N) N i
def q9weI (T : Int → Int) (N i : Int) : Int := q9scN (q9isLe T N) N i
def q9deI (T : Int → Int) (N i : Int) : Int := q9scN (q9isDi T N) N i
/-- a number's value -/
def q9nvF (b : Int → Int) : Nat → Int → Int → Int
  | 0, _, v => v
  | k + 1, i, v => if 48 ≤ b i ∧ b i ≤ 57 then q9nvF b k (i + 1) (min 1000000 (10 * v + (b i - 48))) else v
def q9nvI (T : Int → Int) (N i v : Int) : Int := q9nvF (q9byI T N) (N - i).toNat i (min 1000000 (max 0 v))
theorem q9nvI_yes {T : Int → Int} {N i v : Int} (h1 : 48 ≤ q9byI T N i) (h2 : q9byI T N i ≤ 57) (hv : 0 ≤ v) : q9nvI T N i v = q9nvI T N (i + 1) (10 * v + (q9byI T N i - 48)) := by
  have h3 := q9byI_lt (T := T) (N := N) (i := i) (by omega)
  unfold q9nvI
  rw [show (N - i).toNat = (N - (i + 1)).toNat + 1 by omega]
  show (if 48 ≤ q9byI T N i ∧ q9byI T N i ≤ 57 then _ else _) = _
  rw [if_pos ⟨h1, h2⟩]
  congr 1
  omega
theorem q9nvI_no {T : Int → Int} {N i v : Int} (h : q9byI T N i ≤ 47 ∨ 58 ≤ q9byI T N i) (hv : 0 ≤ v) : q9nvI T N i v = min 1000000 v := by
  unfold q9nvI
  have e : min 1000000 (max 0 v) = min 1000000 v := by omega
  rw [e]
  cases (N - i).toNat with
  | zero => rfl
  | succ k =>
    show (if 48 ≤ q9byI T N i ∧ q9byI T N i ≤ 57 then _ else _) = _
    rw [if_neg (by omega)]
theorem q9nvF_rng {b : Int → Int} : ∀ (k : Nat) (i v : Int), 0 ≤ v → v ≤ 1000000 → 0 ≤ q9nvF b k i v ∧ q9nvF b k i v ≤ 1000000
  | 0, _, v, h1, h2 => ⟨h1, h2⟩
  | k + 1, i, v, h1, h2 => by
    unfold q9nvF
    split
    · exact q9nvF_rng k _ _ (by omega) (by omega)
    · exact ⟨h1, h2⟩
theorem q9nvI_rng {T : Int → Int} {N i v : Int} : 0 ≤ q9nvI T N i v ∧ q9nvI T N i v ≤ 1000000 := q9nvF_rng _ _ _ (by omega) (by omega)
/-- the number that a word is packed into -/
def q9vrF (b : Int → Int) : Nat → Int → Int32 → Int32
  | 0, _, v => v
  | k + 1, i, v => if 97 ≤ b i ∧ b i ≤ 122 then q9vrF b k (i + 1) ((v <<< 5) ||| Int32.ofInt (b i - 96)) else v
def q9vrI (T : Int → Int) (N i : Int) (v : Int32) : Int32 := q9vrF (q9byI T N) (N - i).toNat i v
theorem q9vrI_yes {T : Int → Int} {N i : Int} {v : Int32} (h1 : 97 ≤ q9byI T N i) (h2 : q9byI T N i ≤ 122) : q9vrI T N i v = q9vrI T N (i + 1) ((v <<< 5) ||| Int32.ofInt (q9byI T N i - 96)) := by
  have h3 := q9byI_lt (T := T) (N := N) (i := i) (by omega)
  unfold q9vrI
  rw [show (N - i).toNat = (N - (i + 1)).toNat + 1 by omega]
  show (if 97 ≤ q9byI T N i ∧ q9byI T N i ≤ 122 then _ else _) = _
  rw [if_pos ⟨h1, h2⟩]
theorem q9vrI_no {T : Int → Int} {N i : Int} {v : Int32} (h : q9byI T N i ≤ 96 ∨ 123 ≤ q9byI T N i) : q9vrI T N i v = v := by
  unfold q9vrI
  cases (N - i).toNat with
  | zero => rfl
  | succ k =>
    show (if 97 ≤ q9byI T N i ∧ q9byI T N i ≤ 122 then _ else _) = _
    rw [if_neg (by omega)]
/-- is it that word -/
def q9wiI (T : Int → Int) (N : Int) (l : List Int) (i : Int) : Int := if q9weI T N i - i = l.length ∧ (∀ j : Nat, j < l.length → q9byI T N (i + j) = l.getD j 0) then 1 else 0
def q9wcI (T : Int → Int) (N i : Int) : Int := if q9weI T N i ≤ i + 6 then (q9vrI T N i 0).toInt else 0
def q9TXW : List (List Int) := [[104, 111, 108, 100], [109, 111, 118, 101], [115, 97, 121], [116, 105, 101], [102, 114, 101, 101], [114, 105, 103], [99, 97, 109, 101, 114, 97], [114, 101, 112, 101, 97, 116], [105, 110], [115, 108, 111, 119], [115, 111, 102, 116], [98, 111, 116, 104], [101, 118, 101, 110], [97, 116], [111, 110], [111, 102, 102], [112, 97, 110], [116, 105, 108, 116], [116, 114, 97, 99, 107]]
def q9wsI (T : Int → Int) (N : Int) (t : Nat) (i : Int) : Int := q9wiI T N (q9TXW.getD t []) i
/-- the letters from a place on, packed -/
def q9pkZ (b : Int → Int) : Nat → Int → Int → Int
  | 0, _, v => v
  | n + 1, i, v => q9pkZ b n (i + 1) (v * 32 + (b i - 96))
theorem q9pk_step {v : Int32} {c : Int} (h1 : 0 ≤ v.toInt) (h2 : v.toInt < 33554432) (h3 : 0 ≤ c) (h4 : c < 32) : ((v <<< 5) ||| Int32.ofInt c).toInt = v.toInt * 32 + c := by
  have hv : v.toBitVec.toNat = v.toInt.toNat := by
    have e : v.toInt = v.toBitVec.toInt := rfl
    rw [BitVec.toInt_eq_toNat_cond] at e
    have := v.toBitVec.isLt
    split at e
    · omega
    · omega
  have hc : (Int32.ofInt c).toBitVec.toNat = c.toNat := by
    have e : (Int32.ofInt c).toInt = (Int32.ofInt c).toBitVec.toInt := rfl
    rw [q9oI_toInt (by omega), BitVec.toInt_eq_toNat_cond] at e
    have := (Int32.ofInt c).toBitVec.isLt
    split at e
    · omega
    · omega
  have hs : ((v <<< 5) ||| Int32.ofInt c).toBitVec.toNat = v.toInt.toNat * 32 + c.toNat := by
    have e1 : ((v <<< 5) ||| Int32.ofInt c).toBitVec = (v.toBitVec <<< 5) ||| (Int32.ofInt c).toBitVec := rfl
    rw [e1, BitVec.toNat_or, BitVec.toNat_shiftLeft, hv, hc, Nat.shiftLeft_eq, Nat.mod_eq_of_lt (by omega), show (2 : Nat) ^ 5 = 32 from rfl]
    have := Nat.shiftLeft_add_eq_or_of_lt (i := 5) (b := c.toNat) (by omega) v.toInt.toNat
    rw [Nat.shiftLeft_eq, show (2 : Nat) ^ 5 = 32 from rfl] at this
    exact this.symm
  have e : ((v <<< 5) ||| Int32.ofInt c).toInt = ((v <<< 5) ||| Int32.ofInt c).toBitVec.toInt := rfl
  rw [e, BitVec.toInt_eq_toNat_cond, hs, if_pos (by omega)]
  omega
theorem q9pkZ_rng {b : Int → Int} : ∀ (n k : Nat) (i v : Int), (∀ j : Nat, j < n → 97 ≤ b (i + j) ∧ b (i + j) ≤ 122) → 0 ≤ v → v < 32 ^ k → 0 ≤ q9pkZ b n i v ∧ q9pkZ b n i v < 32 ^ (k + n)
  | 0, k, i, v, _, h1, h2 => ⟨h1, h2⟩
  | n + 1, k, i, v, h, h1, h2 => by
    have h0 := h 0 (by omega)
    rw [show i + ((0 : Nat) : Int) = i by omega] at h0
    have e : (32 : Int) ^ (k + 1) = 32 ^ k * 32 := Int.pow_succ 32 k
    have := q9pkZ_rng n (k + 1) (i + 1) (v * 32 + (b i - 96)) (fun j hj => by
      have := h (j + 1) (by omega)
      rw [show i + 1 + (j : Int) = i + ((j + 1 : Nat) : Int) by omega]
      exact this) (by omega) (by omega)
    rw [show k + (n + 1) = k + 1 + n by omega]
    exact this
theorem q9pkZ_snoc {b : Int → Int} : ∀ (n : Nat) (i v : Int), q9pkZ b (n + 1) i v = q9pkZ b n i v * 32 + (b (i + n) - 96)
  | 0, i, v => by
    show v * 32 + (b i - 96) = v * 32 + (b (i + ((0 : Nat) : Int)) - 96)
    rw [show i + ((0 : Nat) : Int) = i by omega]
  | n + 1, i, v => by
    show q9pkZ b (n + 1) (i + 1) (v * 32 + (b i - 96)) = q9pkZ b n (i + 1) (v * 32 + (b i - 96)) * 32 + _
    rw [q9pkZ_snoc n (i + 1), show i + 1 + (n : Int) = i + ((n + 1 : Nat) : Int) by omega]
theorem q9pkZ_pos {b : Int → Int} {n : Nat} {i : Int} (h : ∀ j : Nat, j < n → 97 ≤ b (i + j) ∧ b (i + j) ≤ 122) : 0 ≤ q9pkZ b n i 0 := (q9pkZ_rng n 0 i 0 h (by omega) (by decide)).1
theorem q9pkZ_inj {b b' : Int → Int} {i i' : Int} : ∀ (n m : Nat), (∀ j : Nat, j < n → 97 ≤ b (i + j) ∧ b (i + j) ≤ 122) → (∀ j : Nat, j < m → 97 ≤ b' (i' + j) ∧ b' (i' + j) ≤ 122) → q9pkZ b n i 0 = q9pkZ b' m i' 0 → n = m ∧ ∀ j : Nat, j < n → b (i + j) = b' (i' + j)
  | 0, 0, _, _, _ => ⟨rfl, fun j hj => by omega⟩
  | 0, m + 1, _, h2, h => by
    exfalso
    rw [q9pkZ_snoc] at h
    have h3 := q9pkZ_pos (n := m) fun j hj => h2 j (by omega)
    have h4 := h2 m (by omega)
    have h5 : q9pkZ b 0 i 0 = 0 := rfl
    omega
  | n + 1, 0, h1, _, h => by
    exfalso
    rw [q9pkZ_snoc] at h
    have h3 := q9pkZ_pos (n := n) fun j hj => h1 j (by omega)
    have h4 := h1 n (by omega)
    have h5 : q9pkZ b' 0 i' 0 = 0 := rfl
    omega
  | n + 1, m + 1, h1, h2, h => by
    rw [q9pkZ_snoc, q9pkZ_snoc] at h
    have h3 := h1 n (by omega)
    have h4 := h2 m (by omega)
    have e1 : q9pkZ b n i 0 = q9pkZ b' m i' 0 := by omega
    have e2 : b (i + n) = b' (i' + m) := by omega
    obtain ⟨e3, e4⟩ := q9pkZ_inj n m (fun j hj => h1 j (by omega)) (fun j hj => h2 j (by omega)) e1
    subst e3
    refine ⟨rfl, fun j hj => ?_⟩
    by_cases hjn : j = n
    · subst hjn
      exact e2
    · exact e4 j (by omega)
/-- a word's letters -/
theorem q9we_let {T : Int → Int} {N i : Int} (j : Nat) (h : (j : Int) < q9weI T N i - i) : 97 ≤ q9byI T N (i + j) ∧ q9byI T N (i + j) ≤ 122 := of_decide_eq_true (q9scI_all (p := q9isLe T N) _ i (i + j) (by omega) (by
  show i + (j : Int) < q9weI T N i
  omega))
theorem q9vr_pk {T : Int → Int} {N : Int} : ∀ (n k : Nat) (i : Int) (v : Int32), (q9weI T N i - i).toNat = n → k + n ≤ 6 → 0 ≤ v.toInt → v.toInt < 32 ^ k → (q9vrI T N i v).toInt = q9pkZ (q9byI T N) n i v.toInt
  | 0, k, i, v, hn, hk, h1, h2 => by
    have hge : i ≤ q9weI T N i := q9scN_ge
    have he : q9weI T N i = i := by omega
    have hs : q9isLe T N (q9weI T N i) = false := q9scN_stop fun i hi => q9isLe_lt hi
    rw [he] at hs
    have hs := of_decide_eq_false hs
    rw [q9vrI_no (by omega)]
    rfl
  | n + 1, k, i, v, hn, hk, h1, h2 => by
    have h0 := q9we_let (T := T) (N := N) (i := i) 0 (by omega)
    rw [show i + ((0 : Nat) : Int) = i by omega] at h0
    have hp : q9isLe T N i = true := decide_eq_true h0
    have he : q9weI T N i = q9weI T N (i + 1) := q9scN_yes (q9isLe_lt hp) hp
    have hk5 : (32 : Int) ^ k ≤ 33554432 := (by decide +kernel : ∀ k : Nat, k < 6 → (32 : Int) ^ k ≤ 33554432) k (by omega)
    have e : (32 : Int) ^ (k + 1) = 32 ^ k * 32 := Int.pow_succ 32 k
    have hst := q9pk_step (v := v) (c := q9byI T N i - 96) h1 (by omega) (by omega) (by omega)
    rw [q9vrI_yes h0.1 h0.2, q9vr_pk n (k + 1) (i + 1) _ (by omega) (by omega) (by omega) (by omega), hst]
    rfl
def q9wnI (t : Nat) : Int := q9pkZ (fun j => (q9TXW.getD t []).getD j.toNat 0) (q9TXW.getD t []).length 0 0
theorem q9TXW_ok : ∀ t : Nat, t < 19 → 1 ≤ (q9TXW.getD t []).length ∧ (q9TXW.getD t []).length ≤ 6 ∧ ∀ j : Nat, j < (q9TXW.getD t []).length → 97 ≤ (q9TXW.getD t []).getD j 0 ∧ (q9TXW.getD t []).getD j 0 ≤ 122 := by decide +kernel
theorem q9wnI_pos {t : Nat} (ht : t < 19) : 1 ≤ q9wnI t := by
  have : ∀ t : Nat, t < 19 → 1 ≤ q9wnI t := by decide +kernel
  exact this t ht
/-- the word's number tells which text it is -/
theorem q9ws_wc {T : Int → Int} {N : Int} {t : Nat} (ht : t < 19) {i : Int} : q9wsI T N t i = 1 ↔ q9wcI T N i = q9wnI t := by
  obtain ⟨l1, l2, l3⟩ := q9TXW_ok t ht
  have hge : i ≤ q9weI T N i := q9scN_ge
  unfold q9wsI q9wiI q9wcI
  by_cases h6 : q9weI T N i ≤ i + 6
  · rw [if_pos h6]
    have e := q9vr_pk (T := T) (N := N) (q9weI T N i - i).toNat 0 i 0 rfl (by omega) (by decide) (by decide)
    rw [e]
    have e0 : (0 : Int32).toInt = 0 := by decide
    rw [e0]
    constructor
    · intro h
      split at h
      · rename_i hc
        obtain ⟨c1, c2⟩ := hc
        have en : (q9weI T N i - i).toNat = (q9TXW.getD t []).length := by omega
        unfold q9wnI
        rw [en]
        have key : ∀ (n : Nat) (p p' v : Int), n ≤ (q9TXW.getD t []).length → p = i + ((q9TXW.getD t []).length - n : Nat) → p' = ((q9TXW.getD t []).length - n : Nat) → q9pkZ (q9byI T N) n p v = q9pkZ (fun j => (q9TXW.getD t []).getD j.toNat 0) n p' v := by
          intro n
          induction n with
          | zero => intros; rfl
          | succ n ih =>
            intro p p' v hn hp hp'
            show q9pkZ _ n (p + 1) _ = q9pkZ _ n (p' + 1) _
            have e2 := c2 ((q9TXW.getD t []).length - (n + 1)) (by omega)
            rw [← hp] at e2
            have e3 : p'.toNat = (q9TXW.getD t []).length - (n + 1) := by omega
            rw [e2]
            dsimp only
            rw [e3]
            exact ih (p + 1) (p' + 1) _ (by omega) (by omega) (by omega)
        exact key _ i 0 0 (Nat.le_refl _) (by omega) (by omega)
      · omega
    · intro h
      unfold q9wnI at h
      obtain ⟨e1, e2⟩ := q9pkZ_inj (i := i) (i' := 0) _ _ (fun j hj => q9we_let j (by omega)) (fun j hj => by
        rw [show (0 : Int) + (j : Int) = j by omega, Int.toNat_natCast]
        exact l3 j hj) h
      rw [if_pos ⟨by omega, fun j hj => by
        rw [e2 j (by omega), show (0 : Int) + (j : Int) = j by omega, Int.toNat_natCast]⟩]
  · rw [if_neg h6, if_neg (by omega)]
    have := q9wnI_pos ht
    omega
theorem q9ws_01 {T : Int → Int} {N : Int} {t : Nat} {i : Int} : q9wsI T N t i = 1 ∨ q9wsI T N t i = 0 := by
  unfold q9wsI q9wiI
  split
  · exact .inl rfl
  · exact .inr rfl
def q9kbI (T : Int → Int) (N i : Int) : Int := if q9wsI T N 0 i = 1 then 0 else if q9wsI T N 1 i = 1 then 1 else if q9wsI T N 2 i = 1 then 2 else if q9wsI T N 3 i = 1 then 3 else if q9wsI T N 4 i = 1 then 4 else if q9wsI T N 5 i = 1 then 5 else if q9wsI T N 6 i = 1 then 6 else if q9wsI T N 7 i = 1 then 7 else -1
def q9koI (v : Int) : Int := if v = 277892 then 0 else if v = 442053 then 1 else if v = 19513 then 2 else if v = 20773 then 3 else if v = 215205 then 4 else if v = 18727 then 5 else if v = 102143553 then 6 else if v = 609752116 then 7 else -1
theorem q9kb_ko {T : Int → Int} {N i : Int} : q9kbI T N i = q9koI (q9wcI T N i) := by
  have e : ∀ t : Nat, t < 8 → (q9wsI T N t i = 1 ↔ q9wcI T N i = [277892, 442053, 19513, 20773, 215205, 18727, 102143553, 609752116].getD t 0) := fun t ht => by
    rw [q9ws_wc (by omega)]
    have : ∀ t : Nat, t < 8 → q9wnI t = [277892, 442053, 19513, 20773, 215205, 18727, 102143553, 609752116].getD t 0 := by decide +kernel
    rw [this t ht]
  unfold q9kbI q9koI
  exact ite_congr (propext (e 0 (by omega))) (fun _ => rfl) (fun _ => ite_congr (propext (e 1 (by omega))) (fun _ => rfl) (fun _ => ite_congr (propext (e 2 (by omega))) (fun _ => rfl) (fun _ => ite_congr (propext (e 3 (by omega))) (fun _ => rfl) (fun _ => ite_congr (propext (e 4 (by omega))) (fun _ => rfl) (fun _ => ite_congr (propext (e 5 (by omega))) (fun _ => rfl) (fun _ => ite_congr (propext (e 6 (by omega))) (fun _ => rfl) (fun _ => ite_congr (propext (e 7 (by omega))) (fun _ => rfl) (fun _ => rfl))))))))
/-! grammar: a kind of fault (0: none) and a place -/
abbrev q9TK2 : Type := Int × Int
def q9tkN (T : Int → Int) (N lo hi a : Int) : q9TK2 := if q9deI T N (q9spI T N a) ≤ q9spI T N a then (1, q9spI T N a) else if lo ≤ q9nvI T N (q9spI T N a) 0 ∧ q9nvI T N (q9spI T N a) 0 ≤ hi then (0, q9deI T N (q9spI T N a)) else (2, q9spI T N a)
def q9tkW (T : Int → Int) (N : Int) (ts : List Nat) (a : Int) : q9TK2 := if ∃ t ∈ ts, q9wsI T N t (q9spI T N a) = 1 then (0, q9weI T N (q9spI T N a)) else (1, q9spI T N a)
def q9tkS (T : Int → Int) (N s a : Int) : q9TK2 := if q9byI T N (q9spI T N a) = s then (0, q9spI T N a + 1) else (1, q9spI T N a)
def q9tk12 (T : Int → Int) (N a : Int) : q9TK2 := if 1 ≤ q9weI T N (q9spI T N a) - q9spI T N a ∧ q9weI T N (q9spI T N a) - q9spI T N a ≤ 20 then (0, q9weI T N (q9spI T N a)) else (1, q9spI T N a)
def q9tk13 (T : Int → Int) (N a : Int) : q9TK2 := if 97 ≤ q9byI T N (q9spI T N a) ∧ q9byI T N (q9spI T N a) ≤ 122 then q9tkW T N [9, 10, 11, 12] a else (0, q9spI T N a)
def q9tk14 (T : Int → Int) (N a : Int) : q9TK2 := if q9byI T N (q9spI T N a) = 45 then (0, q9spI T N a + 1) else (0, q9spI T N a)
def q9tkR : List (Int → q9TK2) → Int → q9TK2
  | [], a => (0, a)
  | t :: ts, a => if (t a).1 = 0 then q9tkR ts (t a).2 else t a
def q9aimL (T : Int → Int) (N P : Int) (J : Int → Int) (a : Int) : List (Int → q9TK2) := [q9tkN T N 0 (P - 1), q9tkS T N 46, q9tkN T N 0 (J (q9nvI T N (q9spI T N a) 0) - 1), q9tk14 T N, q9tkN T N 0 32]
def q9aimI (T : Int → Int) (N P : Int) (J : Int → Int) (a : Int) : q9TK2 := q9tkR (q9aimL T N P J a) a
def q9aimF (T : Int → Int) (N P : Int) (J : Int → Int) : Nat → Int → q9TK2
  | 0, a => (0, a)
  | k + 1, a => if (q9aimI T N P J a).1 = 0 then (if q9byI T N (q9spI T N (q9aimI T N P J a).2) = 44 then q9aimF T N P J k (q9spI T N (q9aimI T N P J a).2 + 1) else (0, q9spI T N (q9aimI T N P J a).2)) else q9aimI T N P J a
def q9tk35 (T : Int → Int) (N P : Int) (J : Int → Int) (a : Int) : q9TK2 := q9aimF T N P J ((N - a).toNat + 1) a
/-! the turns of a text: place, lines, repeats that stand (line, place, frames, lines done; the last is the text itself) -/
abbrev q9TE9 : Type := Int × Int × Int64 × Int64
abbrev q9CF9 : Type := Int × Int × List q9TE9
section TURN
variable (T : Int → Int) (N P : Int) (J : Int → Int)
def q9tkI (u : Nat) (b a : Int) : q9TK2 := match u with
  | 0 => q9tkN T N 1 200 a
  | 1 => q9tkN T N 1 20 a
  | 2 => q9tkN T N 1 400 a
  | 3 => q9tkN T N 0 400 a
  | 4 => q9tkN T N 0 9999 a
  | 5 => q9tkN T N 0 32 a
  | 6 => q9tkN T N 0 (P - 1) a
  | 7 => q9tkN T N 0 (J b - 1) a
  | 8 => q9tkW T N [8] a
  | 9 => q9tkW T N [13] a
  | 10 => q9tkW T N [16, 17, 18] a
  | 11 => q9tkW T N [14, 15] a
  | 12 => q9tk12 T N a
  | 13 => q9tk13 T N a
  | 14 => q9tk14 T N a
  | 20 => q9tkS T N b a
  | 30 => q9tkR [q9tkN T N 0 (P - 1), q9tkW T N [14, 15]] a
  | 31 => q9tkR [q9tkN T N 0 (P - 1), q9tk12 T N, q9tkW T N [13], q9tkN T N 0 400] a
  | 32 => q9tkR [q9tkW T N [16, 17, 18], q9tkN T N 0 9999, q9tkW T N [8], q9tkN T N 1 400, q9tk13 T N] a
  | 33 => q9tkR [q9tk35 T N P J, q9tkW T N [8], q9tkN T N 1 200, q9tk13 T N] a
  | 34 => q9tkR [q9tkN T N 1 20, q9tkS T N 91] a
  | 35 => q9tk35 T N P J a
  | 36 => q9aimI T N P J a
  | _ => (0, a)
def q9amI (k : Int) (a : Int) : Int := if k = 0 ∨ k = 7 then q9nvI T N (q9spI T N a) 0 else if k = 1 then q9nvI T N (q9spI T N (q9tkW T N [8] (q9tk35 T N P J a).2).2) 0 else if k = 6 then q9nvI T N (q9spI T N (q9tkW T N [8] (q9tkN T N 0 9999 (q9tkW T N [16, 17, 18] a).2).2).2) 0 else 0
def q9rsU (k : Int) : Nat := if k = 0 then 0 else if k = 1 then 33 else if k = 2 then 31 else if k = 3 ∨ k = 4 then 6 else if k = 5 then 30 else if k = 6 then 32 else 34
/-- the rest of a line of a kind, from behind its word on -/
def q9rsI (k a : Int) : q9TK2 := q9tkI T N P J (q9rsU k) 0 a
/-- how often a repeat is told that begins at a place -/
def q9moI (a : Int) : Int64 := Int64.ofInt (q9amI T N P J 7 (q9weI T N (q9spI T N a)))
/-- the kind of the line that begins at a turn; 8: a repeat is closed, 9: the end -/
def q9lkI (c : q9CF9) : Int := if 2 ≤ c.2.2.length ∧ q9byI T N (q9spI T N c.1) = 93 then 8 else if q9byI T N (q9spI T N c.1) < 0 then 9 else q9kbI T N (q9spI T N c.1)
def q9rcI (c : q9CF9) : q9TK2 := q9rsI T N P J (q9lkI T N c) (q9weI T N (q9spI T N c.1))
/-- does a line stand at a turn, as far as its sign -/
abbrev q9okL (c : q9CF9) : Prop := 0 ≤ q9lkI T N c ∧ q9lkI T N c ≤ 7 ∧ c.2.1 < 60 ∧ (q9lkI T N c = 7 → c.2.2.length < 5) ∧ (q9rcI T N P J c).1 = 0
/-- the turn behind -/
def q9th_nxI (c : q9CF9) : Option q9CF9 := match c.2.2 with
  | [] => none
  | q :: st => if q9lkI T N c = 8 then (match st with
      | [] => none
      | q' :: st' => if q9byI T N (q9spI T N (q9spI T N c.1 + 1)) = 59 then some (q9spI T N (q9spI T N c.1 + 1) + 1, c.2.1, (q'.1, q'.2.1, q'.2.2.1 + q9moI T N P J q.2.1 * q.2.2.1, q'.2.2.2 + q9moI T N P J q.2.1 * q.2.2.2) :: st') else none)
    else if q9okL T N P J c then (if q9lkI T N c = 7 then some ((q9rcI T N P J c).2, c.2.1 + 1, (c.2.1, c.1, 0, 0) :: (q.1, q.2.1, q.2.2.1, q.2.2.2 + 1) :: st)
      else if q9byI T N (q9spI T N (q9rcI T N P J c).2) = 59 then some (q9spI T N (q9rcI T N P J c).2 + 1, c.2.1 + 1, (q.1, q.2.1, (if q9lkI T N c ≤ 1 then q.2.2.1 + Int64.ofInt (q9amI T N P J (q9lkI T N c) (q9weI T N (q9spI T N c.1))) else q.2.2.1), q.2.2.2 + 1) :: st) else none)
    else none
/-- how it ends there -/
def q9th_reI (c : q9CF9) : Int × Int := if q9lkI T N c = 8 then (1, q9spI T N (q9spI T N c.1 + 1)) else if q9lkI T N c = 9 then (if c.2.2.length < 2 then (0, 0) else (1, N)) else if q9lkI T N c < 0 then (1, q9spI T N c.1) else if 60 ≤ c.2.1 ∨ (q9lkI T N c = 7 ∧ 5 ≤ c.2.2.length) then (3, q9spI T N c.1) else if (q9rcI T N P J c).1 = 0 then (1, q9spI T N (q9rcI T N P J c).2) else q9rcI T N P J c
def q9trI : Nat → Option q9CF9
  | 0 => some (0, 0, [(-1, 0, 0, 0)])
  | n + 1 => (q9trI n).bind (q9th_nxI T N P J)
def q9visI (c : q9CF9) : Prop := ∃ n, q9trI T N P J n = some c
end TURN
section TOK
variable {T : Int → Int} {N P : Int} {J : Int → Int}
theorem q9sp_ge {i : Int} : i ≤ q9spI T N i := q9scN_ge
theorem q9we_ge {i : Int} : i ≤ q9weI T N i := q9scN_ge
theorem q9de_ge {i : Int} : i ≤ q9deI T N i := q9scN_ge
theorem q9sp_le {i : Int} : q9spI T N i ≤ max i N := q9scN_le
theorem q9we_le {i : Int} : q9weI T N i ≤ max i N := q9scN_le
theorem q9de_le {i : Int} : q9deI T N i ≤ max i N := q9scN_le
/-- places don't fall; they stay within the text -/
def q9tkG (N : Int) (t : Int → q9TK2) : Prop := ∀ a, a ≤ (t a).2 ∧ (t a).2 ≤ max a N
theorem q9tkN_G {lo hi : Int} : q9tkG N (q9tkN T N lo hi) := fun a => by
  have h1 := q9sp_ge (T := T) (N := N) (i := a)
  have h2 := q9sp_le (T := T) (N := N) (i := a)
  have h3 := q9de_ge (T := T) (N := N) (i := q9spI T N a)
  have h4 := q9de_le (T := T) (N := N) (i := q9spI T N a)
  unfold q9tkN
  split
  · exact ⟨h1, h2⟩
  · split
    · show a ≤ q9deI T N (q9spI T N a) ∧ q9deI T N (q9spI T N a) ≤ _
      omega
    · exact ⟨h1, h2⟩
theorem q9tkW_G {ts : List Nat} : q9tkG N (q9tkW T N ts) := fun a => by
  have h1 := q9sp_ge (T := T) (N := N) (i := a)
  have h2 := q9sp_le (T := T) (N := N) (i := a)
  have h3 := q9we_ge (T := T) (N := N) (i := q9spI T N a)
  have h4 := q9we_le (T := T) (N := N) (i := q9spI T N a)
  unfold q9tkW
  split
  · show a ≤ q9weI T N (q9spI T N a) ∧ q9weI T N (q9spI T N a) ≤ _
    omega
  · exact ⟨h1, h2⟩
theorem q9tkS_G {s : Int} (hs : 0 ≤ s) : q9tkG N (q9tkS T N s) := fun a => by
  have h1 := q9sp_ge (T := T) (N := N) (i := a)
  have h2 := q9sp_le (T := T) (N := N) (i := a)
  unfold q9tkS
  split
  · rename_i hb
    have h3 := q9byI_lt (T := T) (N := N) (i := q9spI T N a) (by omega)
    show a ≤ q9spI T N a + 1 ∧ q9spI T N a + 1 ≤ _
    omega
  · exact ⟨h1, h2⟩
theorem q9tk12_G : q9tkG N (q9tk12 T N) := fun a => by
  have h1 := q9sp_ge (T := T) (N := N) (i := a)
  have h2 := q9sp_le (T := T) (N := N) (i := a)
  have h3 := q9we_ge (T := T) (N := N) (i := q9spI T N a)
  have h4 := q9we_le (T := T) (N := N) (i := q9spI T N a)
  unfold q9tk12
  split
  · show a ≤ q9weI T N (q9spI T N a) ∧ q9weI T N (q9spI T N a) ≤ _
    omega
  · exact ⟨h1, h2⟩
theorem q9tk13_G : q9tkG N (q9tk13 T N) := fun a => by
  unfold q9tk13
  split
  · exact q9tkW_G a
  · exact ⟨q9sp_ge, q9sp_le⟩
theorem q9tk14_G : q9tkG N (q9tk14 T N) := fun a => by
  have h1 := q9sp_ge (T := T) (N := N) (i := a)
  have h2 := q9sp_le (T := T) (N := N) (i := a)
  unfold q9tk14
  split
  · rename_i hb
    have h3 := q9byI_lt (T := T) (N := N) (i := q9spI T N a) (by omega)
    show a ≤ q9spI T N a + 1 ∧ q9spI T N a + 1 ≤ _
    omega
  · exact ⟨h1, h2⟩
theorem q9tkR_G : ∀ (ts : List (Int → q9TK2)), (∀ t ∈ ts, q9tkG N t) → q9tkG N (q9tkR ts)
  | [], _, a => by
    show a ≤ a ∧ a ≤ _
    omega
  | t :: ts, h, a => by
    have h1 := h t List.mem_cons_self a
    unfold q9tkR
    split
    · have h2 := q9tkR_G ts (fun t ht => h t (List.mem_cons_of_mem _ ht)) (t a).2
      omega
    · exact h1
theorem q9aimL_G (a : Int) : ∀ t ∈ q9aimL T N P J a, q9tkG N t := by
  unfold q9aimL
  exact List.forall_mem_cons.mpr ⟨q9tkN_G, List.forall_mem_cons.mpr ⟨q9tkS_G (by decide), List.forall_mem_cons.mpr ⟨q9tkN_G, List.forall_mem_cons.mpr ⟨q9tk14_G, List.forall_mem_cons.mpr ⟨q9tkN_G, fun _ h => absurd h List.not_mem_nil⟩⟩⟩⟩⟩
theorem q9aim_G : q9tkG N (q9aimI T N P J) := fun a => q9tkR_G _ (q9aimL_G a) a
theorem q9aimF_G : ∀ k : Nat, q9tkG N (q9aimF T N P J k)
  | 0, a => by
    show a ≤ a ∧ a ≤ _
    omega
  | k + 1, a => by
    have h1 := q9aim_G (T := T) (N := N) (P := P) (J := J) a
    have h2 := q9sp_ge (T := T) (N := N) (i := (q9aimI T N P J a).2)
    have h3 := q9sp_le (T := T) (N := N) (i := (q9aimI T N P J a).2)
    unfold q9aimF
    split
    · split
      · rename_i hb
        have h4 := q9byI_lt (T := T) (N := N) (i := q9spI T N (q9aimI T N P J a).2) (by omega)
        have h5 := q9aimF_G k (q9spI T N (q9aimI T N P J a).2 + 1)
        omega
      · show a ≤ q9spI T N _ ∧ q9spI T N _ ≤ _
        omega
    · exact h1
theorem q9tk35_G : q9tkG N (q9tk35 T N P J) := fun a => q9aimF_G _ a
theorem q9tkI_G {u : Nat} {b : Int} (hb : u = 20 → 0 ≤ b) : q9tkG N (q9tkI T N P J u b) := by
  have nil : ∀ t ∈ ([] : List (Int → q9TK2)), q9tkG N t := fun _ h => absurd h List.not_mem_nil
  have cons : ∀ {t : Int → q9TK2} {ts : List (Int → q9TK2)}, q9tkG N t → (∀ t ∈ ts, q9tkG N t) → ∀ t' ∈ t :: ts, q9tkG N t' := fun h1 h2 => List.forall_mem_cons.mpr ⟨h1, h2⟩
  intro a
  unfold q9tkI
  split
  all_goals first
    | exact q9tkN_G a
    | exact q9tkW_G a
    | exact q9tk12_G a
    | exact q9tk13_G a
    | exact q9tk14_G a
    | exact q9tk35_G a
    | exact q9aim_G a
    | exact q9tkS_G (hb rfl) a
    | exact q9tkR_G _ (cons q9tkN_G (cons q9tkW_G nil)) a
    | exact q9tkR_G _ (cons q9tkN_G (cons q9tk12_G (cons q9tkW_G (cons q9tkN_G nil)))) a
    | exact q9tkR_G _ (cons q9tkW_G (cons q9tkN_G (cons q9tkW_G (cons q9tkN_G (cons q9tk13_G nil))))) a
    | exact q9tkR_G _ (cons q9tk35_G (cons q9tkW_G (cons q9tkN_G (cons q9tk13_G nil)))) a
    | exact q9tkR_G _ (cons q9tkN_G (cons (q9tkS_G (by decide)) nil)) a
    | (show a ≤ a ∧ a ≤ _; omega)
/-- a kind's word isn't empty -/
theorem q9kb_we {i : Int} (h : 0 ≤ q9kbI T N i) : i < q9weI T N i := by
  have key : ∀ t : Nat, t < 8 → q9wsI T N t i = 1 → i < q9weI T N i := fun t ht hw => by
    unfold q9wsI q9wiI at hw
    split at hw
    · rename_i hc
      have := (q9TXW_ok t (by omega)).1
      omega
    · omega
  unfold q9kbI at h
  split at h
  · exact key 0 (by omega) (by assumption)
  · split at h
    · exact key 1 (by omega) (by assumption)
    · split at h
      · exact key 2 (by omega) (by assumption)
      · split at h
        · exact key 3 (by omega) (by assumption)
        · split at h
          · exact key 4 (by omega) (by assumption)
          · split at h
            · exact key 5 (by omega) (by assumption)
            · split at h
              · exact key 6 (by omega) (by assumption)
              · split at h
                · exact key 7 (by omega) (by assumption)
                · omega
theorem q9kb_7 {i : Int} : q9kbI T N i ≤ 7 := by
  unfold q9kbI
  repeat' split
  all_goals omega
theorem q9rc_G {c : q9CF9} : q9weI T N (q9spI T N c.1) ≤ (q9rcI T N P J c).2 ∧ (q9rcI T N P J c).2 ≤ max (q9weI T N (q9spI T N c.1)) N := by
  unfold q9rcI q9rsI
  refine q9tkI_G (fun h => ?_) _
  exfalso
  unfold q9rsU at h
  repeat' split at h
  all_goals omega
theorem q9lk_kb {c : q9CF9} (h1 : 0 ≤ q9lkI T N c) (h2 : q9lkI T N c ≤ 7) : q9lkI T N c = q9kbI T N (q9spI T N c.1) := by
  unfold q9lkI at h1 h2 ⊢
  split
  · rename_i h
    rw [if_pos h] at h2
    omega
  · rename_i h
    rw [if_neg h] at h2
    split
    · rename_i h3
      rw [if_pos h3] at h2
      omega
    · rfl
/-- a turn's place, the next one's -/
theorem q9nx_pos {c c' : q9CF9} (h : q9th_nxI T N P J c = some c') : c.1 < c'.1 ∧ (0 ≤ c.1 → c.1 ≤ N → c'.1 ≤ N) := by
  have s1 := q9sp_ge (T := T) (N := N) (i := c.1)
  have s2 := q9sp_le (T := T) (N := N) (i := c.1)
  unfold q9th_nxI at h
  split at h
  · cases h
  · rename_i q st hst
    split at h
    · split at h
      · cases h
      · rename_i q' st'
        split at h
        · rename_i hb
          cases h
          have s3 := q9sp_ge (T := T) (N := N) (i := q9spI T N c.1 + 1)
          have s4 := q9byI_lt (T := T) (N := N) (i := q9spI T N (q9spI T N c.1 + 1)) (by omega)
          dsimp only
          omega
        · cases h
    · split at h
      · rename_i hn hok
        obtain ⟨k1, k2, k3, k4, k5⟩ := hok
        have e := q9lk_kb k1 k2
        rw [e] at k1
        have s3 := q9kb_we k1
        have s4 := q9we_le (T := T) (N := N) (i := q9spI T N c.1)
        obtain ⟨s5, s6⟩ := q9rc_G (T := T) (N := N) (P := P) (J := J) (c := c)
        split at h
        · cases h
          dsimp only
          omega
        · split at h
          · rename_i hb
            cases h
            have s7 := q9sp_ge (T := T) (N := N) (i := (q9rcI T N P J c).2)
            have s8 := q9byI_lt (T := T) (N := N) (i := q9spI T N (q9rcI T N P J c).2) (by omega)
            dsimp only
            omega
          · cases h
      · cases h
theorem q9tr_succ {n : Nat} {c : q9CF9} (h : q9trI T N P J (n + 1) = some c) : ∃ c0, q9trI T N P J n = some c0 ∧ q9th_nxI T N P J c0 = some c := by
  unfold q9trI at h
  cases h0 : q9trI T N P J n with
  | none => rw [h0] at h; cases h
  | some c0 => rw [h0] at h; exact ⟨c0, rfl, h⟩
theorem q9tr_lt : ∀ {n m : Nat} {c c' : q9CF9}, n < m → q9trI T N P J n = some c → q9trI T N P J m = some c' → c.1 < c'.1
  | n, 0, c, c', h, _, _ => by omega
  | n, m + 1, c, c', h, h1, h2 => by
    obtain ⟨c0, g1, g2⟩ := q9tr_succ h2
    have h3 := (q9nx_pos g2).1
    by_cases hnm : n = m
    · subst hnm
      rw [h1] at g1
      cases g1
      exact h3
    · exact Int.lt_trans (q9tr_lt (by omega) h1 g1) h3
theorem q9vis_pos {c c' : q9CF9} (h : q9visI T N P J c) (h' : q9visI T N P J c') (e : c.1 = c'.1) : c = c' := by
  obtain ⟨n, hn⟩ := h
  obtain ⟨m, hm⟩ := h'
  rcases Nat.lt_trichotomy n m with h1 | h1 | h1
  · have := q9tr_lt h1 hn hm
    omega
  · subst h1
    rw [hn] at hm
    exact Option.some.inj hm
  · have := q9tr_lt h1 hm hn
    omega
theorem q9vis_next {c c' : q9CF9} (h : q9visI T N P J c) (hn : q9th_nxI T N P J c = some c') : q9visI T N P J c' := by
  obtain ⟨n, hn'⟩ := h
  refine ⟨n + 1, ?_⟩
  unfold q9trI
  rw [hn']
  exact hn
theorem q9vis_start : q9visI T N P J (0, 0, [(-1, 0, 0, 0)]) := ⟨0, rfl⟩
/-- what holds of all turns -/
theorem q9vis_ind {p : q9CF9 → Prop} (h0 : p (0, 0, [(-1, 0, 0, 0)])) (hs : ∀ c c', q9visI T N P J c → p c → q9th_nxI T N P J c = some c' → p c') : ∀ {c}, q9visI T N P J c → p c := by
  intro c ⟨n, hn⟩
  induction n generalizing c with
  | zero =>
    cases hn
    exact h0
  | succ n ih =>
    obtain ⟨c0, g1, g2⟩ := q9tr_succ hn
    exact hs c0 c ⟨n, g1⟩ (ih g1) g2
/-- the last turn: there is but q9one -/
theorem q9vis_last {c c' : q9CF9} (h : q9visI T N P J c) (h' : q9visI T N P J c') (e : q9th_nxI T N P J c = none) (e' : q9th_nxI T N P J c' = none) : c = c' := by
  obtain ⟨n, hn⟩ := h
  obtain ⟨m, hm⟩ := h'
  have key : ∀ {n m : Nat} {c c' : q9CF9}, n < m → q9trI T N P J n = some c → q9th_nxI T N P J c = none → q9trI T N P J m = some c' → False := by
    intro n m c c' hlt h1 h2 h3
    have : ∀ k : Nat, q9trI T N P J (n + k + 1) = none := by
      intro k
      induction k with
      | zero =>
        show (q9trI T N P J n).bind _ = none
        rw [h1]
        exact h2
      | succ k ih =>
        show (q9trI T N P J (n + k + 1)).bind _ = none
        rw [ih]
        rfl
    have h4 := this (m - n - 1)
    rw [show n + (m - n - 1) + 1 = m by omega, h3] at h4
    cases h4
  rcases Nat.lt_trichotomy n m with h1 | h1 | h1
  · exact (key h1 hn e hm).elim
  · subst h1
    rw [hn] at hm
    exact Option.some.inj hm
  · exact (key h1 hm e' hn).elim
end TOK
/-! the operations by the model -/
noncomputable def chV {α : Type} (p : α → Prop) : Option α := @dite _ (∃ v, p v) (Classical.propDecidable _) (fun h => some (Classical.choose h)) (fun _ => none)
theorem q9chV_of {α : Type} {p : α → Prop} {v : α} (h : chV p = some v) : p v := by
  unfold chV at h
  split at h
  · rename_i hh
    rw [← Option.some.inj h]
    exact Classical.choose_spec hh
  · cases h
theorem q9chV_to {α : Type} {p : α → Prop} {v : α} (hu : ∀ v', p v' → v' = v) (h : p v) : chV p = some v := by
  unfold chV
  have hh : ∃ v, p v := ⟨v, h⟩
  rw [dif_pos hh, hu _ (Classical.choose_spec hh)]
def q9enI (c : q9CF9) (j : Int) : Option q9TE9 := if 0 ≤ j ∧ j < c.2.2.length then c.2.2[c.2.2.length - 1 - j.toNat]? else none
section OPS
variable (T : Int → Int) (N P : Int) (J : Int → Int) (t0 : Int) (Sc : Int → Int)
def q9atI (a : Int) (p : q9CF9 → Prop) : Prop := ∃ c, q9visI T N P J c ∧ c.1 = a ∧ p c
/-- a line that is read as far as its sign, a repeat's end: what stands behind it -/
def q9prI (c : q9CF9) (p : Int) : Prop := q9visI T N P J c ∧ ((q9okL T N P J c ∧ q9lkI T N c ≠ 7 ∧ p = (q9rcI T N P J c).2) ∨ (q9lkI T N c = 8 ∧ p = q9spI T N c.1 + 1))
def q9enE (i v : Int) : Prop := (∃ c, q9visI T N P J c ∧ q9okL T N P J c ∧ c.2.1 = i ∧ q9lkI T N c ≠ 7 ∧ v = i + 1) ∨ ∃ c q st, q9visI T N P J c ∧ q9lkI T N c = 8 ∧ c.2.2 = q :: st ∧ q.1 = i ∧ v = c.2.1
/-- frames and lines done of a stretch of lines, from its beginning on -/
def q9hsI : Nat → Int → Int → Int64 → Int64 → Prop
  | 0, _, _, _, _ => False
  | n + 1, b, e, f, d => (b = e ∧ f = 0 ∧ d = 0) ∨ ∃ c m f1 d1 f2 d2, q9visI T N P J c ∧ q9okL T N P J c ∧ c.2.1 = b ∧ q9enE T N P J b m ∧ b < m ∧ m ≤ e ∧ q9hsI n m e f2 d2 ∧ f = f1 + f2 ∧ d = d1 + d2 ∧
      ((q9lkI T N c ≤ 1 ∧ f1 = Int64.ofInt (q9amI T N P J (q9lkI T N c) (q9weI T N (q9spI T N c.1))) ∧ d1 = 1) ∨ (2 ≤ q9lkI T N c ∧ q9lkI T N c ≤ 6 ∧ f1 = 0 ∧ d1 = 1) ∨
       (q9lkI T N c = 7 ∧ ∃ f3 d3, q9hsI n (b + 1) m f3 d3 ∧ f1 = Int64.ofInt (q9amI T N P J 7 (q9weI T N (q9spI T N c.1))) * f3 ∧ d1 = 1 + Int64.ofInt (q9amI T N P J 7 (q9weI T N (q9spI T N c.1))) * d3))
def q9laI (p : q9CF9 → Prop) : Prop := ∃ c, q9visI T N P J c ∧ q9th_nxI T N P J c = none ∧ p c
abbrev q9edI (c : q9CF9) : Prop := q9lkI T N c = 9 ∧ c.2.2.length = 1
/-- how it all ends: 0 told, else a fault -/
def q9fnI (c : q9CF9) : Int × Int × Int := if q9edI T N c then (match q9enI c 0 with
    | some e => if 1 ≤ e.2.2.1.toInt ∧ e.2.2.1.toInt ≤ 400 ∧ e.2.2.2.toInt ≤ 2000 then (0, 0, e.2.2.1.toInt) else (4, N, 0)
    | none => (0, 0, 0)) else ((q9th_reI T N P J c).1, (q9th_reI T N P J c).2, 0)
noncomputable def finI : Int × Int × Int := @dite _ (∃ c, q9visI T N P J c ∧ q9th_nxI T N P J c = none) (Classical.propDecidable _) (fun h => q9fnI T N P J (Classical.choose h)) (fun _ => (0, 0, 0))
end OPS
/-! the play of a text's lines: how long each takes, where each stands in time -/
abbrev q9PS9 : Type := Int × Int × Int × Int × Int × Int
section PLAY
variable (kd mn en : Int → Int) (n : Int)
/-- how long a block takes: a line is a q9step, and q9one for each of its frames, or what stands in it as often as it is told -/
def q9plD : Nat → Int → Int → Int
  | 0, _, _ => 0
  | k + 1, i, e => if i < e then (if kd i ≤ 1 then 1 + mn i else if kd i ≤ 6 then 1 else 1 + mn i * q9plD k (i + 1) (en i)) + q9plD k (en i) e else 0
def q9plF : Nat → Int → Int → Int
  | 0, _, _ => 0
  | k + 1, i, e => if i < e then (if kd i ≤ 1 then mn i else if kd i ≤ 6 then 0 else mn i * q9plF k (i + 1) (en i)) + q9plF k (en i) e else 0
def q9bD (i e : Int) : Int := q9plD kd mn en (n - i).toNat i e
def q9bF (i e : Int) : Int := q9plF kd mn en (n - i).toNat i e
def q9lD (i : Int) : Int := if kd i ≤ 1 then 1 + mn i else if kd i ≤ 6 then 1 else 1 + mn i * q9bD kd mn en n (i + 1) (en i)
def q9lF (i : Int) : Int := if kd i ≤ 1 then mn i else if kd i ≤ 6 then 0 else mn i * q9bF kd mn en n (i + 1) (en i)
/-- a place in the play: line, its block's end, when that is over, when the line begins, how deep, frames till then -/
def q9nxP (p : q9PS9) : q9PS9 := (en p.1, p.2.1, p.2.2.1, p.2.2.2.1 + q9lD kd mn en n p.1, p.2.2.2.2.1, p.2.2.2.2.2 + q9lF kd mn en n p.1)
def q9inP (p : q9PS9) (r : Int) : q9PS9 := (p.1 + 1, en p.1, p.2.2.2.1 + 1 + (r + 1) * q9bD kd mn en n (p.1 + 1) (en p.1), p.2.2.2.1 + 1 + r * q9bD kd mn en n (p.1 + 1) (en p.1), p.2.2.2.2.1 + 1, p.2.2.2.2.2 + r * q9bF kd mn en n (p.1 + 1) (en p.1))
def q9InK : Nat → q9PS9 → q9PS9 → Prop
  | 0, _, _ => False
  | k + 1, p, q => p.1 < p.2.1 ∧ (q = p ∨ q9InK k (q9nxP kd mn en n p) q ∨ (kd p.1 = 7 ∧ ∃ r, 0 ≤ r ∧ r < mn p.1 ∧ q9InK k (q9inP kd mn en n p r) q))
def q9InS (p q : q9PS9) : Prop := ∃ k, q9InK kd mn en n k p q
/-- the text's lines hang together -/
def q9plW : Prop := 0 ≤ n ∧ (∀ i, i < n → i < en i ∧ en i ≤ n) ∧ (∀ i, 0 ≤ mn i) ∧ (∀ i, kd i ≤ 7) ∧ ∀ i j, kd i = 7 → i < n → i < j → j < en i → en j ≤ en i
def q9okP (p : q9PS9) : Prop := 0 ≤ p.1 ∧ p.2.1 ≤ n ∧ p.2.2.1 = p.2.2.2.1 + q9bD kd mn en n p.1 p.2.1 ∧ ∀ i, p.1 ≤ i → i < p.2.1 → en i ≤ p.2.1
def q9ownP (q : q9PS9) (s : Int) : Prop := s = q.2.2.2.1 ∨ (kd q.1 ≤ 1 ∧ q.2.2.2.1 < s ∧ s ≤ q.2.2.2.1 + mn q.1)
def q9rootP : q9PS9 := (0, n, q9bD kd mn en n 0 n, 0, 0, 0)
end PLAY
/-! how many frames till a moment -/
section PLAY3
variable (kd mn en : Int → Int) (n : Int)
def q9isFr (s : Int) : Prop := ∃ q, q9InS kd mn en n (q9rootP kd mn en n) q ∧ kd q.1 ≤ 1 ∧ q.2.2.2.1 < s ∧ s ≤ q.2.2.2.1 + mn q.1
noncomputable def q9cnF : Nat → Int
  | 0 => 0
  | k + 1 => q9cnF k + @ite _ (q9isFr kd mn en n (k : Int)) (Classical.propDecidable _) 1 0
noncomputable def cnI (s : Int) : Int := q9cnF kd mn en n s.toNat
end PLAY3
abbrev q9atP (kd mn en : Int → Int) (n : Int) (q : q9PS9) : Prop := q9InS kd mn en n (q9rootP kd mn en n) q
/-! the axes, moment by moment -/
abbrev q9AX9 : Type := Int × Int × Int × Int × Int × Int × Int
def q9w32 (z : Int) : Int := (Int32.ofInt z).toInt
/-- what a value has come to in the k-th of m frames -/
def q9ezI (w k m e : Int) : Int := (Int64.ofInt (if e = 0 then (w * k).fdiv m else if e = 1 then (w * (k * k)).fdiv (m * m) else if e = 2 then (w * (2 * m * k - k * k)).fdiv (m * m) else if 2 * k ≤ m then (w * (2 * k * k)).fdiv (m * m) else (w * (m * m - 2 * (m - k) * (m - k))).fdiv (m * m))).toInt32.toInt
section AXES
variable (kd mn en wh vl es : Int → Int) (n : Int)
/-- value, from, goal, frames, done, ease, begun at -/
def q9axM (a : q9AX9) : q9AX9 := if a.2.2.2.2.1 < a.2.2.2.1 then (q9w32 (a.2.1 + q9ezI (q9w32 (a.2.2.1 - a.2.1)) (a.2.2.2.2.1 + 1) a.2.2.2.1 a.2.2.2.2.2.1), a.2.1, a.2.2.1, a.2.2.2.1, a.2.2.2.2.1 + 1, a.2.2.2.2.2.1, a.2.2.2.2.2.2) else a
noncomputable def axS : Nat → Int → q9AX9
  | 0, _ => (0, 0, 0, 0, 0, 0, 0)
  | k + 1, a => @ite _ (q9isFr kd mn en n (k : Int)) (Classical.propDecidable _) (q9axM (axS k a))
      (@ite _ (∃ q, q9atP kd mn en n q ∧ q.2.2.2.1 = (k : Int) ∧ kd q.1 = 6 ∧ wh q.1 = a) (Classical.propDecidable _)
        ((axS k a).1, (axS k a).1, @dite _ (∃ q, q9atP kd mn en n q ∧ q.2.2.2.1 = (k : Int)) (Classical.propDecidable _) (fun h => let q := Classical.choose h; (vl q.1, mn q.1, 0, es q.1, cnI kd mn en n (k : Int))) (fun _ => (0, 0, 0, 0, 0)))
        (axS k a))
noncomputable def axI (s a : Int) : q9AX9 := axS kd mn en wh vl es n s.toNat a
end AXES
/-! the lines of a text that is fine hang together -/
section PLI
variable (T : Int → Int) (N P : Int) (J : Int → Int)
noncomputable def lnC (i : Int) : Option q9CF9 := chV (fun c => q9visI T N P J c ∧ q9okL T N P J c ∧ c.2.1 = i)
noncomputable def kdP (i : Int) : Int := match lnC T N P J i with
  | some c => q9lkI T N c
  | none => 2
noncomputable def mnP (i : Int) : Int := match lnC T N P J i with
  | some c => q9amI T N P J (q9lkI T N c) (q9weI T N (q9spI T N c.1))
  | none => 0
noncomputable def dpP (i : Int) : Int := match lnC T N P J i with
  | some c => c.2.2.length - 1
  | none => 0
noncomputable def enP (i : Int) : Int := if 0 ≤ i then (match chV (fun v => q9enE T N P J i v ∧ i < v) with
  | some v => v
  | none => i + 1) else i + 1
noncomputable def szP : Int := match chV (fun v => q9laI T N P J fun c => q9edI T N c ∧ v = c.2.1) with
  | some v => v
  | none => 0
/-- the text is fine -/
def q9fnP : Prop := ∃ c q, q9visI T N P J c ∧ q9th_nxI T N P J c = none ∧ q9lkI T N c = 9 ∧ c.2.2 = [q] ∧ 1 ≤ q.2.2.1.toInt ∧ q.2.2.1.toInt ≤ 400 ∧ q.2.2.2.toInt ≤ 2000
end PLI
/-! the play's operations -/
section PLQ
variable (T : Int → Int) (N P : Int) (J : Int → Int)
/-- the line that a moment belongs to -/
noncomputable def qP (s : Int) : Option q9PS9 := chV (fun q => q9fnP T N P J ∧ q9atP (kdP T N P J) (mnP T N P J) (enP T N P J) (szP T N P J) q ∧ q9ownP (kdP T N P J) (mnP T N P J) q s)
noncomputable def qM (f : q9PS9 → Int) (s : Int) : Option Int := (qP T N P J s).map f
/-- a line's ease; a camera's axis; what they are by the place of the line's rest -/
def q9ezvI (a : Int) : Int := if 97 ≤ q9byI T N (q9spI T N a) ∧ q9byI T N (q9spI T N a) ≤ 122 then (if q9wsI T N 9 (q9spI T N a) = 1 then 1 else if q9wsI T N 10 (q9spI T N a) = 1 then 2 else if q9wsI T N 11 (q9spI T N a) = 1 then 3 else 0) else 0
def q9axwI (b : Int) : Int := if q9wsI T N 16 b = 1 then 0 else if q9wsI T N 17 b = 1 then 1 else 2
def q9lwhI (e : Int) : Int := q9axwI T N (q9spI T N e)
def q9lvlI (e : Int) : Int := q9nvI T N (q9spI T N (q9tkW T N [16, 17, 18] e).2) 0
def q9les6I (e : Int) : Int := q9ezvI T N (q9tkN T N 1 400 (q9tkW T N [8] (q9tkN T N 0 9999 (q9tkW T N [16, 17, 18] e).2).2).2).2
def q9les1I (e : Int) : Int := q9ezvI T N (q9tkN T N 1 200 (q9tkW T N [8] (q9tk35 T N P J e).2).2).2
def q9esI (k e : Int) : Int := if k = 1 then q9les1I T N P J e else q9les6I T N e
noncomputable def whP (i : Int) : Int := match lnC T N P J i with
  | some c => q9lwhI T N (q9weI T N (q9spI T N c.1))
  | none => 0
noncomputable def vlP (i : Int) : Int := match lnC T N P J i with
  | some c => q9lvlI T N (q9weI T N (q9spI T N c.1))
  | none => 0
noncomputable def esP (i : Int) : Int := match lnC T N P J i with
  | some c => q9esI T N P J (q9lkI T N c) (q9weI T N (q9spI T N c.1))
  | none => 0
/-- the axes at a moment (nothing where the text isn't fine) -/
noncomputable def axO (s a : Int) : q9AX9 := @ite _ (q9fnP T N P J) (Classical.propDecidable _) (axI (kdP T N P J) (mnP T N P J) (enP T N P J) (whP T N P J) (vlP T N P J) (esP T N P J) (szP T N P J) s a) (0, 0, 0, 0, 0, 0, 0)
/-- a frame's axes, by three times its number -/
noncomputable def axC (j : Int) : Option Int := chV (fun v => ∃ s : Int, 0 ≤ s ∧ q9fnP T N P J ∧ q9isFr (kdP T N P J) (mnP T N P J) (enP T N P J) (szP T N P J) s ∧ cnI (kdP T N P J) (mnP T N P J) (enP T N P J) (szP T N P J) s = j / 3 ∧ v = (axO T N P J (s + 1) (j % 3)).1)
def q9whE (a v : Int) : Prop := ∃ c, q9visI T N P J c ∧ q9okL T N P J c ∧ c.2.1 = a ∧ q9lkI T N c = 6 ∧ v = q9lwhI T N (q9weI T N (q9spI T N c.1))
def q9vlE (a v : Int) : Prop := ∃ c, q9visI T N P J c ∧ q9okL T N P J c ∧ c.2.1 = a ∧ q9lkI T N c = 6 ∧ v = q9lvlI T N (q9weI T N (q9spI T N c.1))
def q9esE (a v : Int) : Prop := ∃ c, q9visI T N P J c ∧ q9okL T N P J c ∧ c.2.1 = a ∧ (q9lkI T N c = 6 ∨ q9lkI T N c = 1) ∧ v = q9esI T N P J (q9lkI T N c) (q9weI T N (q9spI T N c.1))
abbrev q9atQ (q : q9PS9) : Prop := q9atP (kdP T N P J) (mnP T N P J) (enP T N P J) (szP T N P J) q
abbrev q9owQ (q : q9PS9) (s : Int) : Prop := q9ownP (kdP T N P J) (mnP T N P J) q s
noncomputable abbrev bQ (i e : Int) : Int := q9bD (kdP T N P J) (mnP T N P J) (enP T N P J) (szP T N P J) i e
noncomputable abbrev bFQ (i e : Int) : Int := q9bF (kdP T N P J) (mnP T N P J) (enP T N P J) (szP T N P J) i e
noncomputable abbrev lQ (i : Int) : Int := q9lD (kdP T N P J) (mnP T N P J) (enP T N P J) (szP T N P J) i
noncomputable abbrev cnQ (s : Int) : Int := cnI (kdP T N P J) (mnP T N P J) (enP T N P J) (szP T N P J) s
abbrev q9frQ (s : Int) : Prop := q9isFr (kdP T N P J) (mnP T N P J) (enP T N P J) (szP T N P J) s
noncomputable abbrev axQ (s a : Int) : q9AX9 := axI (kdP T N P J) (mnP T N P J) (enP T N P J) (whP T N P J) (vlP T N P J) (esP T N P J) (szP T N P J) s a
/-- what kind of q9step it is -/
noncomputable def tpQ (s : Int) (q : q9PS9) : Int := if q.2.2.2.1 < s then 2 else if kdP T N P J q.1 = 6 then 1 else 0
end PLQ
def q9shnI (Sc : Int → Int) : Int := if 0 ≤ Sc 999 ∧ Sc 999 ≤ 11 then Sc 999 else 0
/-- a pair's code; what a way has come to -/
def q9cdI (a b : Int) : Int := 1000 * a + b
def q9easI (w v : Int) : Int := q9ezI w (v / 1000000) (v / 1000 % 1000) (v % 1000)
def q9fdV (x y : Int64) : Int64 := Int64.ofInt (x.toInt.fdiv y.toInt)
section OPS
variable (T : Int → Int) (N P : Int) (J : Int → Int) (t0 : Int) (Sc : Int → Int)
/-- operations whose result is an int -/
noncomputable def FF (op : Nat) (a b : Int) : Option Int :=
  if op = 1000 then some (q9byI T N a)
  else if op = 1002 then some (q9spI T N a)
  else if op = 1003 then some (q9weI T N a)
  else if op = 1004 then some (q9deI T N a)
  else if op = 1005 then some (q9nvI T N a b)
  else if op = 1007 then some (if 48 ≤ q9byI T N a ∧ q9byI T N a ≤ 57 then 1 else 0)
  else if op = 1008 then some (q9wcI T N a)
  else if op = 1009 then some (if q9byI T N a = b then 1 else 0)
  else if op = 1011 then some (q9vrI T N a (Int32.ofInt b)).toInt
  else if op = 1012 then some (q9koI a)
  else if op = 1013 then some (q9kbI T N a)
  else if op = 1015 then some P
  else if op = 1016 then some (J a)
  else if op = 1018 then some N
  else if op = 1020 then chV fun v => q9atI T N P J a fun _ => v = 1
  else if op = 1021 then chV fun v => q9atI T N P J a fun c => v + 1 = c.2.2.length
  else if op = 1022 then chV fun v => q9atI T N P J a fun c => v = c.2.1
  else if op = 1023 then chV fun v => q9atI T N P J a fun c => 1 ≤ b ∧ ∃ e, q9enI c b = some e ∧ v = e.1
  else if op = 1026 then chV fun v => ∃ c c', q9visI T N P J c ∧ q9th_nxI T N P J c = some c' ∧ c'.1 = a ∧ v = c.1
  else if op = 1027 then chV fun v => q9atI T N P J a fun c => q9lkI T N c ≠ 8 ∧ (c.2.2.length < 2 → q9lkI T N c ≠ 9) ∧ v = 1
  else if op = 1030 then chV fun v => ∃ c, q9prI T N P J c a ∧ v = 1
  else if op = 1031 then chV fun v => ∃ c, q9prI T N P J c a ∧ v + (if q9lkI T N c = 8 then 2 else 1) = c.2.2.length
  else if op = 1032 then chV fun v => ∃ c, q9prI T N P J c a ∧ v = c.2.1 + (if q9lkI T N c = 8 then 0 else 1)
  else if op = 1033 then chV fun v => ∃ c, q9prI T N P J c a ∧ 1 ≤ b ∧ b + (if q9lkI T N c = 8 then 1 else 0) < c.2.2.length ∧ ∃ e, q9enI c b = some e ∧ v = e.1
  else if op = 1034 then chV fun v => ∃ c, q9prI T N P J c a ∧ ∃ q st, c.2.2 = q :: st ∧ v = if q9lkI T N c = 8 then q.2.1 else c.1
  else if op = 1035 then chV fun v => ∃ c c', q9prI T N P J c v ∧ q9th_nxI T N P J c = some c' ∧ c'.1 = a
  else if op = 1036 then chV fun v => ∃ c, q9prI T N P J c a ∧ q9lkI T N c = 8 ∧ v = c.1
  else if op = 1037 then chV fun v => q9atI T N P J a fun c => 1 ≤ b ∧ ∃ e, q9enI c b = some e ∧ v = e.2.1
  else if op = 1038 then chV fun v => ∃ c, q9prI T N P J c a ∧ 1 ≤ b ∧ b + (if q9lkI T N c = 8 then 1 else 0) < c.2.2.length ∧ ∃ e, q9enI c b = some e ∧ v = e.2.1
  else if op = 1040 then chV fun v => q9laI T N P J fun c => v = (q9th_reI T N P J c).1
  else if op = 1041 then chV fun v => q9laI T N P J fun c => (q9th_reI T N P J c).1 ≠ 0 ∧ v = (q9th_reI T N P J c).2
  else if op = 1042 then chV fun v => q9laI T N P J fun c => q9edI T N c ∧ v = c.2.1
  else if op = 1045 then some (finI T N P J).1
  else if op = 1046 then some (finI T N P J).2.1
  else if op = 1047 then some (finI T N P J).2.2
  else if op = 1050 then chV fun v => ∃ c, q9visI T N P J c ∧ q9okL T N P J c ∧ c.2.1 = a ∧ v = q9lkI T N c
  else if op = 1051 then chV fun v => ∃ c, q9visI T N P J c ∧ q9okL T N P J c ∧ c.2.1 = a ∧ v = q9amI T N P J (q9lkI T N c) (q9weI T N (q9spI T N c.1))
  else if op = 1052 then chV fun v => q9enE T N P J a v
  else if op = 1056 then some 0
  else if op = 1058 then some (T a)
  else if op = 1059 then (if 0 ≤ t0 ∧ t0 ≤ 380 ∧ t0 ≤ a ∧ a ≤ t0 + 16 ∧ (a - t0) % 4 = 0 then some (Sc ((a - t0) / 4 + 1)) else none)
  else if op = 1063 then some (Sc a)
  else if op = 1064 then some t0
  else if op = 1400 then (qP T N P J a).map fun q => q.1
  else if op = 1401 then (qP T N P J a).map fun q => q.2.1
  else if op = 1402 then (qP T N P J a).map fun q => a - q.2.2.2.1
  else if op = 1404 then (qP T N P J a).map fun q => q.2.2.1
  else if op = 1405 then (qP T N P J a).map fun q => q.2.2.2.1 + 1 + b * bQ T N P J (q.1 + 1) (enP T N P J q.1)
  else if op = 1406 then some (cnQ T N P J a)
  else if op = 1407 then (qP T N P J a).map fun q => q.2.2.2.1 + lQ T N P J q.1
  else if op = 1408 then (qP T N P J a).map fun q => tpQ T N P J a q
  else if op = 1409 then (qP T N P J a).map fun q => q.2.2.2.2.1
  else if op = 1410 then some (axO T N P J a b).1
  else if op = 1411 then some (axO T N P J a b).2.1
  else if op = 1412 then some (axO T N P J a b).2.2.1
  else if op = 1413 then some (axO T N P J a b).2.2.2.1
  else if op = 1414 then some (axO T N P J a b).2.2.2.2.2.1
  else if op = 1415 then some (axO T N P J a b).2.2.2.2.1
  else if op = 1416 then some (axO T N P J a b).2.2.2.2.2.2
  else if op = 1420 then chV fun v => q9whE T N P J a v
  else if op = 1421 then chV fun v => q9vlE T N P J a v
  else if op = 1422 then chV fun v => q9esE T N P J a v
  else if op = 1430 then axC T N P J a
  else if op = 1432 then some (q9shnI Sc)
  else if op = 1433 then axC T N P J (a - 1200 * q9shnI Sc)
  else if op = 1434 then some (1200 * q9shnI Sc + 3 * a)
  else if op = 1435 then some (400 * q9shnI Sc + a)
  else if op = 1436 then some 1
  else if op = 1440 then some (q9cdI a b)
  else if op = 1441 then some (q9easI a b)
  else if op = 1460 then some (q9axwI T N a)
  else if op = 1461 then some (q9lwhI T N a)
  else if op = 1462 then some (q9lvlI T N a)
  else if op = 1463 then some (q9ezvI T N a)
  else if op = 1464 then some (q9les6I T N a)
  else if op = 1465 then some (q9les1I T N P J a)
  else if 1100 ≤ op ∧ op < 1119 then some (q9wsI T N (op - 1100) a)
  else if 1200 ≤ op ∧ op < 1280 then some (if op % 2 = 0 then (q9tkI T N P J ((op - 1200) / 2) b a).1 else (q9tkI T N P J ((op - 1200) / 2) b a).2)
  else if 1300 ≤ op ∧ op < 1308 then some (q9amI T N P J ((op - 1300 : Nat) : Int) a)
  else none
/-- .. is a long -/
noncomputable def FL (op : Nat) (a b : Int) : Option Int64 :=
  if op = 1024 then chV fun v => q9atI T N P J a fun c => ∃ e, q9enI c b = some e ∧ v = e.2.2.1
  else if op = 1025 then chV fun v => q9atI T N P J a fun c => ∃ e, q9enI c b = some e ∧ v = e.2.2.2
  else if op = 1028 then chV fun v => q9atI T N P J a fun c => ∃ q st, c.2.2 = q :: st ∧ v = q.2.2.2 + 1
  else if op = 1029 then chV fun v => q9atI T N P J a fun c => q9lkI T N c ≤ 1 ∧ ∃ q st, c.2.2 = q :: st ∧ v = q.2.2.1 + Int64.ofInt (q9amI T N P J (q9lkI T N c) (q9weI T N (q9spI T N c.1)))
  else if op = 1043 then chV fun v => q9laI T N P J fun c => q9edI T N c ∧ ∃ e, q9enI c 0 = some e ∧ v = e.2.2.1
  else if op = 1044 then chV fun v => q9laI T N P J fun c => q9edI T N c ∧ ∃ e, q9enI c 0 = some e ∧ v = e.2.2.2
  else if op = 1053 then chV fun v => ∃ n d, q9hsI T N P J n a b v d
  else if op = 1054 then chV fun v => ∃ n f, q9hsI T N P J n a b f v
  else if op = 1057 then chV fun v => ∃ n f d, q9hsI T N P J n a b f d ∧ v = d + 1
  else none
def q9loB (op : Nat) : Bool := [1024, 1025, 1028, 1029, 1043, 1044, 1053, 1054, 1057].elem op
def q9fOl (op : Nat) (a b : Value) : Option Value := match op, a, b with
  | 1442, .long x, .long y => some (.long (q9fdV x y))
  | 1443, .long x, .int _ => some (.int (lg_cmp x 0))
  | 1444, .long x, .int _ => some (.long (x - 1))
  | 1445, .long x, .int _ => some (.long (2 * x))
  | _, _, _ => none
noncomputable def fO (op : Nat) (a b : Value) : Option Value := match a, b with
  | .int x, .int y => if q9loB op = true then (FL T N P J op x.toInt y.toInt).map Value.long else (FF T N P J t0 Sc op x.toInt y.toInt).bind q9th_mkI
  | a, b => q9fOl op a b
end OPS
section FFS
variable {T : Int → Int} {N P : Int} {J : Int → Int} {t0 : Int} {Sc : Int → Int}
theorem q9FF_1000 {a b : Int} : FF T N P J t0 Sc 1000 a b = (some (q9byI T N a)) := rfl
theorem q9FF_1002 {a b : Int} : FF T N P J t0 Sc 1002 a b = (some (q9spI T N a)) := rfl
theorem q9FF_1003 {a b : Int} : FF T N P J t0 Sc 1003 a b = (some (q9weI T N a)) := rfl
theorem q9FF_1004 {a b : Int} : FF T N P J t0 Sc 1004 a b = (some (q9deI T N a)) := rfl
theorem q9FF_1005 {a b : Int} : FF T N P J t0 Sc 1005 a b = (some (q9nvI T N a b)) := rfl
theorem q9FF_1007 {a b : Int} : FF T N P J t0 Sc 1007 a b = (some (if 48 ≤ q9byI T N a ∧ q9byI T N a ≤ 57 then 1 else 0)) := rfl
theorem q9FF_1008 {a b : Int} : FF T N P J t0 Sc 1008 a b = (some (q9wcI T N a)) := rfl
theorem q9FF_1009 {a b : Int} : FF T N P J t0 Sc 1009 a b = (some (if q9byI T N a = b then 1 else 0)) := rfl
theorem q9FF_1011 {a b : Int} : FF T N P J t0 Sc 1011 a b = (some (q9vrI T N a (Int32.ofInt b)).toInt) := rfl
theorem q9FF_1012 {a b : Int} : FF T N P J t0 Sc 1012 a b = (some (q9koI a)) := rfl
theorem q9FF_1013 {a b : Int} : FF T N P J t0 Sc 1013 a b = (some (q9kbI T N a)) := rfl
theorem q9FF_1015 {a b : Int} : FF T N P J t0 Sc 1015 a b = (some P) := rfl
theorem q9FF_1016 {a b : Int} : FF T N P J t0 Sc 1016 a b = (some (J a)) := rfl
theorem q9FF_1018 {a b : Int} : FF T N P J t0 Sc 1018 a b = (some N) := rfl
theorem q9FF_1020 {a b : Int} : FF T N P J t0 Sc 1020 a b = (chV fun (v : Int) => q9atI T N P J a fun _ => v = 1) := rfl
theorem q9FF_1021 {a b : Int} : FF T N P J t0 Sc 1021 a b = (chV fun (v : Int) => q9atI T N P J a fun c => v + 1 = c.2.2.length) := rfl
theorem q9FF_1022 {a b : Int} : FF T N P J t0 Sc 1022 a b = (chV fun (v : Int) => q9atI T N P J a fun c => v = c.2.1) := rfl
theorem q9FF_1023 {a b : Int} : FF T N P J t0 Sc 1023 a b = (chV fun (v : Int) => q9atI T N P J a fun c => 1 ≤ b ∧ ∃ e, q9enI c b = some e ∧ v = e.1) := rfl
theorem q9FF_1026 {a b : Int} : FF T N P J t0 Sc 1026 a b = (chV fun (v : Int) => ∃ c c', q9visI T N P J c ∧ q9th_nxI T N P J c = some c' ∧ c'.1 = a ∧ v = c.1) := rfl
theorem q9FF_1027 {a b : Int} : FF T N P J t0 Sc 1027 a b = (chV fun (v : Int) => q9atI T N P J a fun c => q9lkI T N c ≠ 8 ∧ (c.2.2.length < 2 → q9lkI T N c ≠ 9) ∧ v = 1) := rfl
theorem q9FF_1030 {a b : Int} : FF T N P J t0 Sc 1030 a b = (chV fun (v : Int) => ∃ c, q9prI T N P J c a ∧ v = 1) := rfl
theorem q9FF_1031 {a b : Int} : FF T N P J t0 Sc 1031 a b = (chV fun (v : Int) => ∃ c, q9prI T N P J c a ∧ v + (if q9lkI T N c = 8 then 2 else 1) = c.2.2.length) := rfl
theorem q9FF_1032 {a b : Int} : FF T N P J t0 Sc 1032 a b = (chV fun (v : Int) => ∃ c, q9prI T N P J c a ∧ v = c.2.1 + (if q9lkI T N c = 8 then 0 else 1)) := rfl
theorem q9FF_1033 {a b : Int} : FF T N P J t0 Sc 1033 a b = (chV fun (v : Int) => ∃ c, q9prI T N P J c a ∧ 1 ≤ b ∧ b + (if q9lkI T N c = 8 then 1 else 0) < c.2.2.length ∧ ∃ e, q9enI c b = some e ∧ v = e.1) := rfl
theorem q9FF_1034 {a b : Int} : FF T N P J t0 Sc 1034 a b = (chV fun (v : Int) => ∃ c, q9prI T N P J c a ∧ ∃ q st, c.2.2 = q :: st ∧ v = if q9lkI T N c = 8 then q.2.1 else c.1) := rfl
theorem q9FF_1035 {a b : Int} : FF T N P J t0 Sc 1035 a b = (chV fun (v : Int) => ∃ c c', q9prI T N P J c v ∧ q9th_nxI T N P J c = some c' ∧ c'.1 = a) := rfl
theorem q9FF_1036 {a b : Int} : FF T N P J t0 Sc 1036 a b = (chV fun (v : Int) => ∃ c, q9prI T N P J c a ∧ q9lkI T N c = 8 ∧ v = c.1) := rfl
theorem q9FF_1037 {a b : Int} : FF T N P J t0 Sc 1037 a b = (chV fun (v : Int) => q9atI T N P J a fun c => 1 ≤ b ∧ ∃ e, q9enI c b = some e ∧ v = e.2.1) := rfl
theorem q9FF_1038 {a b : Int} : FF T N P J t0 Sc 1038 a b = (chV fun (v : Int) => ∃ c, q9prI T N P J c a ∧ 1 ≤ b ∧ b + (if q9lkI T N c = 8 then 1 else 0) < c.2.2.length ∧ ∃ e, q9enI c b = some e ∧ v = e.2.1) := rfl
theorem q9FF_1040 {a b : Int} : FF T N P J t0 Sc 1040 a b = (chV fun (v : Int) => q9laI T N P J fun c => v = (q9th_reI T N P J c).1) := rfl
theorem q9FF_1041 {a b : Int} : FF T N P J t0 Sc 1041 a b = (chV fun (v : Int) => q9laI T N P J fun c => (q9th_reI T N P J c).1 ≠ 0 ∧ v = (q9th_reI T N P J c).2) := rfl
theorem q9FF_1042 {a b : Int} : FF T N P J t0 Sc 1042 a b = (chV fun (v : Int) => q9laI T N P J fun c => q9edI T N c ∧ v = c.2.1) := rfl
theorem q9FF_1045 {a b : Int} : FF T N P J t0 Sc 1045 a b = (some (finI T N P J).1) := rfl
theorem q9FF_1046 {a b : Int} : FF T N P J t0 Sc 1046 a b = (some (finI T N P J).2.1) := rfl
theorem q9FF_1047 {a b : Int} : FF T N P J t0 Sc 1047 a b = (some (finI T N P J).2.2) := rfl
theorem q9FF_1050 {a b : Int} : FF T N P J t0 Sc 1050 a b = (chV fun (v : Int) => ∃ c, q9visI T N P J c ∧ q9okL T N P J c ∧ c.2.1 = a ∧ v = q9lkI T N c) := rfl
theorem q9FF_1051 {a b : Int} : FF T N P J t0 Sc 1051 a b = (chV fun (v : Int) => ∃ c, q9visI T N P J c ∧ q9okL T N P J c ∧ c.2.1 = a ∧ v = q9amI T N P J (q9lkI T N c) (q9weI T N (q9spI T N c.1))) := rfl
theorem q9FF_1052 {a b : Int} : FF T N P J t0 Sc 1052 a b = (chV fun (v : Int) => q9enE T N P J a v) := rfl
theorem q9FF_1056 {a b : Int} : FF T N P J t0 Sc 1056 a b = (some 0) := rfl
theorem q9FF_1058 {a b : Int} : FF T N P J t0 Sc 1058 a b = (some (T a)) := rfl
theorem q9FF_1059 {a b : Int} : FF T N P J t0 Sc 1059 a b = ((if 0 ≤ t0 ∧ t0 ≤ 380 ∧ t0 ≤ a ∧ a ≤ t0 + 16 ∧ (a - t0) % 4 = 0 then some (Sc ((a - t0) / 4 + 1)) else none)) := rfl
theorem q9FF_1063 {a b : Int} : FF T N P J t0 Sc 1063 a b = (some (Sc a)) := rfl
theorem q9FF_1064 {a b : Int} : FF T N P J t0 Sc 1064 a b = (some t0) := rfl
theorem q9FL_1024 {a b : Int} : FL T N P J 1024 a b = (chV fun (v : Int64) => q9atI T N P J a fun c => ∃ e, q9enI c b = some e ∧ v = e.2.2.1) := rfl
theorem q9FL_1025 {a b : Int} : FL T N P J 1025 a b = (chV fun (v : Int64) => q9atI T N P J a fun c => ∃ e, q9enI c b = some e ∧ v = e.2.2.2) := rfl
theorem q9FL_1028 {a b : Int} : FL T N P J 1028 a b = (chV fun (v : Int64) => q9atI T N P J a fun c => ∃ q st, c.2.2 = q :: st ∧ v = q.2.2.2 + 1) := rfl
theorem q9FL_1029 {a b : Int} : FL T N P J 1029 a b = (chV fun (v : Int64) => q9atI T N P J a fun c => q9lkI T N c ≤ 1 ∧ ∃ q st, c.2.2 = q :: st ∧ v = q.2.2.1 + Int64.ofInt (q9amI T N P J (q9lkI T N c) (q9weI T N (q9spI T N c.1)))) := rfl
theorem q9FL_1043 {a b : Int} : FL T N P J 1043 a b = (chV fun (v : Int64) => q9laI T N P J fun c => q9edI T N c ∧ ∃ e, q9enI c 0 = some e ∧ v = e.2.2.1) := rfl
theorem q9FL_1044 {a b : Int} : FL T N P J 1044 a b = (chV fun (v : Int64) => q9laI T N P J fun c => q9edI T N c ∧ ∃ e, q9enI c 0 = some e ∧ v = e.2.2.2) := rfl
theorem q9FL_1053 {a b : Int} : FL T N P J 1053 a b = (chV fun (v : Int64) => ∃ n d, q9hsI T N P J n a b v d) := rfl
theorem q9FL_1054 {a b : Int} : FL T N P J 1054 a b = (chV fun (v : Int64) => ∃ n f, q9hsI T N P J n a b f v) := rfl
theorem q9FL_1057 {a b : Int} : FL T N P J 1057 a b = (chV fun (v : Int64) => ∃ n f d, q9hsI T N P J n a b f d ∧ v = d + 1) := rfl
theorem q9FF_1400 {a b : Int} : FF T N P J t0 Sc 1400 a b = ((qP T N P J a).map fun q => q.1) := rfl
theorem q9FF_1401 {a b : Int} : FF T N P J t0 Sc 1401 a b = ((qP T N P J a).map fun q => q.2.1) := rfl
theorem q9FF_1402 {a b : Int} : FF T N P J t0 Sc 1402 a b = ((qP T N P J a).map fun q => a - q.2.2.2.1) := rfl
theorem q9FF_1404 {a b : Int} : FF T N P J t0 Sc 1404 a b = ((qP T N P J a).map fun q => q.2.2.1) := rfl
theorem q9FF_1405 {a b : Int} : FF T N P J t0 Sc 1405 a b = ((qP T N P J a).map fun q => q.2.2.2.1 + 1 + b * bQ T N P J (q.1 + 1) (enP T N P J q.1)) := rfl
theorem q9FF_1406 {a b : Int} : FF T N P J t0 Sc 1406 a b = (some (cnQ T N P J a)) := rfl
theorem q9FF_1407 {a b : Int} : FF T N P J t0 Sc 1407 a b = ((qP T N P J a).map fun q => q.2.2.2.1 + lQ T N P J q.1) := rfl
theorem q9FF_1408 {a b : Int} : FF T N P J t0 Sc 1408 a b = ((qP T N P J a).map fun q => tpQ T N P J a q) := rfl
theorem q9FF_1409 {a b : Int} : FF T N P J t0 Sc 1409 a b = ((qP T N P J a).map fun q => q.2.2.2.2.1) := rfl
theorem q9FF_1410 {a b : Int} : FF T N P J t0 Sc 1410 a b = (some (axO T N P J a b).1) := rfl
theorem q9FF_1411 {a b : Int} : FF T N P J t0 Sc 1411 a b = (some (axO T N P J a b).2.1) := rfl
theorem q9FF_1412 {a b : Int} : FF T N P J t0 Sc 1412 a b = (some (axO T N P J a b).2.2.1) := rfl
theorem q9FF_1413 {a b : Int} : FF T N P J t0 Sc 1413 a b = (some (axO T N P J a b).2.2.2.1) := rfl
theorem q9FF_1414 {a b : Int} : FF T N P J t0 Sc 1414 a b = (some (axO T N P J a b).2.2.2.2.2.1) := rfl
theorem q9FF_1415 {a b : Int} : FF T N P J t0 Sc 1415 a b = (some (axO T N P J a b).2.2.2.2.1) := rfl
theorem q9FF_1416 {a b : Int} : FF T N P J t0 Sc 1416 a b = (some (axO T N P J a b).2.2.2.2.2.2) := rfl
theorem q9FF_1420 {a b : Int} : FF T N P J t0 Sc 1420 a b = (chV fun (v : Int) => q9whE T N P J a v) := rfl
theorem q9FF_1421 {a b : Int} : FF T N P J t0 Sc 1421 a b = (chV fun (v : Int) => q9vlE T N P J a v) := rfl
theorem q9FF_1422 {a b : Int} : FF T N P J t0 Sc 1422 a b = (chV fun (v : Int) => q9esE T N P J a v) := rfl
theorem q9FF_1430 {a b : Int} : FF T N P J t0 Sc 1430 a b = (axC T N P J a) := rfl
theorem q9FF_1432 {a b : Int} : FF T N P J t0 Sc 1432 a b = (some (q9shnI Sc)) := rfl
theorem q9FF_1433 {a b : Int} : FF T N P J t0 Sc 1433 a b = (axC T N P J (a - 1200 * q9shnI Sc)) := rfl
theorem q9FF_1434 {a b : Int} : FF T N P J t0 Sc 1434 a b = (some (1200 * q9shnI Sc + 3 * a)) := rfl
theorem q9FF_1435 {a b : Int} : FF T N P J t0 Sc 1435 a b = (some (400 * q9shnI Sc + a)) := rfl
theorem q9FF_1436 {a b : Int} : FF T N P J t0 Sc 1436 a b = (some 1) := rfl
theorem q9FF_1440 {a b : Int} : FF T N P J t0 Sc 1440 a b = (some (q9cdI a b)) := rfl
theorem q9FF_1441 {a b : Int} : FF T N P J t0 Sc 1441 a b = (some (q9easI a b)) := rfl
theorem q9FF_1460 {a b : Int} : FF T N P J t0 Sc 1460 a b = (some (q9axwI T N a)) := rfl
theorem q9FF_1461 {a b : Int} : FF T N P J t0 Sc 1461 a b = (some (q9lwhI T N a)) := rfl
theorem q9FF_1462 {a b : Int} : FF T N P J t0 Sc 1462 a b = (some (q9lvlI T N a)) := rfl
theorem q9FF_1463 {a b : Int} : FF T N P J t0 Sc 1463 a b = (some (q9ezvI T N a)) := rfl
theorem q9FF_1464 {a b : Int} : FF T N P J t0 Sc 1464 a b = (some (q9les6I T N a)) := rfl
theorem q9FF_1465 {a b : Int} : FF T N P J t0 Sc 1465 a b = (some (q9les1I T N P J a)) := rfl
theorem q9FF_1100 {a b : Int} : FF T N P J t0 Sc 1100 a b = some (q9wsI T N 0 a) := rfl
theorem q9FF_1101 {a b : Int} : FF T N P J t0 Sc 1101 a b = some (q9wsI T N 1 a) := rfl
theorem q9FF_1102 {a b : Int} : FF T N P J t0 Sc 1102 a b = some (q9wsI T N 2 a) := rfl
theorem q9FF_1103 {a b : Int} : FF T N P J t0 Sc 1103 a b = some (q9wsI T N 3 a) := rfl
theorem q9FF_1104 {a b : Int} : FF T N P J t0 Sc 1104 a b = some (q9wsI T N 4 a) := rfl
theorem q9FF_1105 {a b : Int} : FF T N P J t0 Sc 1105 a b = some (q9wsI T N 5 a) := rfl
theorem q9FF_1106 {a b : Int} : FF T N P J t0 Sc 1106 a b = some (q9wsI T N 6 a) := rfl
theorem q9FF_1107 {a b : Int} : FF T N P J t0 Sc 1107 a b = some (q9wsI T N 7 a) := rfl
theorem q9FF_1108 {a b : Int} : FF T N P J t0 Sc 1108 a b = some (q9wsI T N 8 a) := rfl
theorem q9FF_1109 {a b : Int} : FF T N P J t0 Sc 1109 a b = some (q9wsI T N 9 a) := rfl
theorem q9FF_1110 {a b : Int} : FF T N P J t0 Sc 1110 a b = some (q9wsI T N 10 a) := rfl
theorem q9FF_1111 {a b : Int} : FF T N P J t0 Sc 1111 a b = some (q9wsI T N 11 a) := rfl
theorem q9FF_1112 {a b : Int} : FF T N P J t0 Sc 1112 a b = some (q9wsI T N 12 a) := rfl
theorem q9FF_1113 {a b : Int} : FF T N P J t0 Sc 1113 a b = some (q9wsI T N 13 a) := rfl
theorem q9FF_1114 {a b : Int} : FF T N P J t0 Sc 1114 a b = some (q9wsI T N 14 a) := rfl
theorem q9FF_1115 {a b : Int} : FF T N P J t0 Sc 1115 a b = some (q9wsI T N 15 a) := rfl
theorem q9FF_1116 {a b : Int} : FF T N P J t0 Sc 1116 a b = some (q9wsI T N 16 a) := rfl
theorem q9FF_1117 {a b : Int} : FF T N P J t0 Sc 1117 a b = some (q9wsI T N 17 a) := rfl
theorem q9FF_1118 {a b : Int} : FF T N P J t0 Sc 1118 a b = some (q9wsI T N 18 a) := rfl
theorem q9FF_1200 {a b : Int} : FF T N P J t0 Sc 1200 a b = some (q9tkI T N P J 0 b a).1 := rfl
theorem q9FF_1201 {a b : Int} : FF T N P J t0 Sc 1201 a b = some (q9tkI T N P J 0 b a).2 := rfl
theorem q9FF_1202 {a b : Int} : FF T N P J t0 Sc 1202 a b = some (q9tkI T N P J 1 b a).1 := rfl
theorem q9FF_1203 {a b : Int} : FF T N P J t0 Sc 1203 a b = some (q9tkI T N P J 1 b a).2 := rfl
theorem q9FF_1204 {a b : Int} : FF T N P J t0 Sc 1204 a b = some (q9tkI T N P J 2 b a).1 := rfl
theorem q9FF_1205 {a b : Int} : FF T N P J t0 Sc 1205 a b = some (q9tkI T N P J 2 b a).2 := rfl
theorem q9FF_1206 {a b : Int} : FF T N P J t0 Sc 1206 a b = some (q9tkI T N P J 3 b a).1 := rfl
theorem q9FF_1207 {a b : Int} : FF T N P J t0 Sc 1207 a b = some (q9tkI T N P J 3 b a).2 := rfl
theorem q9FF_1208 {a b : Int} : FF T N P J t0 Sc 1208 a b = some (q9tkI T N P J 4 b a).1 := rfl
theorem q9FF_1209 {a b : Int} : FF T N P J t0 Sc 1209 a b = some (q9tkI T N P J 4 b a).2 := rfl
theorem q9FF_1210 {a b : Int} : FF T N P J t0 Sc 1210 a b = some (q9tkI T N P J 5 b a).1 := rfl
theorem q9FF_1211 {a b : Int} : FF T N P J t0 Sc 1211 a b = some (q9tkI T N P J 5 b a).2 := rfl
theorem q9FF_1212 {a b : Int} : FF T N P J t0 Sc 1212 a b = some (q9tkI T N P J 6 b a).1 := rfl
theorem q9FF_1213 {a b : Int} : FF T N P J t0 Sc 1213 a b = some (q9tkI T N P J 6 b a).2 := rfl
theorem q9FF_1214 {a b : Int} : FF T N P J t0 Sc 1214 a b = some (q9tkI T N P J 7 b a).1 := rfl
theorem q9FF_1215 {a b : Int} : FF T N P J t0 Sc 1215 a b = some (q9tkI T N P J 7 b a).2 := rfl
theorem q9FF_1216 {a b : Int} : FF T N P J t0 Sc 1216 a b = some (q9tkI T N P J 8 b a).1 := rfl
theorem q9FF_1217 {a b : Int} : FF T N P J t0 Sc 1217 a b = some (q9tkI T N P J 8 b a).2 := rfl
theorem q9FF_1218 {a b : Int} : FF T N P J t0 Sc 1218 a b = some (q9tkI T N P J 9 b a).1 := rfl
theorem q9FF_1219 {a b : Int} : FF T N P J t0 Sc 1219 a b = some (q9tkI T N P J 9 b a).2 := rfl
theorem q9FF_1220 {a b : Int} : FF T N P J t0 Sc 1220 a b = some (q9tkI T N P J 10 b a).1 := rfl
theorem q9FF_1221 {a b : Int} : FF T N P J t0 Sc 1221 a b = some (q9tkI T N P J 10 b a).2 := rfl
theorem q9FF_1222 {a b : Int} : FF T N P J t0 Sc 1222 a b = some (q9tkI T N P J 11 b a).1 := rfl
theorem q9FF_1223 {a b : Int} : FF T N P J t0 Sc 1223 a b = some (q9tkI T N P J 11 b a).2 := rfl
theorem q9FF_1224 {a b : Int} : FF T N P J t0 Sc 1224 a b = some (q9tkI T N P J 12 b a).1 := rfl
theorem q9FF_1225 {a b : Int} : FF T N P J t0 Sc 1225 a b = some (q9tkI T N P J 12 b a).2 := rfl
theorem q9FF_1226 {a b : Int} : FF T N P J t0 Sc 1226 a b = some (q9tkI T N P J 13 b a).1 := rfl
theorem q9FF_1227 {a b : Int} : FF T N P J t0 Sc 1227 a b = some (q9tkI T N P J 13 b a).2 := rfl
theorem q9FF_1228 {a b : Int} : FF T N P J t0 Sc 1228 a b = some (q9tkI T N P J 14 b a).1 := rfl
theorem q9FF_1229 {a b : Int} : FF T N P J t0 Sc 1229 a b = some (q9tkI T N P J 14 b a).2 := rfl
theorem q9FF_1240 {a b : Int} : FF T N P J t0 Sc 1240 a b = some (q9tkI T N P J 20 b a).1 := rfl
theorem q9FF_1241 {a b : Int} : FF T N P J t0 Sc 1241 a b = some (q9tkI T N P J 20 b a).2 := rfl
theorem q9FF_1260 {a b : Int} : FF T N P J t0 Sc 1260 a b = some (q9tkI T N P J 30 b a).1 := rfl
theorem q9FF_1261 {a b : Int} : FF T N P J t0 Sc 1261 a b = some (q9tkI T N P J 30 b a).2 := rfl
theorem q9FF_1262 {a b : Int} : FF T N P J t0 Sc 1262 a b = some (q9tkI T N P J 31 b a).1 := rfl
theorem q9FF_1263 {a b : Int} : FF T N P J t0 Sc 1263 a b = some (q9tkI T N P J 31 b a).2 := rfl
theorem q9FF_1264 {a b : Int} : FF T N P J t0 Sc 1264 a b = some (q9tkI T N P J 32 b a).1 := rfl
theorem q9FF_1265 {a b : Int} : FF T N P J t0 Sc 1265 a b = some (q9tkI T N P J 32 b a).2 := rfl
theorem q9FF_1266 {a b : Int} : FF T N P J t0 Sc 1266 a b = some (q9tkI T N P J 33 b a).1 := rfl
theorem q9FF_1267 {a b : Int} : FF T N P J t0 Sc 1267 a b = some (q9tkI T N P J 33 b a).2 := rfl
theorem q9FF_1268 {a b : Int} : FF T N P J t0 Sc 1268 a b = some (q9tkI T N P J 34 b a).1 := rfl
theorem q9FF_1269 {a b : Int} : FF T N P J t0 Sc 1269 a b = some (q9tkI T N P J 34 b a).2 := rfl
theorem q9FF_1270 {a b : Int} : FF T N P J t0 Sc 1270 a b = some (q9tkI T N P J 35 b a).1 := rfl
theorem q9FF_1271 {a b : Int} : FF T N P J t0 Sc 1271 a b = some (q9tkI T N P J 35 b a).2 := rfl
theorem q9FF_1272 {a b : Int} : FF T N P J t0 Sc 1272 a b = some (q9tkI T N P J 36 b a).1 := rfl
theorem q9FF_1273 {a b : Int} : FF T N P J t0 Sc 1273 a b = some (q9tkI T N P J 36 b a).2 := rfl
theorem q9FF_1300 {a b : Int} : FF T N P J t0 Sc 1300 a b = some (q9amI T N P J 0 a) := rfl
theorem q9FF_1301 {a b : Int} : FF T N P J t0 Sc 1301 a b = some (q9amI T N P J 1 a) := rfl
theorem q9FF_1306 {a b : Int} : FF T N P J t0 Sc 1306 a b = some (q9amI T N P J 6 a) := rfl
theorem q9FF_1307 {a b : Int} : FF T N P J t0 Sc 1307 a b = some (q9amI T N P J 7 a) := rfl
end FFS
/-! from values to ints -/
theorem q9exo_hi {f : Nat → Value → Value → Option Value} {o : Nat} (h : 1000 ≤ o) {a b : Value} : q9exo f o a b = f o a b := by
  unfold q9exo
  split
  all_goals first
    | omega
    | rw [if_pos h]
section VAL
variable {T : Int → Int} {N P : Int} {J : Int → Int} {t0 : Int} {Sc : Int → Int} {w : Nat → Value}
theorem q9evZ (h : w 0 = .int 0) : q9ev w (0, 0) = .int 0 := by
  rw [q9ev_zero]
  exact h
theorem q9evC (h : w 0 = .int 0) (d : Int) : q9ev w (0, d) = .int (Int32.ofInt d) := by
  unfold q9ev
  dsimp only
  rw [h]
  show Value.int (0 + Int32.ofInt d) = _
  rw [Int32.zero_add]
theorem q9evS {k : Nat} {v : Value} (h : w k = v) : q9ev w (k, 0) = v := by
  rw [q9ev_zero]
  exact h
theorem q9evO {k : Nat} {x : Int32} (h : w k = .int x) (d : Int) : q9ev w (k, d) = .int (x + Int32.ofInt d) := by
  unfold q9ev
  dsimp only
  rw [h]
theorem q9th_pX {op : Nat} {a b c : q9AV} {x y z : Int32} (ha : q9ev w a = .int x) (hb : q9ev w b = .int y) (hc : q9ev w c = .int z) (h : q9exo (fO T N P J t0 Sc) op (q9ev w a) (q9ev w b) = some (q9ev w c)) (ho : 1000 ≤ op ∧ q9loB op = false) : FF T N P J t0 Sc op x.toInt y.toInt = some z.toInt := by
  rw [q9exo_hi ho.1, ha, hb, hc] at h
  unfold fO at h
  dsimp only at h
  rw [if_neg (by rw [ho.2]; exact Bool.false_ne_true)] at h
  cases hF : FF T N P J t0 Sc op x.toInt y.toInt with
  | none => rw [hF] at h; cases h
  | some v =>
    rw [hF] at h
    have h : q9th_mkI v = some (.int z) := h
    rw [q9mkI_of h]
theorem q9pL {op : Nat} {a b c : q9AV} {x y : Int32} {z : Int64} (ha : q9ev w a = .int x) (hb : q9ev w b = .int y) (hc : q9ev w c = .long z) (h : q9exo (fO T N P J t0 Sc) op (q9ev w a) (q9ev w b) = some (q9ev w c)) (ho : 1000 ≤ op ∧ q9loB op = true) : FL T N P J op x.toInt y.toInt = some z := by
  rw [q9exo_hi ho.1, ha, hb, hc] at h
  unfold fO at h
  dsimp only at h
  rw [if_pos ho.2] at h
  cases hF : FL T N P J op x.toInt y.toInt with
  | none => rw [hF] at h; cases h
  | some v =>
    rw [hF] at h
    cases h
    rfl
theorem q9pB {op : Nat} {a b c : q9AV} {x y z : Value} (ha : q9ev w a = x) (hb : q9ev w b = y) (hc : q9ev w c = z) (h : q9exo (fO T N P J t0 Sc) op (q9ev w a) (q9ev w b) = some (q9ev w c)) : q9exo (fO T N P J t0 Sc) op x y = some z := by
  rw [ha, hb, hc] at h
  exact h
theorem q9pV {op : Nat} {a b : q9AV} {x y : Int32} {n : Int} (ha : q9ev w a = .int x) (hb : q9ev w b = .int y) (h : q9exo (fO T N P J t0 Sc) op (q9ev w a) (q9ev w b) = some (.int (Int32.ofInt n))) (ho : 1000 ≤ op ∧ q9loB op = false ∧ -2147483648 ≤ n ∧ n ≤ 2147483647) : FF T N P J t0 Sc op x.toInt y.toInt = some n := by
  rw [q9exo_hi ho.1, ha, hb] at h
  unfold fO at h
  dsimp only at h
  rw [if_neg (by rw [ho.2.1]; exact Bool.false_ne_true)] at h
  cases hF : FF T N P J t0 Sc op x.toInt y.toInt with
  | none => rw [hF] at h; cases h
  | some v =>
    rw [hF] at h
    have h : q9th_mkI v = some (.int (Int32.ofInt n)) := h
    rw [q9mkI_of h, q9oI_toInt ho.2.2]
theorem q9pC {a b : q9AV} {x y : Int32} {d : Int} (ha : q9ev w a = .int x) (hb : q9ev w b = .int y) (h : q9nw (q9ev w a) ≤ q9nw (q9ev w b) + d) : x.toInt ≤ y.toInt + d := by
  rw [ha, hb] at h
  exact h
theorem q9th_tX {op : Nat} {a b c : q9AV} {x y z : Int32} (ha : q9ev w a = .int x) (hb : q9ev w b = .int y) (hc : q9ev w c = .int z) (h : FF T N P J t0 Sc op x.toInt y.toInt = some z.toInt) (ho : 1000 ≤ op ∧ q9loB op = false) : q9exo (fO T N P J t0 Sc) op (q9ev w a) (q9ev w b) = some (q9ev w c) := by
  rw [q9exo_hi ho.1, ha, hb, hc]
  unfold fO
  dsimp only
  rw [if_neg (by rw [ho.2]; exact Bool.false_ne_true), h]
  exact q9mkI_to rfl
theorem q9th_tL {op : Nat} {a b c : q9AV} {x y : Int32} {z : Int64} (ha : q9ev w a = .int x) (hb : q9ev w b = .int y) (hc : q9ev w c = .long z) (h : FL T N P J op x.toInt y.toInt = some z) (ho : 1000 ≤ op ∧ q9loB op = true) : q9exo (fO T N P J t0 Sc) op (q9ev w a) (q9ev w b) = some (q9ev w c) := by
  rw [q9exo_hi ho.1, ha, hb, hc]
  unfold fO
  dsimp only
  rw [if_pos ho.2, h]
  rfl
theorem q9th_tC {a b : q9AV} {x y : Int32} {d : Int} (ha : q9ev w a = .int x) (hb : q9ev w b = .int y) (h : x.toInt ≤ y.toInt + d) : q9nw (q9ev w a) ≤ q9nw (q9ev w b) + d := by
  rw [ha, hb]
  exact h
theorem q9upN_of {n k : Nat} {vs : List Value} {v : Value} (hk : k < n) (h : w k = v) : q9upN w n vs k = v := by
  unfold q9upN
  rw [if_pos hk]
  exact h
theorem q9upN_at {n k : Nat} {vs : List Value} (hk : n ≤ k) : q9upN w n vs k = vs.getD (k - n) .null := by
  unfold q9upN
  rw [if_neg (by omega)]
end VAL
/-! what the rules want of the model -/
theorem q9ad32 {x : Int32} {d : Int} (h : -2147483648 ≤ x.toInt + d ∧ x.toInt + d ≤ 2147483647 ∧ -2147483648 ≤ d ∧ d ≤ 2147483647) : (x + Int32.ofInt d).toInt = x.toInt + d := by
  rw [Int32.toInt_add, q9oI_toInt (by omega), Int.bmod_eq_of_le (by omega) (by omega)]
theorem q9su32 {f : Nat → Value → Value → Option Value} {x y z : Int32} (h : q9exo f 1 (.int x) (.int y) = some (.int z)) (h1 : -2147483648 ≤ x.toInt - y.toInt ∧ x.toInt - y.toInt ≤ 2147483647) : z.toInt = x.toInt - y.toInt := by
  have h : some (Value.int (x - y)) = some (.int z) := h
  have h := Value.int.inj (Option.some.inj h)
  rw [← h, Int32.toInt_sub, Int.bmod_eq_of_le (by omega) (by omega)]
theorem q9su32t {f : Nat → Value → Value → Option Value} {x y z : Int32} (h : z.toInt = x.toInt - y.toInt) : q9exo f 1 (.int x) (.int y) = some (.int z) := by
  show some (Value.int (x - y)) = _
  have h1 := Int32.le_toInt z
  have h2 := Int32.toInt_lt z
  rw [show x - y = z from Int32.toInt_inj.mp (by rw [Int32.toInt_sub, h, Int.bmod_eq_of_le (by omega) (by omega)])]
theorem q9mu32 {f : Nat → Value → Value → Option Value} {x y z : Int32} (h : q9exo f 2 (.int x) (.int y) = some (.int z)) (h1 : -2147483648 ≤ x.toInt * y.toInt ∧ x.toInt * y.toInt ≤ 2147483647) : z.toInt = x.toInt * y.toInt := by
  have h : some (Value.int (x * y)) = some (.int z) := h
  have h := Value.int.inj (Option.some.inj h)
  rw [← h, Int32.toInt_mul, Int.bmod_eq_of_le (by omega) (by omega)]
theorem q9aa32 {f : Nat → Value → Value → Option Value} {x y z : Int32} (h : q9exo f 0 (.int x) (.int y) = some (.int z)) (h1 : -2147483648 ≤ x.toInt + y.toInt ∧ x.toInt + y.toInt ≤ 2147483647) : z.toInt = x.toInt + y.toInt := by
  have h : some (Value.int (x + y)) = some (.int z) := h
  have h := Value.int.inj (Option.some.inj h)
  rw [← h, Int32.toInt_add, Int.bmod_eq_of_le (by omega) (by omega)]
theorem q9mi32 {f : Nat → Value → Value → Option Value} {x y z : Int32} (h : q9exo f 61 (.int x) (.int y) = some (.int z)) : z.toInt = min x.toInt y.toInt := by
  have h : some (Value.int (if x.toInt ≤ y.toInt then x else y)) = some (.int z) := h
  have h := Value.int.inj (Option.some.inj h)
  rw [← h]
  split
  all_goals omega
theorem q9ma32 {f : Nat → Value → Value → Option Value} {x y z : Int32} (h : q9exo f 60 (.int x) (.int y) = some (.int z)) : z.toInt = max x.toInt y.toInt := by
  have h : some (Value.int (if x.toInt ≤ y.toInt then y else x)) = some (.int z) := h
  have h := Value.int.inj (Option.some.inj h)
  rw [← h]
  split
  all_goals omega
section SCN
variable {T : Int → Int} {N : Int} {i : Int}
theorem q9sp_yes (h : q9byI T N i = 32) : q9spI T N i = q9spI T N (i + 1) := q9scN_yes (q9byI_lt (T := T) (N := N) (i := i) (by omega)).2 (decide_eq_true h)
theorem q9sp_no (h : q9byI T N i ≠ 32) : q9spI T N i = i := q9scN_no (decide_eq_false h)
theorem q9we_yes (h : 97 ≤ q9byI T N i ∧ q9byI T N i ≤ 122) : q9weI T N i = q9weI T N (i + 1) := q9scN_yes (q9byI_lt (T := T) (N := N) (i := i) (by omega)).2 (decide_eq_true h)
theorem q9we_no (h : q9byI T N i ≤ 96 ∨ 123 ≤ q9byI T N i) : q9weI T N i = i := q9scN_no (decide_eq_false (by omega))
theorem q9de_yes (h : 48 ≤ q9byI T N i ∧ q9byI T N i ≤ 57) : q9deI T N i = q9deI T N (i + 1) := q9scN_yes (q9byI_lt (T := T) (N := N) (i := i) (by omega)).2 (decide_eq_true h)
theorem q9de_no (h : q9byI T N i ≤ 47 ∨ 58 ≤ q9byI T N i) : q9deI T N i = i := q9scN_no (decide_eq_false (by omega))
theorem q9sp_sp : q9spI T N (q9spI T N i) = q9spI T N i := q9sp_no fun h => by
  have hs : q9isBl T N (q9spI T N i) = false := q9scN_stop fun i hi => q9isBl_lt hi
  exact of_decide_eq_false hs h
theorem q9nv_cap {v : Int} (h : 0 ≤ v) : q9nvI T N i v = q9nvI T N i (min 1000000 v) := by
  unfold q9nvI
  rw [show min 1000000 (max 0 v) = min 1000000 (max 0 (min 1000000 v)) by omega]
theorem q9ws_len {t : Nat} (h : q9weI T N i - i ≠ (q9TXW.getD t []).length) : q9wsI T N t i = 0 := by
  unfold q9wsI q9wiI
  rw [if_neg fun hc => h hc.1]
theorem q9ws_ne {t : Nat} (j : Nat) (hj : j < (q9TXW.getD t []).length) (h : q9byI T N (i + j) ≠ (q9TXW.getD t []).getD j 0) : q9wsI T N t i = 0 := by
  unfold q9wsI q9wiI
  rw [if_neg fun hc => h (hc.2 j hj)]
theorem q9ws_yes {t : Nat} (h1 : q9weI T N i - i = (q9TXW.getD t []).length) (h2 : ∀ j : Nat, j < (q9TXW.getD t []).length → q9byI T N (i + j) = (q9TXW.getD t []).getD j 0) : q9wsI T N t i = 1 := by
  unfold q9wsI q9wiI
  rw [if_pos ⟨h1, h2⟩]
theorem q9ws_b0 {t : Nat} (ht : t < 19) (h : q9wsI T N t i = 1) : q9byI T N i = (q9TXW.getD t []).getD 0 0 := by
  have := (q9TXW_ok t ht).1
  unfold q9wsI q9wiI at h
  split at h
  · rename_i hc
    have h0 := hc.2 0 (by omega)
    rw [show i + ((0 : Nat) : Int) = i by omega] at h0
    exact h0
  · omega
end SCN
theorem q9byI_rng {T : Int → Int} {N i : Int} (hT : ∀ i, 0 ≤ T i ∧ T i ≤ 255) : -1 ≤ q9byI T N i ∧ q9byI T N i ≤ 255 := by
  unfold q9byI
  have := hT i
  split
  all_goals omega
theorem q9oI_of {x : Int32} : Int32.ofInt x.toInt = x := Int32.toInt_inj.mp (q9oI_toInt (by have := Int32.le_toInt x; have := Int32.toInt_lt x; omega))
theorem q9add_oI {x : Int32} {d : Int} (h : -2147483648 ≤ x.toInt + d ∧ x.toInt + d ≤ 2147483647 ∧ -2147483648 ≤ d ∧ d ≤ 2147483647) : x + Int32.ofInt d = Int32.ofInt (x.toInt + d) := Int32.toInt_inj.mp (by rw [q9ad32 h, q9oI_toInt ⟨h.1, h.2.1⟩])
theorem q9sub_11 {x y : Int32} : (x + Int32.ofInt 1) - (y + Int32.ofInt 1) = x - y := by
  apply Int32.toBitVec_inj.mp
  show (x.toBitVec + 1#32) - (y.toBitVec + 1#32) = x.toBitVec - y.toBitVec
  apply BitVec.eq_of_toNat_eq
  rw [BitVec.toNat_sub, BitVec.toNat_sub, BitVec.toNat_add, BitVec.toNat_add]
  have h1 := x.toBitVec.isLt
  have h2 := y.toBitVec.isLt
  have e : (1#32).toNat = 1 := rfl
  rw [e]
  omega
theorem q9tB {T : Int → Int} {N P : Int} {J : Int → Int} {t0 : Int} {Sc : Int → Int} {w : Nat → Value} {op : Nat} {a b c : q9AV} {x y z : Value} (ha : q9ev w a = x) (hb : q9ev w b = y) (hc : q9ev w c = z) (h : q9exo (fO T N P J t0 Sc) op x y = some z) : q9exo (fO T N P J t0 Sc) op (q9ev w a) (q9ev w b) = some (q9ev w c) := by
  rw [ha, hb, hc]
  exact h
section TKL
variable {T : Int → Int} {N P : Int} {J : Int → Int} {a p e v lo hi : Int}
theorem q9tkN_0 (h1 : q9spI T N a = p) (h2 : q9deI T N p = e) (h3 : q9nvI T N p 0 = v) (h4 : p < e) (h5 : lo ≤ v) (h6 : v ≤ hi) : q9tkN T N lo hi a = (0, e) := by
  unfold q9tkN
  rw [h1, h2, h3, if_neg (by omega), if_pos ⟨h5, h6⟩]
theorem q9tkN_1 (h1 : q9spI T N a = p) (h2 : q9deI T N p = e) (h4 : e ≤ p) : q9tkN T N lo hi a = (1, p) := by
  unfold q9tkN
  rw [h1, h2, if_pos h4]
theorem q9tkN_2 (h1 : q9spI T N a = p) (h2 : q9deI T N p = e) (h3 : q9nvI T N p 0 = v) (h4 : p < e) (h5 : v < lo ∨ hi < v) : q9tkN T N lo hi a = (2, p) := by
  unfold q9tkN
  rw [h1, h2, h3, if_neg (by omega), if_neg (by omega)]
theorem q9tkW_0 {ts : List Nat} {t : Nat} (ht : t ∈ ts) (h1 : q9spI T N a = p) (h2 : 1 ≤ q9wsI T N t p) (h3 : q9weI T N p = e) : q9tkW T N ts a = (0, e) := by
  have hw : q9wsI T N t p = 1 := by
    rcases q9ws_01 (T := T) (N := N) (t := t) (i := p) with h | h
    · exact h
    · omega
  unfold q9tkW
  rw [h1, h3, if_pos ⟨t, ht, hw⟩]
theorem q9tkW_1 {ts : List Nat} (h1 : q9spI T N a = p) (h2 : ∀ t ∈ ts, q9wsI T N t p ≤ 0) : q9tkW T N ts a = (1, p) := by
  unfold q9tkW
  rw [h1, if_neg fun ⟨t, ht, hw⟩ => by
    have := h2 t ht
    omega]
theorem q9tkS_0 {s : Int} (h1 : q9spI T N a = p) (h2 : q9byI T N p = s) : q9tkS T N s a = (0, p + 1) := by
  unfold q9tkS
  rw [h1, if_pos h2]
theorem q9tkS_1 {s : Int} (h1 : q9spI T N a = p) (h2 : q9byI T N p ≠ s) : q9tkS T N s a = (1, p) := by
  unfold q9tkS
  rw [h1, if_neg h2]
theorem q9tkR_c {t : Int → q9TK2} {ts : List (Int → q9TK2)} {q : Int} (h1 : (t a).1 = 0) (h2 : (t a).2 = q) : q9tkR (t :: ts) a = q9tkR ts q := by
  show (if (t a).1 = 0 then q9tkR ts (t a).2 else t a) = q9tkR ts q
  rw [if_pos h1, h2]
theorem q9tkR_f {t : Int → q9TK2} {ts : List (Int → q9TK2)} (h1 : 1 ≤ (t a).1) : q9tkR (t :: ts) a = t a := by
  unfold q9tkR
  rw [if_neg (by omega)]
theorem q9is_1 {s k : Int} (h : (if q9byI T N p = s then (1 : Int) else 0) = k) (hk : 1 ≤ k) : q9byI T N p = s := by
  split at h
  · assumption
  · omega
theorem q9is_0 {s k : Int} (h : (if q9byI T N p = s then (1 : Int) else 0) = k) (hk : k ≤ 0) : q9byI T N p ≠ s := by
  split at h
  · omega
  · assumption
end TKL
section AIM
variable {T : Int → Int} {N P : Int} {J : Int → Int}
theorem q9aimF_fuel : ∀ (k m : Nat) (a : Int), (N - a).toNat + 1 ≤ k → (N - a).toNat + 1 ≤ m → q9aimF T N P J k a = q9aimF T N P J m a
  | 0, _, a, h, _ => by omega
  | k + 1, 0, a, _, h => by omega
  | k + 1, m + 1, a, h1, h2 => by
    unfold q9aimF
    split
    · split
      · rename_i hb
        have h4 := q9byI_lt (T := T) (N := N) (i := q9spI T N (q9aimI T N P J a).2) (by omega)
        have h5 := (q9aim_G (T := T) (N := N) (P := P) (J := J) a).1
        have h6 := q9sp_ge (T := T) (N := N) (i := (q9aimI T N P J a).2)
        exact q9aimF_fuel k m _ (by omega) (by omega)
      · rfl
    · rfl
theorem q9tk35_1 {a p : Int} (h1 : (q9aimI T N P J a).1 = 0) (h2 : q9spI T N (q9aimI T N P J a).2 = p) (h3 : q9byI T N p = 44) : q9tk35 T N P J a = q9tk35 T N P J (p + 1) := by
  have h4 := q9byI_lt (T := T) (N := N) (i := p) (by omega)
  have h5 := (q9aim_G (T := T) (N := N) (P := P) (J := J) a).1
  have h6 := q9sp_ge (T := T) (N := N) (i := (q9aimI T N P J a).2)
  show q9aimF T N P J ((N - a).toNat + 1) a = q9aimF T N P J ((N - (p + 1)).toNat + 1) (p + 1)
  show (if (q9aimI T N P J a).1 = 0 then _ else _) = _
  rw [if_pos h1, h2, if_pos h3]
  exact q9aimF_fuel _ _ _ (by omega) (by omega)
theorem q9tk35_0 {a p : Int} (h1 : (q9aimI T N P J a).1 = 0) (h2 : q9spI T N (q9aimI T N P J a).2 = p) (h3 : q9byI T N p ≠ 44) : q9tk35 T N P J a = (0, p) := by
  show (if (q9aimI T N P J a).1 = 0 then _ else _) = _
  rw [if_pos h1, h2, if_neg h3]
theorem q9tk35_f {a : Int} (h1 : 1 ≤ (q9aimI T N P J a).1) : q9tk35 T N P J a = q9aimI T N P J a := by
  show (if (q9aimI T N P J a).1 = 0 then _ else _) = _
  rw [if_neg (by omega)]
/-- kinds of faults of what is read of a line -/
def q9tkB (t : Int → q9TK2) : Prop := ∀ a, 0 ≤ (t a).1 ∧ (t a).1 ≤ 2
theorem q9tkN_B {lo hi : Int} : q9tkB (q9tkN T N lo hi) := fun a => by
  unfold q9tkN
  split
  · exact ⟨(by decide : (0 : Int) ≤ 1), (by decide : (1 : Int) ≤ 2)⟩
  · split
    · exact ⟨(by decide : (0 : Int) ≤ 0), (by decide : (0 : Int) ≤ 2)⟩
    · exact ⟨(by decide : (0 : Int) ≤ 2), (by decide : (2 : Int) ≤ 2)⟩
theorem q9tkW_B {ts : List Nat} : q9tkB (q9tkW T N ts) := fun a => by
  unfold q9tkW
  split
  · exact ⟨(by decide : (0 : Int) ≤ 0), (by decide : (0 : Int) ≤ 2)⟩
  · exact ⟨(by decide : (0 : Int) ≤ 1), (by decide : (1 : Int) ≤ 2)⟩
theorem q9tkS_B {s : Int} : q9tkB (q9tkS T N s) := fun a => by
  unfold q9tkS
  split
  · exact ⟨(by decide : (0 : Int) ≤ 0), (by decide : (0 : Int) ≤ 2)⟩
  · exact ⟨(by decide : (0 : Int) ≤ 1), (by decide : (1 : Int) ≤ 2)⟩
theorem q9tk12_B : q9tkB (q9tk12 T N) := fun a => by
  unfold q9tk12
  split
  · exact ⟨(by decide : (0 : Int) ≤ 0), (by decide : (0 : Int) ≤ 2)⟩
  · exact ⟨(by decide : (0 : Int) ≤ 1), (by decide : (1 : Int) ≤ 2)⟩
theorem q9tk13_B : q9tkB (q9tk13 T N) := fun a => by
  unfold q9tk13
  split
  · exact q9tkW_B a
  · exact ⟨(by decide : (0 : Int) ≤ 0), (by decide : (0 : Int) ≤ 2)⟩
theorem q9tk14_B : q9tkB (q9tk14 T N) := fun a => by
  unfold q9tk14
  split
  · exact ⟨(by decide : (0 : Int) ≤ 0), (by decide : (0 : Int) ≤ 2)⟩
  · exact ⟨(by decide : (0 : Int) ≤ 0), (by decide : (0 : Int) ≤ 2)⟩
theorem q9tkR_B : ∀ (ts : List (Int → q9TK2)), (∀ t ∈ ts, q9tkB t) → q9tkB (q9tkR ts)
  | [], _, a => ⟨(by decide : (0 : Int) ≤ 0), (by decide : (0 : Int) ≤ 2)⟩
  | t :: ts, h, a => by
    unfold q9tkR
    split
    · exact q9tkR_B ts (fun t ht => h t (List.mem_cons_of_mem _ ht)) _
    · exact h t List.mem_cons_self a
theorem q9aim_B : q9tkB (q9aimI T N P J) := fun a => q9tkR_B _ (by
  unfold q9aimL
  exact List.forall_mem_cons.mpr ⟨q9tkN_B, List.forall_mem_cons.mpr ⟨q9tkS_B, List.forall_mem_cons.mpr ⟨q9tkN_B, List.forall_mem_cons.mpr ⟨q9tk14_B, List.forall_mem_cons.mpr ⟨q9tkN_B, fun _ h => absurd h List.not_mem_nil⟩⟩⟩⟩⟩) a
theorem q9aimF_B : ∀ k : Nat, q9tkB (q9aimF T N P J k)
  | 0, a => ⟨(by decide : (0 : Int) ≤ 0), (by decide : (0 : Int) ≤ 2)⟩
  | k + 1, a => by
    unfold q9aimF
    split
    · split
      · exact q9aimF_B k _
      · exact ⟨(by decide : (0 : Int) ≤ 0), (by decide : (0 : Int) ≤ 2)⟩
    · exact q9aim_B a
theorem q9tk35_B : q9tkB (q9tk35 T N P J) := fun a => q9aimF_B _ a
theorem q9tkI_B {u : Nat} {b : Int} : q9tkB (q9tkI T N P J u b) := by
  have nil : ∀ t ∈ ([] : List (Int → q9TK2)), q9tkB t := fun _ h => absurd h List.not_mem_nil
  have cons : ∀ {t : Int → q9TK2} {ts : List (Int → q9TK2)}, q9tkB t → (∀ t ∈ ts, q9tkB t) → ∀ t' ∈ t :: ts, q9tkB t' := fun h1 h2 => List.forall_mem_cons.mpr ⟨h1, h2⟩
  intro a
  unfold q9tkI
  split
  all_goals first
    | exact q9tkN_B a
    | exact q9tkW_B a
    | exact q9tk12_B a
    | exact q9tk13_B a
    | exact q9tk14_B a
    | exact q9tk35_B a
    | exact q9aim_B a
    | exact q9tkS_B a
    | exact q9tkR_B _ (cons q9tkN_B (cons q9tkW_B nil)) a
    | exact q9tkR_B _ (cons q9tkN_B (cons q9tk12_B (cons q9tkW_B (cons q9tkN_B nil)))) a
    | exact q9tkR_B _ (cons q9tkW_B (cons q9tkN_B (cons q9tkW_B (cons q9tkN_B (cons q9tk13_B nil))))) a
    | exact q9tkR_B _ (cons q9tk35_B (cons q9tkW_B (cons q9tkN_B (cons q9tk13_B nil)))) a
    | exact q9tkR_B _ (cons q9tkN_B (cons q9tkS_B nil)) a
    | exact ⟨(by decide : (0 : Int) ≤ 0), (by decide : (0 : Int) ≤ 2)⟩
end AIM
theorem q9mu32t {f : Nat → Value → Value → Option Value} {x y z : Int32} (h : z.toInt = x.toInt * y.toInt) : q9exo f 2 (.int x) (.int y) = some (.int z) := by
  show some (Value.int (x * y)) = _
  have h1 := Int32.le_toInt z
  have h2 := Int32.toInt_lt z
  rw [show x * y = z from Int32.toInt_inj.mp (by rw [Int32.toInt_mul, h, Int.bmod_eq_of_le (by omega) (by omega)])]
theorem q9tkN_lt {T : Int → Int} {N lo hi a : Int} (h : (q9tkN T N lo hi a).1 = 0) : a + 1 ≤ (q9tkN T N lo hi a).2 := by
  have h1 := q9sp_ge (T := T) (N := N) (i := a)
  unfold q9tkN at h ⊢
  split at h
  · cases h
  · rename_i hc
    rw [if_neg hc]
    split at h
    · rename_i hc2
      rw [if_pos hc2]
      show a + 1 ≤ q9deI T N _
      omega
    · cases h
theorem q9tkS_lt {T : Int → Int} {N s a : Int} (h : (q9tkS T N s a).1 = 0) : a + 1 ≤ (q9tkS T N s a).2 := by
  have h1 := q9sp_ge (T := T) (N := N) (i := a)
  unfold q9tkS at h ⊢
  split at h
  · rename_i hc
    rw [if_pos hc]
    show a + 1 ≤ q9spI T N a + 1
    omega
  · cases h
theorem q9byI_in {T : Int → Int} {N i : Int} (hT : ∀ i, 0 ≤ T i ∧ T i ≤ 255) (h : 0 ≤ i ∧ i < N) : 0 ≤ q9byI T N i := by
  unfold q9byI
  rw [if_pos h]
  exact (hT i).1
theorem q9and_255 (x : Int32) : 0 ≤ (x &&& 255).toInt ∧ (x &&& 255).toInt ≤ 255 := by
  have hs : (x &&& 255).toBitVec.toNat ≤ 255 := by
    have e1 : (x &&& 255).toBitVec = x.toBitVec &&& 255#32 := rfl
    rw [e1, BitVec.toNat_and]
    exact Nat.and_le_right
  have e : (x &&& 255).toInt = (x &&& 255).toBitVec.toInt := rfl
  rw [e, BitVec.toInt_eq_toNat_cond, if_pos (by omega)]
  omega
/-! the turns: what the rules want of them -/
section q9TRN
variable {T : Int → Int} {N P : Int} {J : Int → Int}
theorem q9th_at_of {a : Int} {p : q9CF9 → Prop} {c : q9CF9} (hv : q9visI T N P J c) (hc : c.1 = a) (h : q9atI T N P J a p) : p c := by
  obtain ⟨c', h1, h2, h3⟩ := h
  rw [q9vis_pos hv h1 (by rw [hc, h2])]
  exact h3
theorem q9at_V {α : Type} {a : Int} {p : α → q9CF9 → Prop} {v : α} {c : q9CF9} (hv : q9visI T N P J c) (hc : c.1 = a) (hp : p v c) (hu : ∀ v', p v' c → v' = v) : chV (fun v => q9atI T N P J a (p v)) = some v :=
  q9chV_to (fun v' h => hu v' (q9th_at_of hv hc h)) ⟨c, hv, hc, hp⟩
theorem q9en_top {c : q9CF9} {q : q9TE9} {st : List q9TE9} (h : c.2.2 = q :: st) {d : Int} (hd : d + 1 = c.2.2.length) : q9enI c d = some q := by
  unfold q9enI
  have hl : c.2.2.length = st.length + 1 := by rw [h, List.length_cons]
  rw [if_pos (by omega), show c.2.2.length - 1 - d.toNat = 0 by omega, h]
  rfl
theorem q9en_low {c : q9CF9} {q : q9TE9} {st : List q9TE9} (h : c.2.2 = q :: st) {j : Int} (h0 : 0 ≤ j) (hj : j < st.length) : q9enI c j = st[st.length - 1 - j.toNat]? := by
  unfold q9enI
  have hl : c.2.2.length = st.length + 1 := by rw [h, List.length_cons]
  rw [if_pos (by omega), h, show (q :: st).length - 1 - j.toNat = (st.length - 1 - j.toNat) + 1 by rw [List.length_cons]; omega]
  rfl
theorem q9en_lt {c : q9CF9} {j : Int} {e : q9TE9} (h : q9enI c j = some e) : 0 ≤ j ∧ j < c.2.2.length := by
  unfold q9enI at h
  split at h
  · assumption
  · cases h
/-- the kind of what begins at a turn -/
theorem q9lk_of {c : q9CF9} (h8 : q9lkI T N c ≠ 8) (hk : 0 ≤ q9kbI T N (q9spI T N c.1)) : q9lkI T N c = q9kbI T N (q9spI T N c.1) := by
  have hw := q9kb_we hk
  have hb := q9we_let (T := T) (N := N) (i := q9spI T N c.1) 0 (by omega)
  rw [show q9spI T N c.1 + ((0 : Nat) : Int) = q9spI T N c.1 by omega] at hb
  unfold q9lkI at h8 ⊢
  split
  · rename_i h
    rw [if_pos h] at h8
    exact absurd rfl h8
  · rw [if_neg (by omega)]
theorem q9lk_neg {c : q9CF9} (h8 : q9lkI T N c ≠ 8) (hb : 0 ≤ q9byI T N (q9spI T N c.1)) : q9lkI T N c = q9kbI T N (q9spI T N c.1) := by
  unfold q9lkI at h8 ⊢
  split
  · rename_i h
    rw [if_pos h] at h8
    exact absurd rfl h8
  · rw [if_neg (by omega)]
theorem q9lk_8 {c : q9CF9} (h1 : 2 ≤ c.2.2.length) (h2 : q9byI T N (q9spI T N c.1) = 93) : q9lkI T N c = 8 := by
  unfold q9lkI
  rw [if_pos ⟨h1, h2⟩]
theorem q9lk_9 {c : q9CF9} (h2 : q9byI T N (q9spI T N c.1) < 0) : q9lkI T N c = 9 := by
  unfold q9lkI
  rw [if_neg (by omega), if_pos h2]
theorem q9kb_le8 {i : Int} : q9kbI T N i ≠ 8 ∧ q9kbI T N i ≠ 9 := by
  have := q9kb_7 (T := T) (N := N) (i := i)
  omega
/-- a whole line -/
theorem q9nx_line {c : q9CF9} {q : q9TE9} {st : List q9TE9} {r : q9TK2} (hst : c.2.2 = q :: st) (h1 : 0 ≤ q9lkI T N c) (h2 : q9lkI T N c ≤ 6) (hz : c.2.1 < 60) (hr : q9rcI T N P J c = r) (h0 : r.1 = 0) (hs : q9byI T N (q9spI T N r.2) = 59) :
    q9th_nxI T N P J c = some (q9spI T N r.2 + 1, c.2.1 + 1, (q.1, q.2.1, (if q9lkI T N c ≤ 1 then q.2.2.1 + Int64.ofInt (q9amI T N P J (q9lkI T N c) (q9weI T N (q9spI T N c.1))) else q.2.2.1), q.2.2.2 + 1) :: st) := by
  have hok : q9okL T N P J c := ⟨h1, by omega, hz, fun h => by omega, by rw [hr]; exact h0⟩
  unfold q9th_nxI
  split
  · rename_i h
    rw [h] at hst
    cases hst
  · rename_i q' st' h
    rw [h] at hst
    cases hst
    rw [if_neg (by omega), if_pos hok, if_neg (by omega), hr, if_pos hs]
/-- a repeat begins -/
theorem q9nx_open {c : q9CF9} {q : q9TE9} {st : List q9TE9} {r : q9TK2} (hst : c.2.2 = q :: st) (h1 : q9lkI T N c = 7) (hz : c.2.1 < 60) (hd : c.2.2.length < 5) (hr : q9rcI T N P J c = r) (h0 : r.1 = 0) :
    q9th_nxI T N P J c = some (r.2, c.2.1 + 1, (c.2.1, c.1, 0, 0) :: (q.1, q.2.1, q.2.2.1, q.2.2.2 + 1) :: st) := by
  have hok : q9okL T N P J c := ⟨by omega, by omega, hz, fun h => hd, by rw [hr]; exact h0⟩
  unfold q9th_nxI
  split
  · rename_i h
    rw [h] at hst
    cases hst
  · rename_i q' st' h
    rw [h] at hst
    cases hst
    rw [if_neg (by omega), if_pos hok, if_pos h1, hr]
/-- a repeat closes -/
theorem q9nx_close {c : q9CF9} {q q' : q9TE9} {st : List q9TE9} (hst : c.2.2 = q :: q' :: st) (h8 : q9lkI T N c = 8) (hs : q9byI T N (q9spI T N (q9spI T N c.1 + 1)) = 59) :
    q9th_nxI T N P J c = some (q9spI T N (q9spI T N c.1 + 1) + 1, c.2.1, (q'.1, q'.2.1, q'.2.2.1 + q9moI T N P J q.2.1 * q.2.2.1, q'.2.2.2 + q9moI T N P J q.2.1 * q.2.2.2) :: st) := by
  unfold q9th_nxI
  split
  · rename_i h
    rw [h] at hst
    cases hst
  · rename_i q9 st9 h
    rw [h] at hst
    cases hst
    rw [if_pos h8]
    dsimp only
    rw [if_pos hs]
theorem q9nx_no8 {c : q9CF9} (h8 : q9lkI T N c = 8) (hs : q9byI T N (q9spI T N (q9spI T N c.1 + 1)) ≠ 59) : q9th_nxI T N P J c = none := by
  unfold q9th_nxI
  split
  · rfl
  · rw [if_pos h8]
    split
    · rfl
    · rw [if_neg hs]
theorem q9nx_no {c : q9CF9} (h8 : q9lkI T N c ≠ 8) (h : ¬ q9okL T N P J c ∨ (q9lkI T N c ≠ 7 ∧ q9byI T N (q9spI T N (q9rcI T N P J c).2) ≠ 59)) : q9th_nxI T N P J c = none := by
  unfold q9th_nxI
  split
  · rfl
  · rw [if_neg h8]
    split
    · rename_i hok
      rcases h with h | ⟨h, h2⟩
      · exact absurd hok h
      · rw [if_neg h, if_neg h2]
    · rfl
theorem q9la_of {p : q9CF9 → Prop} {c : q9CF9} (hv : q9visI T N P J c) (hn : q9th_nxI T N P J c = none) (h : q9laI T N P J p) : p c := by
  obtain ⟨c', h1, h2, h3⟩ := h
  rw [q9vis_last hv h1 hn h2]
  exact h3
theorem q9la_V {α : Type} {p : α → q9CF9 → Prop} {v : α} {c : q9CF9} (hv : q9visI T N P J c) (hn : q9th_nxI T N P J c = none) (hp : p v c) (hu : ∀ v', p v' c → v' = v) : chV (fun v => q9laI T N P J (p v)) = some v :=
  q9chV_to (fun v' h => hu v' (q9la_of hv hn h)) ⟨c, hv, hn, hp⟩
/-- what stands behind a line tells which it is -/
theorem q9pr_gt {c : q9CF9} {p : Int} (h : q9prI T N P J c p) : c.1 < p := by
  have s1 := q9sp_ge (T := T) (N := N) (i := c.1)
  obtain ⟨-, ⟨⟨k1, k2, -, -, -⟩, h7, rfl⟩ | ⟨h8, rfl⟩⟩ := h
  · rw [q9lk_kb k1 k2] at k1
    have s3 := q9kb_we k1
    have s5 := (q9rc_G (T := T) (N := N) (P := P) (J := J) (c := c)).1
    omega
  · omega
theorem q9pr_nx {c c' : q9CF9} {p : Int} (h : q9prI T N P J c p) (hn : q9th_nxI T N P J c = some c') : p < c'.1 := by
  obtain ⟨-, ⟨hok, h7, rfl⟩ | ⟨h8, rfl⟩⟩ := h
  · have s1 := q9sp_ge (T := T) (N := N) (i := (q9rcI T N P J c).2)
    unfold q9th_nxI at hn
    split at hn
    · cases hn
    · rw [if_neg (by have := hok.2.1; omega), if_pos hok, if_neg h7] at hn
      split at hn
      · cases hn
        dsimp only
        omega
      · cases hn
  · have s1 := q9sp_ge (T := T) (N := N) (i := q9spI T N c.1 + 1)
    unfold q9th_nxI at hn
    split at hn
    · cases hn
    · rw [if_pos h8] at hn
      split at hn
      · cases hn
      · split at hn
        · cases hn
          dsimp only
          omega
        · cases hn
theorem q9tr_nx {n m : Nat} {c c' : q9CF9} (h : n < m) (h1 : q9trI T N P J n = some c) (h2 : q9trI T N P J m = some c') : ∃ c1, q9th_nxI T N P J c = some c1 ∧ c1.1 ≤ c'.1 := by
  have key : ∀ k : Nat, n + 1 + k = m → ∃ c1, q9th_nxI T N P J c = some c1 ∧ c1.1 ≤ c'.1 := by
    intro k hk
    cases h3 : q9trI T N P J (n + 1) with
    | none =>
      have : ∀ k : Nat, q9trI T N P J (n + 1 + k) = none := by
        intro k
        induction k with
        | zero => exact h3
        | succ k ih =>
          show (q9trI T N P J (n + 1 + k)).bind _ = none
          rw [ih]
          rfl
      rw [← hk, this k] at h2
      cases h2
    | some c1 =>
      have h4 : (q9trI T N P J n).bind (q9th_nxI T N P J) = some c1 := h3
      rw [h1] at h4
      refine ⟨c1, h4, ?_⟩
      by_cases hm : n + 1 = m
      · subst hm
        rw [h3] at h2
        cases h2
        exact Int.le_refl _
      · exact Int.le_of_lt (q9tr_lt (by omega) h3 h2)
  exact key (m - (n + 1)) (by omega)
theorem q9pr_one {c c' : q9CF9} {p : Int} (h : q9prI T N P J c p) (h' : q9prI T N P J c' p) : c = c' := by
  obtain ⟨n, hn⟩ := h.1
  obtain ⟨m, hm⟩ := h'.1
  rcases Nat.lt_trichotomy n m with h1 | h1 | h1
  · obtain ⟨c1, g1, g2⟩ := q9tr_nx h1 hn hm
    have := q9pr_nx h g1
    have := q9pr_gt h'
    omega
  · subst h1
    rw [hn] at hm
    exact Option.some.inj hm
  · obtain ⟨c1, g1, g2⟩ := q9tr_nx h1 hm hn
    have := q9pr_nx h' g1
    have := q9pr_gt h
    omega
theorem q9pr_V {α : Type} {a : Int} {p : α → q9CF9 → Prop} {v : α} {c : q9CF9} (hv : q9prI T N P J c a) (hp : p v c) (hu : ∀ v', p v' c → v' = v) : chV (fun v => ∃ c, q9prI T N P J c a ∧ p v c) = some v :=
  q9chV_to (fun v' ⟨c', h1, h2⟩ => hu v' (by rw [q9pr_one hv h1]; exact h2)) ⟨c, hv, hp⟩
/-- a line by its number -/
theorem q9sz_nx {c c' : q9CF9} (h : q9th_nxI T N P J c = some c') : c'.2.1 = c.2.1 + (if q9lkI T N c = 8 then 0 else 1) := by
  unfold q9th_nxI at h
  split at h
  · cases h
  · split at h
    · rename_i h8
      rw [if_pos h8]
      split at h
      · cases h
      · split at h
        · cases h
          dsimp only
          omega
        · cases h
    · rename_i h8
      rw [if_neg h8]
      split at h
      · split at h
        · cases h
          rfl
        · split at h
          · cases h
            rfl
          · cases h
      · cases h
theorem q9sz_mono : ∀ {n m : Nat} {c c' : q9CF9}, n ≤ m → q9trI T N P J n = some c → q9trI T N P J m = some c' → c.2.1 ≤ c'.2.1
  | n, 0, c, c', h, h1, h2 => by
    obtain rfl : n = 0 := by omega
    rw [h1] at h2
    cases h2
    exact Int.le_refl _
  | n, m + 1, c, c', h, h1, h2 => by
    by_cases hnm : n = m + 1
    · subst hnm
      rw [h1] at h2
      cases h2
      exact Int.le_refl _
    · obtain ⟨c0, g1, g2⟩ := q9tr_succ h2
      have h3 := q9sz_mono (by omega) h1 g1
      have h4 := q9sz_nx g2
      split at h4
      all_goals omega
theorem q9ln_one {c c' : q9CF9} (h : q9visI T N P J c) (h' : q9visI T N P J c') (hk : q9okL T N P J c) (hk' : q9okL T N P J c') (e : c.2.1 = c'.2.1) : c = c' := by
  have key : ∀ {n m : Nat} {c c' : q9CF9}, n < m → q9trI T N P J n = some c → q9okL T N P J c → q9trI T N P J m = some c' → c.2.1 < c'.2.1 := by
    intro n m c c' hlt h1 h2 h3
    cases h4 : q9trI T N P J (n + 1) with
    | none =>
      obtain ⟨c1, g1, -⟩ := q9tr_nx hlt h1 h3
      have h5 : (q9trI T N P J n).bind (q9th_nxI T N P J) = none := h4
      rw [h1] at h5
      have h5 : q9th_nxI T N P J c = none := h5
      rw [g1] at h5
      cases h5
    | some c1 =>
      have h5 : (q9trI T N P J n).bind (q9th_nxI T N P J) = some c1 := h4
      rw [h1] at h5
      have h6 := q9sz_nx h5
      rw [if_neg (by have := h2.2.1; omega)] at h6
      have h7 := q9sz_mono (by omega) h4 h3
      omega
  obtain ⟨n, hn⟩ := h
  obtain ⟨m, hm⟩ := h'
  rcases Nat.lt_trichotomy n m with h1 | h1 | h1
  · have := key h1 hn hk hm
    omega
  · subst h1
    rw [hn] at hm
    exact Option.some.inj hm
  · have := key h1 hm hk' hn
    omega
theorem q9ln_V {α : Type} {a : Int} {p : α → q9CF9 → Prop} {v : α} {c : q9CF9} (hv : q9visI T N P J c) (hk : q9okL T N P J c) (hc : c.2.1 = a) (hp : p v c) (hu : ∀ v', p v' c → v' = v) : chV (fun v => ∃ c, q9visI T N P J c ∧ q9okL T N P J c ∧ c.2.1 = a ∧ p v c) = some v :=
  q9chV_to (fun v' ⟨c', h1, h2, h3, h4⟩ => hu v' (by rw [q9ln_one hv h1 hk h2 (by rw [hc, h3])]; exact h4)) ⟨c, hv, hk, hc, hp⟩
/-- unclosed repeats: lines that are read, turns that were -/
def q9th_stP (c : q9CF9) : List (Int × Int) := c.2.2.map (fun e => (e.1, e.2.1))
theorem q9stP_len {c : q9CF9} : (q9th_stP c).length = c.2.2.length := List.length_map _
def q9opI (T : Int → Int) (N P : Int) (J : Int → Int) (L : List (Int × Int)) (z : Int) : Prop := ∀ (j : Nat) (o : Int × Int), L[j]? = some o → j + 1 < L.length → 0 ≤ o.1 ∧ o.1 < z ∧ (∃ c0, q9visI T N P J c0 ∧ q9okL T N P J c0 ∧ q9lkI T N c0 = 7 ∧ c0.2.1 = o.1 ∧ c0.1 = o.2) ∧ ∀ (j' : Nat) (o' : Int × Int), L[j']? = some o' → j < j' → j' + 1 < L.length → o'.1 < o.1
def q9inv9 (T : Int → Int) (N P : Int) (J : Int → Int) (c : q9CF9) : Prop := 0 ≤ c.1 ∧ c.1 ≤ N ∧ 0 ≤ c.2.1 ∧ c.2.1 ≤ 60 ∧ 1 ≤ c.2.2.length ∧ c.2.2.length ≤ 5 ∧ q9opI T N P J (q9th_stP c) c.2.1
theorem q9opI.more {L : List (Int × Int)} {z z' : Int} (h : q9opI T N P J L z) (hz : z ≤ z') : q9opI T N P J L z' := fun j o h1 h2 => by
  obtain ⟨k1, k2, k3⟩ := h j o h1 h2
  exact ⟨k1, by omega, k3⟩
theorem q9opI.tail {L : List (Int × Int)} {o0 : Int × Int} {z : Int} (h : q9opI T N P J (o0 :: L) z) : q9opI T N P J L z := fun j o h1 h2 => by
  obtain ⟨k1, k2, k3, k4⟩ := h (j + 1) o h1 (by rw [List.length_cons]; omega)
  exact ⟨k1, k2, k3, fun j' o' g1 g2 g3 => k4 (j' + 1) o' g1 (by omega) (by rw [List.length_cons]; omega)⟩
theorem q9nx_stP {c c' : q9CF9} (h : q9th_nxI T N P J c = some c') : (∃ o L, q9lkI T N c = 8 ∧ q9th_stP c = o :: L ∧ q9th_stP c' = L ∧ 1 ≤ L.length ∧ c'.2.1 = c.2.1) ∨ (q9okL T N P J c ∧ q9lkI T N c = 7 ∧ q9th_stP c' = (c.2.1, c.1) :: q9th_stP c ∧ c'.2.1 = c.2.1 + 1) ∨ (q9okL T N P J c ∧ q9lkI T N c ≠ 7 ∧ q9th_stP c' = q9th_stP c ∧ c'.2.1 = c.2.1 + 1) := by
  unfold q9th_nxI at h
  split at h
  · cases h
  · rename_i q st hst
    split at h
    · rename_i h8
      split at h
      · cases h
      · rename_i q' st'
        split at h
        · cases h
          refine .inl ⟨(q.1, q.2.1), (q'.1, q'.2.1) :: st'.map (fun e => (e.1, e.2.1)), h8, ?_, rfl, by rw [List.length_cons]; omega, rfl⟩
          unfold q9th_stP
          rw [hst]
          rfl
        · cases h
    · split at h
      · rename_i hok
        split at h
        · rename_i h7
          cases h
          refine .inr (.inl ⟨hok, h7, ?_, rfl⟩)
          unfold q9th_stP
          rw [hst]
          rfl
        · rename_i h7
          split at h
          · cases h
            refine .inr (.inr ⟨hok, h7, ?_, rfl⟩)
            unfold q9th_stP
            rw [hst]
            rfl
          · cases h
      · cases h
theorem q9vis_inv (hN : 0 ≤ N) : ∀ {c : q9CF9}, q9visI T N P J c → q9inv9 T N P J c := by
  refine q9vis_ind (p := fun c => q9inv9 T N P J c) ⟨Int.le_refl _, hN, Int.le_refl _, by show (0 : Int) ≤ 60; decide, Nat.le_refl _, by show 1 ≤ 5; decide, fun j o h1 h2 => ?_⟩ fun c c' hv hi hn => ?_
  · have h2 : j + 1 < 1 := h2
    omega
  · obtain ⟨i1, i2, i3, i4, i5, i6, i7⟩ := hi
    have hp := q9nx_pos hn
    rcases q9nx_stP hn with ⟨o, L, h8, e1, e2, e3, e4⟩ | ⟨hok, h7, e1, e2⟩ | ⟨hok, h7, e1, e2⟩
    · have l1 := q9stP_len (c := c)
      have l2 := q9stP_len (c := c')
      rw [e1, List.length_cons] at l1
      rw [e2] at l2
      rw [e1] at i7
      refine ⟨by omega, hp.2 i1 i2, by omega, by omega, by omega, by omega, ?_⟩
      rw [e2, e4]
      exact i7.tail
    · have l1 := q9stP_len (c := c)
      have l2 := q9stP_len (c := c')
      rw [e1, List.length_cons] at l2
      obtain ⟨k1, k2, k3, k4, k5⟩ := hok
      have k4 := k4 h7
      refine ⟨by omega, hp.2 i1 i2, by omega, by omega, by omega, by omega, ?_⟩
      rw [e1, e2]
      intro j o h1 h2
      rw [List.length_cons] at h2
      cases j with
      | zero =>
        cases h1
        refine ⟨i3, by dsimp only; omega, ⟨c, hv, ⟨k1, k2, k3, fun _ => k4, k5⟩, h7, rfl, rfl⟩, fun j' o' g1 g2 g3 => ?_⟩
        cases j' with
        | zero => omega
        | succ j' =>
          rw [List.length_cons] at g3
          exact (i7 j' o' g1 (by omega)).2.1
      | succ j =>
        obtain ⟨m1, m2, m3, m4⟩ := i7 j o h1 (by omega)
        refine ⟨m1, by omega, m3, fun j' o' g1 g2 g3 => ?_⟩
        cases j' with
        | zero => omega
        | succ j' =>
          rw [List.length_cons] at g3
          exact m4 j' o' g1 (by omega) (by omega)
    · have l1 := q9stP_len (c := c)
      have l2 := q9stP_len (c := c')
      rw [e1] at l2
      refine ⟨by omega, hp.2 i1 i2, by omega, by have := hok.2.2.1; omega, by omega, by omega, ?_⟩
      rw [e1, e2]
      exact i7.more (by omega)
theorem q9top_of {c : q9CF9} {q : q9TE9} {st : List q9TE9} (h : c.2.2 = q :: st) : (q9th_stP c)[0]? = some (q.1, q.2.1) := by
  unfold q9th_stP
  rw [h]
  rfl
theorem q9lk8_len {c : q9CF9} (h : q9lkI T N c = 8) : 2 ≤ c.2.2.length := by
  unfold q9lkI at h
  split at h
  · rename_i hc
    exact hc.1
  · split at h
    · omega
    · exact absurd h q9kb_le8.1
theorem q9lk8_b {c : q9CF9} (h : q9lkI T N c = 8) : q9byI T N (q9spI T N c.1) = 93 := by
  unfold q9lkI at h
  split at h
  · rename_i hc
    exact hc.2
  · split at h
    · omega
    · exact absurd h q9kb_le8.1
theorem q9tr_noi {i : Int} : ∀ {n m : Nat} {c c' : q9CF9}, n ≤ m → q9trI T N P J n = some c → (∀ (j : Nat) (o : Int × Int), (q9th_stP c)[j]? = some o → j + 1 < (q9th_stP c).length → o.1 ≠ i) → i < c.2.1 → q9trI T N P J m = some c' → (∀ (j : Nat) (o : Int × Int), (q9th_stP c')[j]? = some o → j + 1 < (q9th_stP c').length → o.1 ≠ i) ∧ i < c'.2.1
  | n, 0, c, c', h, h1, h2, h3, h4 => by
    obtain rfl : n = 0 := by omega
    rw [h1] at h4
    cases h4
    exact ⟨h2, h3⟩
  | n, m + 1, c, c', h, h1, h2, h3, h4 => by
    by_cases hnm : n = m + 1
    · subst hnm
      rw [h1] at h4
      cases h4
      exact ⟨h2, h3⟩
    · obtain ⟨c0, g1, g2⟩ := q9tr_succ h4
      obtain ⟨k1, k2⟩ := q9tr_noi (by omega) h1 h2 h3 g1
      rcases q9nx_stP g2 with ⟨o, L, h8, e1, e2, e3, e4⟩ | ⟨hok, h7, e1, e2⟩ | ⟨hok, h7, e1, e2⟩
      · refine ⟨fun j o' j1 j2 => ?_, by omega⟩
        rw [e2] at j1 j2
        refine k1 (j + 1) o' (by rw [e1]; exact j1) ?_
        rw [e1, List.length_cons]
        omega
      · refine ⟨fun j o' j1 j2 => ?_, by omega⟩
        rw [e1] at j1 j2
        rw [List.length_cons] at j2
        cases j with
        | zero =>
          cases j1
          dsimp only
          omega
        | succ j => exact k1 j o' j1 (by omega)
      · rw [e1]
        exact ⟨k1, by omega⟩
theorem q9cl_one (hN : 0 ≤ N) {c c' : q9CF9} {q q' : q9TE9} {st st' : List q9TE9} (h : q9visI T N P J c) (h' : q9visI T N P J c') (h8 : q9lkI T N c = 8) (h8' : q9lkI T N c' = 8) (hs : c.2.2 = q :: st) (hs' : c'.2.2 = q' :: st') (e : q.1 = q'.1) : c = c' := by
  have key : ∀ {n m : Nat} {c c' : q9CF9} {q q' : q9TE9} {st st' : List q9TE9}, n < m → q9trI T N P J n = some c → q9trI T N P J m = some c' → q9lkI T N c = 8 → q9lkI T N c' = 8 → c.2.2 = q :: st → c'.2.2 = q' :: st' → q.1 = q'.1 → False := by
    intro n m c c' q q' st st' hlt h1 h2 h8 h8' hs hs' e
    have hi := q9vis_inv hN ⟨n, h1⟩
    have hi' := q9vis_inv hN ⟨m, h2⟩
    obtain ⟨-, -, -, -, -, -, i7⟩ := hi
    have l8 := q9lk8_len h8
    have l8' := q9lk8_len h8'
    obtain ⟨m1, m2, -, m4⟩ := i7 0 _ (q9top_of hs) (by rw [q9stP_len]; omega)
    cases h4 : q9trI T N P J (n + 1) with
    | none =>
      obtain ⟨c1, g1, -⟩ := q9tr_nx hlt h1 h2
      have h5 : (q9trI T N P J n).bind (q9th_nxI T N P J) = none := h4
      rw [h1] at h5
      have h5 : q9th_nxI T N P J c = none := h5
      rw [g1] at h5
      cases h5
    | some c1 =>
      have h5 : (q9trI T N P J n).bind (q9th_nxI T N P J) = some c1 := h4
      rw [h1] at h5
      have h5 : q9th_nxI T N P J c = some c1 := h5
      rcases q9nx_stP h5 with ⟨o, L, -, e1, e2, e3, e4⟩ | ⟨hok, h7, e1, e2⟩ | ⟨hok, h7, e1, e2⟩
      · have ho : o = (q.1, q.2.1) := by
          have := q9top_of hs
          rw [e1] at this
          exact Option.some.inj this
        have key2 := q9tr_noi (i := q.1) (by omega) h4 (fun j o' j1 j2 => by
          rw [e2] at j1 j2
          have := m4 (j + 1) o' (by rw [e1]; exact j1) (by omega) (by rw [e1, List.length_cons]; omega)
          dsimp only at this
          omega) (by dsimp only at m2; omega) h2
        exact key2.1 0 _ (q9top_of hs') (by rw [q9stP_len]; omega) e.symm
      · have := hok.2.1
        omega
      · have := hok.2.1
        omega
  obtain ⟨n, hn⟩ := h
  obtain ⟨m, hm⟩ := h'
  rcases Nat.lt_trichotomy n m with h1 | h1 | h1
  · exact (key h1 hn hm h8 h8' hs hs' e).elim
  · subst h1
    rw [hn] at hm
    exact Option.some.inj hm
  · exact (key h1 hm hn h8' h8 hs' hs e.symm).elim
theorem q9en_one (hN : 0 ≤ N) {i v v' : Int} (h : q9enE T N P J i v) (h' : q9enE T N P J i v') : v' = v := by
  have mix : ∀ {c c' : q9CF9} {q : q9TE9} {st : List q9TE9}, q9visI T N P J c → q9okL T N P J c → c.2.1 = i → q9lkI T N c ≠ 7 → q9visI T N P J c' → q9lkI T N c' = 8 → c'.2.2 = q :: st → q.1 = i → False := by
    intro c c' q st a1 a2 a3 a4 b1 b2 b3 b4
    obtain ⟨-, -, -, -, -, -, i7⟩ := q9vis_inv hN b1
    have l8 := q9lk8_len b2
    obtain ⟨-, -, ⟨c0, k1, k2, k3, k4, -⟩, -⟩ := i7 0 _ (q9top_of b3) (by rw [q9stP_len]; omega)
    have k4 : c0.2.1 = q.1 := k4
    have := q9ln_one a1 k1 a2 k2 (by rw [a3, k4, b4])
    subst this
    exact a4 k3
  rcases h with ⟨c, a1, a2, a3, a4, a5⟩ | ⟨c, q, st, b1, b2, b3, b4, b5⟩
  · rcases h' with ⟨c', a1', a2', a3', a4', a5'⟩ | ⟨c', q', st', b1', b2', b3', b4', b5'⟩
    · omega
    · exact (mix a1 a2 a3 a4 b1' b2' b3' b4').elim
  · rcases h' with ⟨c', a1', a2', a3', a4', a5'⟩ | ⟨c', q', st', b1', b2', b3', b4', b5'⟩
    · exact (mix a1' a2' a3' a4' b1 b2 b3 b4).elim
    · have := q9cl_one hN b1 b1' b2 b2' b3 b3' (by rw [b4, b4'])
      subst this
      omega
end q9TRN
section REV
variable {T : Int → Int} {N P : Int} {J : Int → Int}
theorem q9en_rev {c : q9CF9} {j : Int} (h0 : 0 ≤ j) : (q9enI c j).map (fun e => (e.1, e.2.1)) = (q9th_stP c).reverse[j.toNat]? := by
  unfold q9enI
  split
  · rename_i h
    rw [List.getElem?_reverse (by rw [q9stP_len]; omega), q9stP_len]
    unfold q9th_stP
    rw [List.getElem?_map]
  · rename_i h
    rw [List.getElem?_eq_none (by rw [List.length_reverse, q9stP_len]; omega)]
    rfl
theorem q9en_of {c : q9CF9} {j : Int} {e : q9TE9} (h : q9enI c j = some e) : (q9th_stP c).reverse[j.toNat]? = some (e.1, e.2.1) := by
  rw [← q9en_rev (q9en_lt h).1, h]
  rfl
theorem q9en_to {c : q9CF9} {j : Int} {o : Int × Int} (h0 : 0 ≤ j) (h : (q9th_stP c).reverse[j.toNat]? = some o) : ∃ e, q9enI c j = some e ∧ e.1 = o.1 ∧ e.2.1 = o.2 := by
  rw [← q9en_rev h0] at h
  cases he : q9enI c j with
  | none => rw [he] at h; cases h
  | some e =>
    rw [he] at h
    cases h
    exact ⟨e, rfl, rfl, rfl⟩
/-- what stays unclosed from a turn to the next -/
theorem q9nx_en {c c' : q9CF9} (hn : q9th_nxI T N P J c = some c') {j : Int} {e : q9TE9} (he : q9enI c j = some e) (hj : j < c'.2.2.length) : ∃ e', q9enI c' j = some e' ∧ e'.1 = e.1 ∧ e'.2.1 = e.2.1 := by
  have h0 := (q9en_lt he).1
  have hl := (q9en_lt he).2
  have h1 := q9en_of he
  refine q9en_to (o := (e.1, e.2.1)) h0 ?_
  have l1 := q9stP_len (c := c)
  have l2 := q9stP_len (c := c')
  rcases q9nx_stP hn with ⟨o, L, h8, e1, e2, e3, e4⟩ | ⟨hok, h7, e1, e2⟩ | ⟨hok, h7, e1, e2⟩
  · rw [e1, List.reverse_cons, List.getElem?_append_left (by rw [List.length_reverse, ← e2, l2]; omega)] at h1
    rw [e2]
    exact h1
  · rw [e1, List.reverse_cons, List.getElem?_append_left (by rw [List.length_reverse, l1]; omega)]
    exact h1
  · rw [e1]
    exact h1
/-- where an unclosed repeat began, the same were open -/
theorem q9vis_ab (hN : 0 ≤ N) : ∀ {c : q9CF9}, q9visI T N P J c → ∀ (j : Nat) (o : Int × Int), (q9th_stP c)[j]? = some o → j + 1 < (q9th_stP c).length → ∃ c0, q9visI T N P J c0 ∧ q9okL T N P J c0 ∧ q9lkI T N c0 = 7 ∧ c0.2.1 = o.1 ∧ c0.1 = o.2 ∧ q9th_stP c0 = (q9th_stP c).drop (j + 1) := by
  refine q9vis_ind (p := fun c => ∀ (j : Nat) (o : Int × Int), (q9th_stP c)[j]? = some o → j + 1 < (q9th_stP c).length → ∃ c0, q9visI T N P J c0 ∧ q9okL T N P J c0 ∧ q9lkI T N c0 = 7 ∧ c0.2.1 = o.1 ∧ c0.1 = o.2 ∧ q9th_stP c0 = (q9th_stP c).drop (j + 1)) (fun j o h1 h2 => ?_) fun c c' hv hi hn => ?_
  · have h2 : j + 1 < 1 := h2
    omega
  · rcases q9nx_stP hn with ⟨o, L, h8, e1, e2, e3, e4⟩ | ⟨hok, h7, e1, e2⟩ | ⟨hok, h7, e1, e2⟩
    · rw [e2]
      intro j o' h1 h2
      have := hi (j + 1) o' (by rw [e1]; exact h1) (by rw [e1, List.length_cons]; omega)
      rw [e1] at this
      exact this
    · rw [e1]
      intro j o' h1 h2
      rw [List.length_cons] at h2
      cases j with
      | zero =>
        cases h1
        exact ⟨c, hv, hok, h7, rfl, rfl, rfl⟩
      | succ j => exact hi j o' h1 (by omega)
    · rw [e1]
      exact hi
/-- behind a line -/
theorem q9pr_next (hN : 0 ≤ N) {c : q9CF9} {p : Int} (h : q9prI T N P J c p) (hs : q9byI T N (q9spI T N p) = 59) : ∃ c', q9th_nxI T N P J c = some c' ∧ c'.1 = q9spI T N p + 1 ∧ c'.2.1 = c.2.1 + (if q9lkI T N c = 8 then 0 else 1) ∧ c'.2.2.length + (if q9lkI T N c = 8 then 1 else 0) = c.2.2.length := by
  have hi := q9vis_inv hN h.1
  obtain ⟨q, st, hst⟩ : ∃ q st, c.2.2 = q :: st := by
    cases hh : c.2.2 with
    | nil =>
      have := hi.2.2.2.2.1
      rw [hh] at this
      exact absurd this (by decide)
    | cons q st => exact ⟨q, st, rfl⟩
  rcases h.2 with ⟨hok, h7, rfl⟩ | ⟨h8, rfl⟩
  · have k1 := hok.1
    have k2 := hok.2.1
    have h8 : ¬ q9lkI T N c = 8 := by omega
    refine ⟨_, q9nx_line hst hok.1 (by omega) hok.2.2.1 rfl hok.2.2.2.2 hs, rfl, by show c.2.1 + 1 = _; rw [if_neg h8], ?_⟩
    rw [if_neg h8, hst]
    rfl
  · have l8 := q9lk8_len h8
    cases st with
    | nil =>
      rw [hst] at l8
      exact absurd l8 (by show ¬ 2 ≤ 1; decide)
    | cons q' st =>
      refine ⟨_, q9nx_close hst h8 hs, rfl, by rw [if_pos h8]; dsimp only; omega, ?_⟩
      rw [if_pos h8, hst]
      rfl
theorem q9pr_none {c : q9CF9} {p : Int} (h : q9prI T N P J c p) (hs : q9byI T N (q9spI T N p) ≠ 59) : q9th_nxI T N P J c = none ∧ q9th_reI T N P J c = (1, q9spI T N p) := by
  rcases h.2 with ⟨hok, h7, rfl⟩ | ⟨h8, rfl⟩
  · have k1 := hok.1
    have k2 := hok.2.1
    have k3 := hok.2.2.1
    refine ⟨q9nx_no (by omega) (.inr ⟨h7, hs⟩), ?_⟩
    unfold q9th_reI
    rw [if_neg (by omega), if_neg (by omega), if_neg (by omega), if_neg (by omega), if_pos hok.2.2.2.2]
  · refine ⟨q9nx_no8 h8 hs, ?_⟩
    unfold q9th_reI
    rw [if_pos h8]
end REV
section HOP
variable {T : Int → Int} {N P : Int} {J : Int → Int}
theorem q9i2l_of {x : Int32} : x.toInt64 = Int64.ofInt x.toInt := Int64.toInt_inj.mp (by
  have h1 := Int32.le_toInt x
  have h2 := Int32.toInt_lt x
  rw [Int32.toInt_toInt64, Int64.toInt_ofInt_of_le (by omega) (by omega)])
/-- a line's own frames, lines done -/
def q9vaI (T : Int → Int) (N P : Int) (J : Int → Int) (n : Nat) (c : q9CF9) (b m : Int) (f1 d1 : Int64) : Prop :=
  (q9lkI T N c ≤ 1 ∧ f1 = Int64.ofInt (q9amI T N P J (q9lkI T N c) (q9weI T N (q9spI T N c.1))) ∧ d1 = 1) ∨ (2 ≤ q9lkI T N c ∧ q9lkI T N c ≤ 6 ∧ f1 = 0 ∧ d1 = 1) ∨
       (q9lkI T N c = 7 ∧ ∃ f3 d3, q9hsI T N P J n (b + 1) m f3 d3 ∧ f1 = Int64.ofInt (q9amI T N P J 7 (q9weI T N (q9spI T N c.1))) * f3 ∧ d1 = 1 + Int64.ofInt (q9amI T N P J 7 (q9weI T N (q9spI T N c.1))) * d3)
theorem q9hs_up : ∀ (n : Nat) (b e : Int) (f d : Int64), q9hsI T N P J n b e f d → q9hsI T N P J (n + 1) b e f d
  | 0, _, _, _, _, h => False.elim h
  | n + 1, b, e, f, d, h => by
    rcases h with h | ⟨c, m, f1, d1, f2, d2, h1, h2, h3, h4, h5, h6, h7, h8, h9, h10⟩
    · exact .inl h
    · refine .inr ⟨c, m, f1, d1, f2, d2, h1, h2, h3, h4, h5, h6, q9hs_up n _ _ _ _ h7, h8, h9, ?_⟩
      rcases h10 with h | h | ⟨k1, f3, d3, k2, k3⟩
      · exact .inl h
      · exact .inr (.inl h)
      · exact .inr (.inr ⟨k1, f3, d3, q9hs_up n _ _ _ _ k2, k3⟩)
theorem q9hs_add {n : Nat} {b e : Int} {f d : Int64} (h : q9hsI T N P J n b e f d) : ∀ k : Nat, q9hsI T N P J (n + k) b e f d
  | 0 => h
  | k + 1 => q9hs_up _ _ _ _ _ (q9hs_add h k)
theorem q9hs_one (hN : 0 ≤ N) : ∀ (n m : Nat) (b e : Int) (f d f' d' : Int64), q9hsI T N P J n b e f d → q9hsI T N P J m b e f' d' → f' = f ∧ d' = d
  | 0, _, _, _, _, _, _, _, h, _ => False.elim h
  | _ + 1, 0, _, _, _, _, _, _, _, h => False.elim h
  | n + 1, m + 1, b, e, f, d, f', d', h, h' => by
    rcases h with ⟨h1, h2, h3⟩ | ⟨c, k, f1, d1, f2, d2, h1, h2, h3, h4, h5, h6, h7, h8, h9, h10⟩
    · rcases h' with ⟨g1, g2, g3⟩ | ⟨c', k', f1', d1', f2', d2', g1, g2, g3, g4, g5, g6, g7, g8, g9, g10⟩
      · rw [h2, h3, g2, g3]
        exact ⟨rfl, rfl⟩
      · omega
    · rcases h' with ⟨g1, g2, g3⟩ | ⟨c', k', f1', d1', f2', d2', g1, g2, g3, g4, g5, g6, g7, g8, g9, g10⟩
      · omega
      · have hc := q9ln_one h1 g1 h2 g2 (by rw [h3, g3])
        subst hc
        have hk := q9en_one hN h4 g4
        subst hk
        obtain ⟨e1, e2⟩ := q9hs_one hN n m _ _ _ _ _ _ h7 g7
        subst e1
        subst e2
        have hv : f1' = f1 ∧ d1' = d1 := by
          rcases h10 with ⟨a1, a2, a3⟩ | ⟨a1, a2, a3, a4⟩ | ⟨a1, f3, d3, a2, a3, a4⟩
          · rcases g10 with ⟨b1, b2, b3⟩ | ⟨b1, b2, b3, b4⟩ | ⟨b1, f3', d3', b2, b3, b4⟩
            · rw [a2, a3, b2, b3]
              exact ⟨rfl, rfl⟩
            · omega
            · omega
          · rcases g10 with ⟨b1, b2, b3⟩ | ⟨b1, b2, b3, b4⟩ | ⟨b1, f3', d3', b2, b3, b4⟩
            · omega
            · rw [a3, a4, b3, b4]
              exact ⟨rfl, rfl⟩
            · omega
          · rcases g10 with ⟨b1, b2, b3⟩ | ⟨b1, b2, b3, b4⟩ | ⟨b1, f3', d3', b2, b3, b4⟩
            · omega
            · omega
            · obtain ⟨e3, e4⟩ := q9hs_one hN n m _ _ _ _ _ _ a2 b2
              rw [a3, a4, b3, b4, e3, e4]
              exact ⟨rfl, rfl⟩
        rw [h8, h9, g8, g9, hv.1, hv.2]
        exact ⟨rfl, rfl⟩
theorem q9vaI.up {n : Nat} {c : q9CF9} {b m : Int} {f d : Int64} (h : q9vaI T N P J n c b m f d) (k : Nat) : q9vaI T N P J (n + k) c b m f d := by
  rcases h with h | h | ⟨k1, f3, d3, k2, k3⟩
  · exact .inl h
  · exact .inr (.inl h)
  · exact .inr (.inr ⟨k1, f3, d3, q9hs_add k2 k, k3⟩)
theorem q9hs_nil {b : Int} : q9hsI T N P J 1 b b 0 0 := .inl ⟨rfl, rfl, rfl⟩
/-- q9one line q9more -/
theorem q9hs_snoc {k : Nat} {c : q9CF9} {i m : Int} {f1 d1 : Int64} (h1 : q9visI T N P J c) (h2 : q9okL T N P J c) (h3 : c.2.1 = i) (h4 : q9enE T N P J i m) (h5 : i < m) (h10 : q9vaI T N P J k c i m f1 d1) :
    ∀ (n : Nat) (b : Int) (f d : Int64), q9hsI T N P J n b i f d → q9hsI T N P J (n + k + 1) b m (f + f1) (d + d1)
  | 0, _, _, _, h => False.elim h
  | n + 1, b, f, d, h => by
    rcases h with ⟨g1, g2, g3⟩ | ⟨c', m', f1', d1', f2, d2, g1, g2, g3, g4, g5, g6, g7, g8, g9, g10⟩
    · subst g1
      subst g2
      subst g3
      refine .inr ⟨c, m, f1, d1, 0, 0, h1, h2, h3, h4, h5, Int.le_refl _, ?_, by rw [Int64.zero_add, Int64.add_zero], by rw [Int64.zero_add, Int64.add_zero], ?_⟩
      · have := q9hs_add (q9hs_nil (T := T) (N := N) (P := P) (J := J) (b := m)) (n + k)
        rw [show n + 1 + k = 1 + (n + k) by omega]
        exact this
      · have := h10.up (n + 1)
        rw [show n + 1 + k = k + (n + 1) by omega]
        exact this
    · have ih := q9hs_snoc h1 h2 h3 h4 h5 h10 n m' f2 d2 g7
      refine .inr ⟨c', m', f1', d1', f2 + f1, d2 + d1, g1, g2, g3, g4, g5, by omega, ?_, by rw [g8, Int64.add_assoc], by rw [g9, Int64.add_assoc], ?_⟩
      · rw [show n + 1 + k = n + k + 1 by omega]
        exact ih
      · have := q9vaI.up (T := T) (N := N) (P := P) (J := J) (n := n) (c := c') (b := b) (m := m') (f := f1') (d := d1') g10 (k + 1)
        rw [show n + 1 + k = n + (k + 1) by omega]
        exact this
def q9hsL (T : Int → Int) (N P : Int) (J : Int → Int) : Bool → List q9TE9 → Int → Prop
  | _, [], _ => True
  | t, q :: st, e => (∃ n d, q9hsI T N P J n (q.1 + 1) e q.2.2.1 d ∧ q.2.2.2 = if t = true then d else d + 1) ∧ q9hsL T N P J false st q.1
theorem q9mo_am {c : q9CF9} {a : Int} (h : c.1 = a) : Int64.ofInt (q9amI T N P J 7 (q9weI T N (q9spI T N c.1))) = q9moI T N P J a := by
  rw [h]
  rfl
theorem q9vis_hs (hN : 0 ≤ N) : ∀ {c : q9CF9}, q9visI T N P J c → q9hsL T N P J true c.2.2 c.2.1 := by
  refine q9vis_ind (p := fun c => q9hsL T N P J true c.2.2 c.2.1) ⟨⟨1, 0, q9hs_nil, rfl⟩, trivial⟩ fun c c' hv hi hn => ?_
  obtain ⟨i1, i2, i3, i4, i5, i6, i7⟩ := q9vis_inv hN hv
  have hn0 := hn
  unfold q9th_nxI at hn
  split at hn
  · cases hn
  · rename_i q st hst
    rw [hst] at hi
    obtain ⟨⟨n, d, k1, k2⟩, k3⟩ := hi
    rw [if_pos rfl] at k2
    split at hn
    · rename_i h8
      split at hn
      · cases hn
      · rename_i q' st'
        split at hn
        · cases hn
          obtain ⟨⟨n', d', m1, m2⟩, m3⟩ := k3
          rw [if_neg (by decide)] at m2
          have l8 := q9lk8_len h8
          obtain ⟨o1, o2, ⟨c0, p1, p2, p3, p4, p5⟩, -⟩ := i7 0 _ (q9top_of hst) (by rw [q9stP_len]; omega)
          dsimp only at o1 o2 p4 p5
          have hen : q9enE T N P J q.1 c.2.1 := .inr ⟨c, q, q' :: st', hv, h8, hst, rfl, rfl⟩
          have hs := q9hs_snoc (k := n) (f1 := q9moI T N P J q.2.1 * q.2.2.1) (d1 := 1 + q9moI T N P J q.2.1 * q.2.2.2) p1 p2 p4 hen o2 (.inr (.inr ⟨p3, q.2.2.1, d, k1, by rw [q9mo_am p5], by rw [q9mo_am p5, k2]⟩)) n' _ _ _ m1
          exact ⟨⟨_, _, hs, by rw [if_pos rfl, m2, Int64.add_assoc]⟩, m3⟩
        · cases hn
    · split at hn
      · rename_i h8 hok
        split at hn
        · cases hn
          exact ⟨⟨1, 0, q9hs_nil, rfl⟩, ⟨n, d, k1, by rw [if_neg (by decide), k2]⟩, k3⟩
        · rename_i h7
          split at hn
          · cases hn
            have hen : q9enE T N P J c.2.1 (c.2.1 + 1) := .inl ⟨c, hv, hok, rfl, h7, rfl⟩
            have g1 := hok.1
            have g2 := hok.2.1
            by_cases hk : q9lkI T N c ≤ 1
            · have hs := q9hs_snoc (k := 0) hv hok rfl hen (by omega) (.inl ⟨hk, rfl, rfl⟩) n _ _ _ k1
              refine ⟨⟨n + 0 + 1, d + 1, ?_, by show q.2.2.2 + 1 = if true = true then d + 1 else d + 1 + 1; rw [if_pos rfl, k2]⟩, k3⟩
              dsimp only
              rw [if_pos hk]
              exact hs
            · have hs := q9hs_snoc (k := 0) hv hok rfl hen (by omega) (.inr (.inl ⟨by omega, by omega, rfl, rfl⟩)) n _ _ _ k1
              rw [Int64.add_zero] at hs
              refine ⟨⟨n + 0 + 1, d + 1, ?_, by show q.2.2.2 + 1 = if true = true then d + 1 else d + 1 + 1; rw [if_pos rfl, k2]⟩, k3⟩
              dsimp only
              rw [if_neg hk]
              exact hs
          · cases hn
      · cases hn
/-- the text itself is the last -/
theorem q9vis_base : ∀ {c : q9CF9}, q9visI T N P J c → (q9th_stP c).getLast? = some (-1, 0) := by
  refine q9vis_ind (p := fun c => (q9th_stP c).getLast? = some (-1, 0)) rfl fun c c' hv hi hn => ?_
  rcases q9nx_stP hn with ⟨o, L, h8, e1, e2, e3, e4⟩ | ⟨hok, h7, e1, e2⟩ | ⟨hok, h7, e1, e2⟩
  · rw [e1] at hi
    rw [e2]
    cases L with
    | nil => exact absurd e3 (by decide)
    | cons a L =>
      rw [List.getLast?_cons_cons] at hi
      exact hi
  · rw [e1]
    cases hL : q9th_stP c with
    | nil => rw [hL] at hi; cases hi
    | cons a L =>
      rw [List.getLast?_cons_cons, ← hL]
      exact hi
  · rw [e1]
    exact hi
end HOP
section FV
variable {T : Int → Int} {N P : Int} {J : Int → Int} {t0 : Int} {Sc : Int → Int}
theorem q9prev_one {c d c' : q9CF9} (h : q9visI T N P J c) (h' : q9visI T N P J d) (e : q9th_nxI T N P J c = some c') (e' : q9th_nxI T N P J d = some c') : c = d := by
  obtain ⟨n, hn⟩ := h
  obtain ⟨m, hm⟩ := h'
  have h1 : q9trI T N P J (n + 1) = some c' := by
    show (q9trI T N P J n).bind _ = _
    rw [hn]
    exact e
  have h2 : q9trI T N P J (m + 1) = some c' := by
    show (q9trI T N P J m).bind _ = _
    rw [hm]
    exact e'
  rcases Nat.lt_trichotomy n m with h3 | h3 | h3
  · have := q9tr_lt (by omega) h1 h2
    omega
  · subst h3
    rw [hn] at hm
    exact Option.some.inj hm
  · have := q9tr_lt (by omega) h2 h1
    omega
theorem q9F_vis {c : q9CF9} {a b : Int} (hv : q9visI T N P J c) (hc : c.1 = a) : FF T N P J t0 Sc 1020 a b = some 1 := by
  rw [q9FF_1020]
  exact q9at_V hv hc rfl fun v' h => h
theorem q9F_dp {c : q9CF9} {a b v : Int} (hv : q9visI T N P J c) (hc : c.1 = a) (h : v + 1 = c.2.2.length) : FF T N P J t0 Sc 1021 a b = some v := by
  rw [q9FF_1021]
  exact q9at_V (p := fun (v : Int) c => v + 1 = c.2.2.length) hv hc h fun v' h' => by omega
theorem q9F_sz {c : q9CF9} {a b v : Int} (hv : q9visI T N P J c) (hc : c.1 = a) (h : v = c.2.1) : FF T N P J t0 Sc 1022 a b = some v := by
  rw [q9FF_1022]
  exact q9at_V (p := fun (v : Int) c => v = c.2.1) hv hc h fun v' h' => by omega
theorem q9F_opn {c : q9CF9} {a b v : Int} {e : q9TE9} (hv : q9visI T N P J c) (hc : c.1 = a) (hb : 1 ≤ b) (he : q9enI c b = some e) (h : v = e.1) : FF T N P J t0 Sc 1023 a b = some v := by
  rw [q9FF_1023]
  exact q9at_V (p := fun (v : Int) c => 1 ≤ b ∧ ∃ e, q9enI c b = some e ∧ v = e.1) hv hc ⟨hb, e, he, h⟩ fun v' ⟨_, e', h1, h2⟩ => by
    rw [he] at h1
    cases h1
    rw [h, h2]
theorem q9F_opb {c : q9CF9} {a b v : Int} {e : q9TE9} (hv : q9visI T N P J c) (hc : c.1 = a) (hb : 1 ≤ b) (he : q9enI c b = some e) (h : v = e.2.1) : FF T N P J t0 Sc 1037 a b = some v := by
  rw [q9FF_1037]
  exact q9at_V (p := fun (v : Int) c => 1 ≤ b ∧ ∃ e, q9enI c b = some e ∧ v = e.2.1) hv hc ⟨hb, e, he, h⟩ fun v' ⟨_, e', h1, h2⟩ => by
    rw [he] at h1
    cases h1
    rw [h, h2]
theorem q9F_prv {c c' : q9CF9} {a b v : Int} (hv : q9visI T N P J c) (hn : q9th_nxI T N P J c = some c') (hc : c'.1 = a) (h : v = c.1) : FF T N P J t0 Sc 1026 a b = some v := by
  rw [q9FF_1026]
  refine q9chV_to (fun v' ⟨d, d', h1, h2, h3, h4⟩ => ?_) ⟨c, c', hv, hn, hc, h⟩
  have e := q9vis_pos (q9vis_next hv hn) (q9vis_next h1 h2) (by rw [hc, h3])
  subst e
  rw [h4, h, q9prev_one hv h1 hn h2]
theorem q9F_beg {c : q9CF9} {a b : Int} (hv : q9visI T N P J c) (hc : c.1 = a) (h8 : q9lkI T N c ≠ 8) (h9 : c.2.2.length < 2 → q9lkI T N c ≠ 9) : FF T N P J t0 Sc 1027 a b = some 1 := by
  rw [q9FF_1027]
  exact q9at_V (p := fun (v : Int) c => q9lkI T N c ≠ 8 ∧ (c.2.2.length < 2 → q9lkI T N c ≠ 9) ∧ v = 1) hv hc ⟨h8, h9, rfl⟩ fun v' h' => h'.2.2
theorem q9F_pvs {c : q9CF9} {a b : Int} (hv : q9prI T N P J c a) : FF T N P J t0 Sc 1030 a b = some 1 := by
  rw [q9FF_1030]
  exact q9pr_V (p := fun (v : Int) c => v = 1) hv rfl fun v' h => h
theorem q9F_pdp {c : q9CF9} {a b v : Int} (hv : q9prI T N P J c a) (h : v + (if q9lkI T N c = 8 then 2 else 1) = c.2.2.length) : FF T N P J t0 Sc 1031 a b = some v := by
  rw [q9FF_1031]
  exact q9pr_V (p := fun (v : Int) c => v + (if q9lkI T N c = 8 then 2 else 1) = c.2.2.length) hv h fun v' h' => by omega
theorem q9F_psz {c : q9CF9} {a b v : Int} (hv : q9prI T N P J c a) (h : v = c.2.1 + (if q9lkI T N c = 8 then 0 else 1)) : FF T N P J t0 Sc 1032 a b = some v := by
  rw [q9FF_1032]
  exact q9pr_V (p := fun (v : Int) c => v = c.2.1 + (if q9lkI T N c = 8 then 0 else 1)) hv h fun v' h' => by rw [h', h]
theorem q9F_pop {c : q9CF9} {a b v : Int} {e : q9TE9} (hv : q9prI T N P J c a) (hb : 1 ≤ b) (hl : b + (if q9lkI T N c = 8 then 1 else 0) < c.2.2.length) (he : q9enI c b = some e) (h : v = e.1) : FF T N P J t0 Sc 1033 a b = some v := by
  rw [q9FF_1033]
  exact q9pr_V (p := fun (v : Int) c => 1 ≤ b ∧ b + (if q9lkI T N c = 8 then 1 else 0) < c.2.2.length ∧ ∃ e, q9enI c b = some e ∧ v = e.1) hv ⟨hb, hl, e, he, h⟩ fun v' ⟨_, _, e', h1, h2⟩ => by
    rw [he] at h1
    cases h1
    rw [h, h2]
theorem q9F_pob {c : q9CF9} {a b v : Int} {e : q9TE9} (hv : q9prI T N P J c a) (hb : 1 ≤ b) (hl : b + (if q9lkI T N c = 8 then 1 else 0) < c.2.2.length) (he : q9enI c b = some e) (h : v = e.2.1) : FF T N P J t0 Sc 1038 a b = some v := by
  rw [q9FF_1038]
  exact q9pr_V (p := fun (v : Int) c => 1 ≤ b ∧ b + (if q9lkI T N c = 8 then 1 else 0) < c.2.2.length ∧ ∃ e, q9enI c b = some e ∧ v = e.2.1) hv ⟨hb, hl, e, he, h⟩ fun v' ⟨_, _, e', h1, h2⟩ => by
    rw [he] at h1
    cases h1
    rw [h, h2]
theorem q9F_plk {c : q9CF9} {a b v : Int} {q : q9TE9} {st : List q9TE9} (hv : q9prI T N P J c a) (hst : c.2.2 = q :: st) (h : v = if q9lkI T N c = 8 then q.2.1 else c.1) : FF T N P J t0 Sc 1034 a b = some v := by
  rw [q9FF_1034]
  exact q9pr_V (p := fun (v : Int) c => ∃ q st, c.2.2 = q :: st ∧ v = if q9lkI T N c = 8 then q.2.1 else c.1) hv ⟨q, st, hst, h⟩ fun v' ⟨q', st', h1, h2⟩ => by
    rw [hst] at h1
    cases h1
    rw [h, h2]
theorem q9F_vlk {c c' : q9CF9} {a b v : Int} (hv : q9prI T N P J c v) (hn : q9th_nxI T N P J c = some c') (hc : c'.1 = a) : FF T N P J t0 Sc 1035 a b = some v := by
  rw [q9FF_1035]
  refine q9chV_to (fun v' ⟨d, d', h1, h2, h3⟩ => ?_) ⟨c, c', hv, hn, hc⟩
  have e := q9vis_pos (q9vis_next hv.1 hn) (q9vis_next h1.1 h2) (by rw [hc, h3])
  subst e
  have e2 := q9prev_one hv.1 h1.1 hn h2
  subst e2
  rcases hv.2 with ⟨ok1, g1, g2⟩ | ⟨g1, g2⟩
  · rcases h1.2 with ⟨ok2, k1, k2⟩ | ⟨k1, k2⟩
    · rw [g2, k2]
    · have := ok1.2.1
      omega
  · rcases h1.2 with ⟨ok2, k1, k2⟩ | ⟨k1, k2⟩
    · have := ok2.2.1
      omega
    · rw [g2, k2]
theorem q9F_pca {c : q9CF9} {a b v : Int} (hv : q9prI T N P J c a) (h8 : q9lkI T N c = 8) (h : v = c.1) : FF T N P J t0 Sc 1036 a b = some v := by
  rw [q9FF_1036]
  exact q9pr_V (p := fun (v : Int) c => q9lkI T N c = 8 ∧ v = c.1) hv ⟨h8, h⟩ fun v' h' => by rw [h'.2, h]
theorem q9F_rsk {c : q9CF9} {a b v : Int} (hv : q9visI T N P J c) (hn : q9th_nxI T N P J c = none) (h : v = (q9th_reI T N P J c).1) : FF T N P J t0 Sc 1040 a b = some v := by
  rw [q9FF_1040]
  exact q9la_V (p := fun (v : Int) c => v = (q9th_reI T N P J c).1) hv hn h fun v' h' => by rw [h', h]
theorem q9F_rsp {c : q9CF9} {a b v : Int} (hv : q9visI T N P J c) (hn : q9th_nxI T N P J c = none) (h0 : (q9th_reI T N P J c).1 ≠ 0) (h : v = (q9th_reI T N P J c).2) : FF T N P J t0 Sc 1041 a b = some v := by
  rw [q9FF_1041]
  exact q9la_V (p := fun (v : Int) c => (q9th_reI T N P J c).1 ≠ 0 ∧ v = (q9th_reI T N P J c).2) hv hn ⟨h0, h⟩ fun v' h' => by rw [h'.2, h]
theorem q9F_fsz {c : q9CF9} {a b v : Int} (hv : q9visI T N P J c) (hn : q9th_nxI T N P J c = none) (h0 : q9edI T N c) (h : v = c.2.1) : FF T N P J t0 Sc 1042 a b = some v := by
  rw [q9FF_1042]
  exact q9la_V (p := fun (v : Int) c => q9edI T N c ∧ v = c.2.1) hv hn ⟨h0, h⟩ fun v' h' => by rw [h'.2, h]
theorem q9F_kd {c : q9CF9} {a b v : Int} (hv : q9visI T N P J c) (hk : q9okL T N P J c) (hc : c.2.1 = a) (h : v = q9lkI T N c) : FF T N P J t0 Sc 1050 a b = some v := by
  rw [q9FF_1050]
  exact q9ln_V (p := fun (v : Int) c => v = q9lkI T N c) hv hk hc h fun v' h' => by rw [h', h]
theorem q9F_mn {c : q9CF9} {a b v : Int} (hv : q9visI T N P J c) (hk : q9okL T N P J c) (hc : c.2.1 = a) (h : v = q9amI T N P J (q9lkI T N c) (q9weI T N (q9spI T N c.1))) : FF T N P J t0 Sc 1051 a b = some v := by
  rw [q9FF_1051]
  exact q9ln_V (p := fun (v : Int) c => v = q9amI T N P J (q9lkI T N c) (q9weI T N (q9spI T N c.1))) hv hk hc h fun v' h' => by rw [h', h]
theorem q9F_en (hN : 0 ≤ N) {a b v : Int} (h : q9enE T N P J a v) : FF T N P J t0 Sc 1052 a b = some v := by
  rw [q9FF_1052]
  exact q9chV_to (fun v' h' => q9en_one hN h h') h
theorem q9G_frv {c : q9CF9} {a b : Int} {v : Int64} {e : q9TE9} (hv : q9visI T N P J c) (hc : c.1 = a) (he : q9enI c b = some e) (h : v = e.2.2.1) : FL T N P J 1024 a b = some v := by
  rw [q9FL_1024]
  exact q9at_V (p := fun (v : Int64) c => ∃ e, q9enI c b = some e ∧ v = e.2.2.1) hv hc ⟨e, he, h⟩ fun v' ⟨e', h1, h2⟩ => by
    rw [he] at h1
    cases h1
    rw [h, h2]
theorem q9G_dnv {c : q9CF9} {a b : Int} {v : Int64} {e : q9TE9} (hv : q9visI T N P J c) (hc : c.1 = a) (he : q9enI c b = some e) (h : v = e.2.2.2) : FL T N P J 1025 a b = some v := by
  rw [q9FL_1025]
  exact q9at_V (p := fun (v : Int64) c => ∃ e, q9enI c b = some e ∧ v = e.2.2.2) hv hc ⟨e, he, h⟩ fun v' ⟨e', h1, h2⟩ => by
    rw [he] at h1
    cases h1
    rw [h, h2]
theorem q9G_dn1 {c : q9CF9} {a b : Int} {v : Int64} {q : q9TE9} {st : List q9TE9} (hv : q9visI T N P J c) (hc : c.1 = a) (hst : c.2.2 = q :: st) (h : v = q.2.2.2 + 1) : FL T N P J 1028 a b = some v := by
  rw [q9FL_1028]
  exact q9at_V (p := fun (v : Int64) c => ∃ q st, c.2.2 = q :: st ∧ v = q.2.2.2 + 1) hv hc ⟨q, st, hst, h⟩ fun v' ⟨q', st', h1, h2⟩ => by
    rw [hst] at h1
    cases h1
    rw [h, h2]
theorem q9G_frn {c : q9CF9} {a b : Int} {v : Int64} {q : q9TE9} {st : List q9TE9} (hv : q9visI T N P J c) (hc : c.1 = a) (hk : q9lkI T N c ≤ 1) (hst : c.2.2 = q :: st) (h : v = q.2.2.1 + Int64.ofInt (q9amI T N P J (q9lkI T N c) (q9weI T N (q9spI T N c.1)))) : FL T N P J 1029 a b = some v := by
  rw [q9FL_1029]
  exact q9at_V (p := fun (v : Int64) c => q9lkI T N c ≤ 1 ∧ ∃ q st, c.2.2 = q :: st ∧ v = q.2.2.1 + Int64.ofInt (q9amI T N P J (q9lkI T N c) (q9weI T N (q9spI T N c.1)))) hv hc ⟨hk, q, st, hst, h⟩ fun v' ⟨_, q', st', h1, h2⟩ => by
    rw [hst] at h1
    cases h1
    rw [h, h2]
theorem q9G_ffr {c : q9CF9} {a b : Int} {v : Int64} {e : q9TE9} (hv : q9visI T N P J c) (hn : q9th_nxI T N P J c = none) (h0 : q9edI T N c) (he : q9enI c 0 = some e) (h : v = e.2.2.1) : FL T N P J 1043 a b = some v := by
  rw [q9FL_1043]
  exact q9la_V (p := fun (v : Int64) c => q9edI T N c ∧ ∃ e, q9enI c 0 = some e ∧ v = e.2.2.1) hv hn ⟨h0, e, he, h⟩ fun v' ⟨_, e', h1, h2⟩ => by
    rw [he] at h1
    cases h1
    rw [h, h2]
theorem q9G_fdn {c : q9CF9} {a b : Int} {v : Int64} {e : q9TE9} (hv : q9visI T N P J c) (hn : q9th_nxI T N P J c = none) (h0 : q9edI T N c) (he : q9enI c 0 = some e) (h : v = e.2.2.2) : FL T N P J 1044 a b = some v := by
  rw [q9FL_1044]
  exact q9la_V (p := fun (v : Int64) c => q9edI T N c ∧ ∃ e, q9enI c 0 = some e ∧ v = e.2.2.2) hv hn ⟨h0, e, he, h⟩ fun v' ⟨_, e', h1, h2⟩ => by
    rw [he] at h1
    cases h1
    rw [h, h2]
theorem q9G_fs (hN : 0 ≤ N) {a b : Int} {v d : Int64} {n : Nat} (h : q9hsI T N P J n a b v d) : FL T N P J 1053 a b = some v := by
  rw [q9FL_1053]
  exact q9chV_to (fun v' ⟨m, d', h'⟩ => (q9hs_one hN _ _ _ _ _ _ _ _ h h').1) ⟨n, d, h⟩
theorem q9G_ds (hN : 0 ≤ N) {a b : Int} {v f : Int64} {n : Nat} (h : q9hsI T N P J n a b f v) : FL T N P J 1054 a b = some v := by
  rw [q9FL_1054]
  exact q9chV_to (fun v' ⟨m, d', h'⟩ => (q9hs_one hN _ _ _ _ _ _ _ _ h h').2) ⟨n, f, h⟩
theorem q9G_ds1 (hN : 0 ≤ N) {a b : Int} {v f d : Int64} {n : Nat} (h : q9hsI T N P J n a b f d) (e : v = d + 1) : FL T N P J 1057 a b = some v := by
  rw [q9FL_1057]
  exact q9chV_to (fun v' ⟨m, f', d', h', e'⟩ => by rw [e', e, (q9hs_one hN _ _ _ _ _ _ _ _ h h').2]) ⟨n, f, d, h, e⟩
end FV
section FIN
variable {T : Int → Int} {N P : Int} {J : Int → Int} {t0 : Int} {Sc : Int → Int}
theorem q9lk_k {c : q9CF9} (hk : 0 ≤ q9kbI T N (q9spI T N c.1)) : q9lkI T N c = q9kbI T N (q9spI T N c.1) := by
  refine q9lk_of (fun h8 => ?_) hk
  have hw := q9kb_we hk
  have hb := q9we_let (T := T) (N := N) (i := q9spI T N c.1) 0 (by omega)
  rw [show q9spI T N c.1 + ((0 : Nat) : Int) = q9spI T N c.1 by omega, q9lk8_b h8] at hb
  omega
theorem q9fin_of {c : q9CF9} (hv : q9visI T N P J c) (hn : q9th_nxI T N P J c = none) : finI T N P J = q9fnI T N P J c := by
  unfold finI
  have hh : ∃ c, q9visI T N P J c ∧ q9th_nxI T N P J c = none := ⟨c, hv, hn⟩
  rw [dif_pos hh, q9vis_last (Classical.choose_spec hh).1 hv (Classical.choose_spec hh).2 hn]
theorem q9fn_ed {c : q9CF9} {e : q9TE9} (h : q9edI T N c) (he : q9enI c 0 = some e) : q9fnI T N P J c = if 1 ≤ e.2.2.1.toInt ∧ e.2.2.1.toInt ≤ 400 ∧ e.2.2.2.toInt ≤ 2000 then (0, 0, e.2.2.1.toInt) else (4, N, 0) := by
  unfold q9fnI
  rw [if_pos h, he]
theorem q9fn_no {c : q9CF9} (h : 1 ≤ (q9th_reI T N P J c).1) : q9fnI T N P J c = ((q9th_reI T N P J c).1, (q9th_reI T N P J c).2, 0) := by
  unfold q9fnI
  rw [if_neg]
  rintro ⟨h9, hl⟩
  have : q9th_reI T N P J c = (0, 0) := by
    unfold q9th_reI
    rw [if_neg (by omega), if_pos h9, if_pos (by omega)]
  rw [this] at h
  exact absurd h (by decide)
theorem q9re_rng (hN : 0 ≤ N) {c : q9CF9} (hv : q9visI T N P J c) : 0 ≤ (q9th_reI T N P J c).1 ∧ (q9th_reI T N P J c).1 ≤ 3 ∧ 0 ≤ (q9th_reI T N P J c).2 ∧ (q9th_reI T N P J c).2 ≤ N := by
  have hi := q9vis_inv hN hv
  have i1 := hi.1
  have i2 := hi.2.1
  have s1 := q9sp_ge (T := T) (N := N) (i := c.1)
  have s2 := q9sp_le (T := T) (N := N) (i := c.1)
  obtain ⟨s5, s6⟩ := q9rc_G (T := T) (N := N) (P := P) (J := J) (c := c)
  have s3 := q9we_ge (T := T) (N := N) (i := q9spI T N c.1)
  have s4 := q9we_le (T := T) (N := N) (i := q9spI T N c.1)
  unfold q9th_reI
  split
  · rename_i h8
    have hb := q9byI_lt (T := T) (N := N) (i := q9spI T N c.1) (by rw [q9lk8_b h8]; decide)
    have s7 := q9sp_ge (T := T) (N := N) (i := q9spI T N c.1 + 1)
    have s8 := q9sp_le (T := T) (N := N) (i := q9spI T N c.1 + 1)
    dsimp only
    omega
  · split
    · split
      · dsimp only
        omega
      · dsimp only
        omega
    · split
      · dsimp only
        omega
      · split
        · dsimp only
          omega
        · split
          · have s7 := q9sp_ge (T := T) (N := N) (i := (q9rcI T N P J c).2)
            have s8 := q9sp_le (T := T) (N := N) (i := (q9rcI T N P J c).2)
            dsimp only
            omega
          · have s7 : 0 ≤ (q9rcI T N P J c).1 ∧ (q9rcI T N P J c).1 ≤ 2 := q9tkI_B _
            omega
theorem q9fin_rng (hN : 0 ≤ N ∧ N ≤ 400) : 0 ≤ (finI T N P J).1 ∧ (finI T N P J).1 ≤ 9 ∧ 0 ≤ (finI T N P J).2.1 ∧ (finI T N P J).2.1 ≤ 400 ∧ 0 ≤ (finI T N P J).2.2 ∧ (finI T N P J).2.2 ≤ 400 := by
  unfold finI
  split
  · rename_i hh
    obtain ⟨hv, hn⟩ := Classical.choose_spec hh
    have h1 := q9re_rng hN.1 hv
    unfold q9fnI
    split
    · split
      · split
        · rename_i hc
          dsimp only
          omega
        · dsimp only
          omega
      · dsimp only
        omega
    · dsimp only
      omega
  · dsimp only
    omega
/-- an unclosed repeat's line -/
theorem q9op_kd (hN : 0 ≤ N) {c : q9CF9} {j : Int} {e : q9TE9} (hv : q9visI T N P J c) (hj : 1 ≤ j) (he : q9enI c j = some e) : 0 ≤ e.1 ∧ e.1 < c.2.1 ∧ ∃ c0, q9visI T N P J c0 ∧ q9okL T N P J c0 ∧ q9lkI T N c0 = 7 ∧ c0.2.1 = e.1 := by
  obtain ⟨-, -, -, -, -, -, i7⟩ := q9vis_inv hN hv
  have h1 := q9en_of he
  have hl := (q9en_lt he).2
  have l1 := q9stP_len (c := c)
  rw [List.getElem?_reverse (by omega)] at h1
  obtain ⟨k1, k2, ⟨c0, b1, b2, b3, b4, -⟩, -⟩ := i7 _ _ h1 (by omega)
  exact ⟨k1, k2, c0, b1, b2, b3, b4⟩
/-- where an unclosed repeat began -/
theorem q9ab_en (hN : 0 ≤ N) {c : q9CF9} {q : q9TE9} {st : List q9TE9} (hv : q9visI T N P J c) (hst : c.2.2 = q :: st) (h8 : q9lkI T N c = 8) {a j : Int} (ha : q.2.1 = a) {p : q9CF9 → Prop} (h : q9atI T N P J a p) : ∃ c0, q9visI T N P J c0 ∧ c0.1 = a ∧ p c0 ∧ (∀ e, q9enI c0 j = some e → ∃ e', q9enI c j = some e' ∧ e'.1 = e.1 ∧ e'.2.1 = e.2.1) ∧ c0.2.2.length + 1 = c.2.2.length := by
  have l8 := q9lk8_len h8
  have l1 := q9stP_len (c := c)
  obtain ⟨c0, b1, b2, b3, b4, b5, b6⟩ := q9vis_ab hN hv 0 _ (q9top_of hst) (by omega)
  have b5 : c0.1 = q.2.1 := b5
  have l2 := q9stP_len (c := c0)
  have l3 : c0.2.2.length + 1 = c.2.2.length := by
    rw [b6, List.length_drop] at l2
    omega
  refine ⟨c0, b1, by rw [b5, ha], q9th_at_of b1 (by rw [b5, ha]) h, fun e he => ?_, l3⟩
  have h0 := (q9en_lt he).1
  have h1 := q9en_of he
  refine q9en_to (o := (e.1, e.2.1)) h0 ?_
  have hl := (q9en_lt he).2
  cases hs : q9th_stP c with
  | nil => rw [hs] at l1; exact absurd l1 (by rw [List.length_nil]; omega)
  | cons o L =>
    rw [hs] at b6
    have b6 : q9th_stP c0 = L := b6
    rw [List.reverse_cons, List.getElem?_append_left (by rw [List.length_reverse, ← b6]; omega), ← b6]
    exact h1
end FIN
section PLAY2
variable {kd mn en : Int → Int} {n : Int}
theorem q9plD_eq (W : q9plW kd mn en n) : ∀ (k k' : Nat) (i e : Int), e ≤ n → n - i ≤ k → n - i ≤ k' → q9plD kd mn en k i e = q9plD kd mn en k' i e
  | 0, 0, _, _, _, _, _ => rfl
  | 0, k' + 1, i, e, he, h, _ => by
    show (0 : Int) = if i < e then _ else 0
    rw [if_neg (by omega)]
  | k + 1, 0, i, e, he, _, h => by
    show (if i < e then _ else (0 : Int)) = 0
    rw [if_neg (by omega)]
  | k + 1, k' + 1, i, e, he, h, h' => by
    show (if i < e then _ else (0 : Int)) = if i < e then _ else 0
    by_cases hi : i < e
    · have w := W.2.1 i (by omega)
      rw [if_pos hi, if_pos hi, q9plD_eq W k k' (i + 1) (en i) w.2 (by omega) (by omega), q9plD_eq W k k' (en i) e he (by omega) (by omega)]
    · rw [if_neg hi, if_neg hi]
theorem q9plF_eq (W : q9plW kd mn en n) : ∀ (k k' : Nat) (i e : Int), e ≤ n → n - i ≤ k → n - i ≤ k' → q9plF kd mn en k i e = q9plF kd mn en k' i e
  | 0, 0, _, _, _, _, _ => rfl
  | 0, k' + 1, i, e, he, h, _ => by
    show (0 : Int) = if i < e then _ else 0
    rw [if_neg (by omega)]
  | k + 1, 0, i, e, he, _, h => by
    show (if i < e then _ else (0 : Int)) = 0
    rw [if_neg (by omega)]
  | k + 1, k' + 1, i, e, he, h, h' => by
    show (if i < e then _ else (0 : Int)) = if i < e then _ else 0
    by_cases hi : i < e
    · have w := W.2.1 i (by omega)
      rw [if_pos hi, if_pos hi, q9plF_eq W k k' (i + 1) (en i) w.2 (by omega) (by omega), q9plF_eq W k k' (en i) e he (by omega) (by omega)]
    · rw [if_neg hi, if_neg hi]
theorem q9bD_eq (W : q9plW kd mn en n) {i e : Int} (hi : i < e) (he : e ≤ n) : q9bD kd mn en n i e = q9lD kd mn en n i + q9bD kd mn en n (en i) e := by
  have w := W.2.1 i (by omega)
  have e1 : (n - i).toNat = (n - (i + 1)).toNat + 1 := by omega
  unfold q9bD q9lD
  rw [e1]
  show (if i < e then _ else (0 : Int)) = _
  rw [if_pos hi, q9plD_eq W (n - (i + 1)).toNat (n - en i).toNat (en i) e he (by omega) (by omega)]
  rfl
theorem q9bF_eq (W : q9plW kd mn en n) {i e : Int} (hi : i < e) (he : e ≤ n) : q9bF kd mn en n i e = q9lF kd mn en n i + q9bF kd mn en n (en i) e := by
  have w := W.2.1 i (by omega)
  have e1 : (n - i).toNat = (n - (i + 1)).toNat + 1 := by omega
  unfold q9bF q9lF
  rw [e1]
  show (if i < e then _ else (0 : Int)) = _
  rw [if_pos hi, q9plF_eq W (n - (i + 1)).toNat (n - en i).toNat (en i) e he (by omega) (by omega)]
  rfl
theorem q9bD_no {i e : Int} (hi : e ≤ i) : q9bD kd mn en n i e = 0 := by
  unfold q9bD
  cases (n - i).toNat with
  | zero => rfl
  | succ k =>
    show (if i < e then _ else (0 : Int)) = 0
    rw [if_neg (by omega)]
theorem q9bF_no {i e : Int} (hi : e ≤ i) : q9bF kd mn en n i e = 0 := by
  unfold q9bF
  cases (n - i).toNat with
  | zero => rfl
  | succ k =>
    show (if i < e then _ else (0 : Int)) = 0
    rw [if_neg (by omega)]
theorem q9plD_0 (W : q9plW kd mn en n) : ∀ (k : Nat) (i e : Int), 0 ≤ q9plD kd mn en k i e
  | 0, _, _ => Int.le_refl _
  | k + 1, i, e => by
    have h1 := q9plD_0 W k (en i) e
    have h2 := W.2.2.1 i
    have h3 := Int.mul_nonneg h2 (q9plD_0 W k (i + 1) (en i))
    unfold q9plD
    repeat' split
    all_goals omega
theorem q9plF_0 (W : q9plW kd mn en n) : ∀ (k : Nat) (i e : Int), 0 ≤ q9plF kd mn en k i e
  | 0, _, _ => Int.le_refl _
  | k + 1, i, e => by
    have h1 := q9plF_0 W k (en i) e
    have h2 := W.2.2.1 i
    have h3 := Int.mul_nonneg h2 (q9plF_0 W k (i + 1) (en i))
    unfold q9plF
    repeat' split
    all_goals omega
theorem q9bD_0 (W : q9plW kd mn en n) {i e : Int} : 0 ≤ q9bD kd mn en n i e := q9plD_0 W _ _ _
theorem q9bF_0 (W : q9plW kd mn en n) {i e : Int} : 0 ≤ q9bF kd mn en n i e := q9plF_0 W _ _ _
theorem q9lD_1 (W : q9plW kd mn en n) {i : Int} : 1 ≤ q9lD kd mn en n i := by
  have h2 := W.2.2.1 i
  have h3 := Int.mul_nonneg h2 (q9bD_0 W (i := i + 1) (e := en i))
  unfold q9lD
  repeat' split
  all_goals omega
theorem q9lF_0 (W : q9plW kd mn en n) {i : Int} : 0 ≤ q9lF kd mn en n i := by
  have h2 := W.2.2.1 i
  have h3 := Int.mul_nonneg h2 (q9bF_0 W (i := i + 1) (e := en i))
  unfold q9lF
  repeat' split
  all_goals omega
theorem q9lD_7 {i : Int} (h : kd i = 7) : q9lD kd mn en n i = 1 + mn i * q9bD kd mn en n (i + 1) (en i) := by
  unfold q9lD
  rw [if_neg (by omega), if_neg (by omega)]
theorem q9lF_7 {i : Int} (h : kd i = 7) : q9lF kd mn en n i = mn i * q9bF kd mn en n (i + 1) (en i) := by
  unfold q9lF
  rw [if_neg (by omega), if_neg (by omega)]
theorem q9lD_fr {i : Int} (h : kd i ≤ 1) : q9lD kd mn en n i = 1 + mn i := by
  unfold q9lD
  rw [if_pos h]
theorem q9lF_fr {i : Int} (h : kd i ≤ 1) : q9lF kd mn en n i = mn i := by
  unfold q9lF
  rw [if_pos h]
theorem q9lD_no {i : Int} (h : ¬ kd i ≤ 1) (h2 : kd i ≤ 6) : q9lD kd mn en n i = 1 := by
  unfold q9lD
  rw [if_neg h, if_pos h2]
theorem q9lF_no {i : Int} (h : ¬ kd i ≤ 1) (h2 : kd i ≤ 6) : q9lF kd mn en n i = 0 := by
  unfold q9lF
  rw [if_neg h, if_pos h2]
/-- a stretch of a repeat's times -/
theorem q9rep_le {r m D : Int} (h : r + 1 ≤ m) (hD : 0 ≤ D) : r * D + D ≤ m * D := by
  have h1 := Int.mul_le_mul_of_nonneg_right h hD
  rw [Int.add_mul, Int.one_mul] at h1
  exact h1
theorem q9ok_nx (W : q9plW kd mn en n) {p : q9PS9} (h : q9okP kd mn en n p) (hi : p.1 < p.2.1) : q9okP kd mn en n (q9nxP kd mn en n p) := by
  obtain ⟨i, e, t, b, d, f⟩ := p
  obtain ⟨h1, h2, h3, h4⟩ := h
  have hi : i < e := hi
  have h1 : 0 ≤ i := h1
  have h2 : e ≤ n := h2
  have w := W.2.1 i (by omega)
  refine ⟨?_, h2, ?_, fun j hj hj2 => h4 j ?_ hj2⟩
  · show 0 ≤ en i
    omega
  · show t = b + q9lD kd mn en n i + q9bD kd mn en n (en i) e
    have h3 : t = b + q9bD kd mn en n i e := h3
    rw [h3, q9bD_eq W hi h2]
    omega
  · have hj : en i ≤ j := hj
    show i ≤ j
    omega
theorem q9ok_in (W : q9plW kd mn en n) {p : q9PS9} (h : q9okP kd mn en n p) (hi : p.1 < p.2.1) (h7 : kd p.1 = 7) {r : Int} : q9okP kd mn en n (q9inP kd mn en n p r) := by
  obtain ⟨i, e, t, b, d, f⟩ := p
  obtain ⟨h1, h2, h3, h4⟩ := h
  have hi : i < e := hi
  have h1 : 0 ≤ i := h1
  have h2 : e ≤ n := h2
  have h7 : kd i = 7 := h7
  have w := W.2.1 i (by omega)
  refine ⟨?_, w.2, ?_, fun j hj hj2 => ?_⟩
  · show 0 ≤ i + 1
    omega
  · show b + 1 + (r + 1) * q9bD kd mn en n (i + 1) (en i) = b + 1 + r * q9bD kd mn en n (i + 1) (en i) + q9bD kd mn en n (i + 1) (en i)
    rw [Int.add_mul, Int.one_mul]
    omega
  · have hj : i + 1 ≤ j := hj
    have hj2 : j < en i := hj2
    exact W.2.2.2.2 i j h7 (by omega) (by omega) hj2
theorem q9InK_up : ∀ (k : Nat) (p q : q9PS9), q9InK kd mn en n k p q → q9InK kd mn en n (k + 1) p q
  | 0, _, _, h => False.elim h
  | k + 1, p, q, h => by
    obtain ⟨h1, h2⟩ := h
    refine ⟨h1, ?_⟩
    rcases h2 with h2 | h2 | ⟨h7, r, r1, r2, h2⟩
    · exact .inl h2
    · exact .inr (.inl (q9InK_up k _ _ h2))
    · exact .inr (.inr ⟨h7, r, r1, r2, q9InK_up k _ _ h2⟩)
theorem q9InS_self {p : q9PS9} (h : p.1 < p.2.1) : q9InS kd mn en n p p := ⟨1, h, .inl rfl⟩
theorem q9InS_nx {p q : q9PS9} (h : p.1 < p.2.1) (h2 : q9InS kd mn en n (q9nxP kd mn en n p) q) : q9InS kd mn en n p q := by
  obtain ⟨k, hk⟩ := h2
  exact ⟨k + 1, h, .inr (.inl hk)⟩
theorem q9InS_in {p q : q9PS9} {r : Int} (h : p.1 < p.2.1) (h7 : kd p.1 = 7) (r1 : 0 ≤ r) (r2 : r < mn p.1) (h2 : q9InS kd mn en n (q9inP kd mn en n p r) q) : q9InS kd mn en n p q := by
  obtain ⟨k, hk⟩ := h2
  exact ⟨k + 1, h, .inr (.inr ⟨h7, r, r1, r2, hk⟩)⟩
theorem q9InK_lt : ∀ (k : Nat) (p q : q9PS9), q9InK kd mn en n k p q → q.1 < q.2.1
  | 0, _, _, h => False.elim h
  | k + 1, p, q, h => by
    obtain ⟨h1, h2⟩ := h
    rcases h2 with h2 | h2 | ⟨h7, r, r1, r2, h2⟩
    · rw [h2]
      exact h1
    · exact q9InK_lt k _ _ h2
    · exact q9InK_lt k _ _ h2
/-- what holds of a place holds of all that are reached from it -/
theorem q9InS_ind {C : q9PS9 → Prop} (hn : ∀ p, C p → p.1 < p.2.1 → C (q9nxP kd mn en n p)) (hi : ∀ p r, C p → p.1 < p.2.1 → kd p.1 = 7 → 0 ≤ r → r < mn p.1 → C (q9inP kd mn en n p r)) : ∀ (k : Nat) (p q : q9PS9), C p → q9InK kd mn en n k p q → C q
  | 0, _, _, _, h => False.elim h
  | k + 1, p, q, hp, h => by
    obtain ⟨h1, h2⟩ := h
    rcases h2 with h2 | h2 | ⟨h7, r, r1, r2, h2⟩
    · rw [h2]
      exact hp
    · exact q9InS_ind hn hi k _ _ (hn p hp h1) h2
    · exact q9InS_ind hn hi k _ _ (hi p r hp h1 h7 r1 r2) h2
/-- the next line of the block, a repeat's lines -/
theorem q9InK_next : ∀ (k : Nat) (p q : q9PS9), q9InK kd mn en n k p q → en q.1 < q.2.1 → q9InS kd mn en n p (q9nxP kd mn en n q)
  | 0, _, _, h, _ => False.elim h
  | k + 1, p, q, h, hq => by
    obtain ⟨h1, h2⟩ := h
    rcases h2 with h2 | h2 | ⟨h7, r, r1, r2, h2⟩
    · subst h2
      exact q9InS_nx h1 (q9InS_self hq)
    · exact q9InS_nx h1 (q9InK_next k _ _ h2 hq)
    · exact q9InS_in h1 h7 r1 r2 (q9InK_next k _ _ h2 hq)
theorem q9InK_enter : ∀ (k : Nat) (p q : q9PS9) (r : Int), q9InK kd mn en n k p q → kd q.1 = 7 → 0 ≤ r → r < mn q.1 → q.1 + 1 < en q.1 → q9InS kd mn en n p (q9inP kd mn en n q r)
  | 0, _, _, _, h, _, _, _, _ => False.elim h
  | k + 1, p, q, r, h, h7, r1, r2, hq => by
    obtain ⟨h1, h2⟩ := h
    rcases h2 with h2 | h2 | ⟨h7', r', r1', r2', h2⟩
    · subst h2
      exact q9InS_in h1 h7 r1 r2 (q9InS_self hq)
    · exact q9InS_nx h1 (q9InK_enter k _ _ r h2 h7 r1 r2 hq)
    · exact q9InS_in h1 h7' r1' r2' (q9InK_enter k _ _ r h2 h7 r1 r2 hq)
/-- where they stand in time -/
theorem q9InK_bd (W : q9plW kd mn en n) : ∀ (k : Nat) (p q : q9PS9), q9okP kd mn en n p → q9InK kd mn en n k p q → q9okP kd mn en n q ∧ p.2.2.2.1 ≤ q.2.2.2.1 ∧ q.2.2.2.1 + q9lD kd mn en n q.1 ≤ p.2.2.1 ∧ q.2.2.1 ≤ p.2.2.1
  | 0, _, _, _, h => False.elim h
  | k + 1, p, q, ok, h => by
    obtain ⟨h1, h2⟩ := h
    obtain ⟨i, e, t, b, d, f⟩ := p
    have o1 : 0 ≤ i := ok.1
    have o2 : e ≤ n := ok.2.1
    have o3 : t = b + q9bD kd mn en n i e := ok.2.2.1
    have h1 : i < e := h1
    have e1 := q9bD_eq W h1 o2
    have e2 := q9bD_0 W (i := en i) (e := e)
    have e3 := q9lD_1 W (i := i)
    rcases h2 with h2 | h2 | ⟨h7, r, r1, r2, h2⟩
    · subst h2
      refine ⟨ok, Int.le_refl _, ?_, Int.le_refl _⟩
      show b + q9lD kd mn en n i ≤ t
      omega
    · obtain ⟨g1, g2, g3, g4⟩ := q9InK_bd W k _ _ (q9ok_nx W ok h1) h2
      have g2 : b + q9lD kd mn en n i ≤ q.2.2.2.1 := g2
      refine ⟨g1, ?_, g3, g4⟩
      show b ≤ _
      omega
    · have h7 : kd i = 7 := h7
      have r2 : r < mn i := r2
      obtain ⟨g1, g2, g3, g4⟩ := q9InK_bd W k _ _ (q9ok_in W ok h1 h7) h2
      have g2 : b + 1 + r * q9bD kd mn en n (i + 1) (en i) ≤ q.2.2.2.1 := g2
      have g3 : q.2.2.2.1 + q9lD kd mn en n q.1 ≤ b + 1 + (r + 1) * q9bD kd mn en n (i + 1) (en i) := g3
      have g4 : q.2.2.1 ≤ b + 1 + (r + 1) * q9bD kd mn en n (i + 1) (en i) := g4
      have e4 := q9rep_le (r := r) (m := mn i) (by omega) (q9bD_0 W (i := i + 1) (e := en i))
      have e5 := Int.mul_nonneg r1 (q9bD_0 W (i := i + 1) (e := en i))
      have e6 : (r + 1) * q9bD kd mn en n (i + 1) (en i) = r * q9bD kd mn en n (i + 1) (en i) + q9bD kd mn en n (i + 1) (en i) := by rw [Int.add_mul, Int.one_mul]
      rw [e6] at g3 g4
      rw [q9lD_7 h7] at e1 e3
      refine ⟨g1, ?_, ?_, ?_⟩
      · show b ≤ _
        omega
      · show _ ≤ t
        omega
      · show _ ≤ t
        omega
theorem q9own_bd (W : q9plW kd mn en n) {q : q9PS9} {s : Int} (h : q9ownP kd mn q s) : q.2.2.2.1 ≤ s ∧ s < q.2.2.2.1 + q9lD kd mn en n q.1 := by
  have h1 := q9lD_1 W (i := q.1)
  rcases h with h | ⟨h2, h3, h4⟩
  · omega
  · rw [q9lD_fr h2]
    omega
/-- each moment is q9one line's own -/
theorem q9own_one (W : q9plW kd mn en n) {s : Int} : ∀ (k k' : Nat) (p q q' : q9PS9), q9okP kd mn en n p → q9InK kd mn en n k p q → q9InK kd mn en n k' p q' → q9ownP kd mn q s → q9ownP kd mn q' s → q = q'
  | 0, _, _, _, _, _, h, _, _, _ => False.elim h
  | _ + 1, 0, _, _, _, _, _, h, _, _ => False.elim h
  | k + 1, k' + 1, p, q, q', ok, h, h', o, o' => by
    have b1 := q9own_bd W o
    have b2 := q9own_bd W o'
    obtain ⟨h1, h2⟩ := h
    obtain ⟨-, h2'⟩ := h'
    have e7 : ∀ {r : Int} {x : q9PS9} {m : Nat}, kd p.1 = 7 → 0 ≤ r → r < mn p.1 → q9InK kd mn en n m (q9inP kd mn en n p r) x → p.2.2.2.1 + 1 + r * q9bD kd mn en n (p.1 + 1) (en p.1) ≤ x.2.2.2.1 ∧ x.2.2.2.1 + q9lD kd mn en n x.1 ≤ p.2.2.2.1 + 1 + (r * q9bD kd mn en n (p.1 + 1) (en p.1) + q9bD kd mn en n (p.1 + 1) (en p.1)) ∧ x.2.2.2.1 + q9lD kd mn en n x.1 ≤ p.2.2.2.1 + q9lD kd mn en n p.1 ∧ p.2.2.2.1 + 1 ≤ x.2.2.2.1 := by
      intro r x m h7 r1 r2 hx
      obtain ⟨-, g2, g3, -⟩ := q9InK_bd W m _ _ (q9ok_in W ok h1 h7) hx
      have g2 : p.2.2.2.1 + 1 + r * q9bD kd mn en n (p.1 + 1) (en p.1) ≤ x.2.2.2.1 := g2
      have g3 : x.2.2.2.1 + q9lD kd mn en n x.1 ≤ p.2.2.2.1 + 1 + (r + 1) * q9bD kd mn en n (p.1 + 1) (en p.1) := g3
      have e4 := q9rep_le (r := r) (m := mn p.1) (by omega) (q9bD_0 W (i := p.1 + 1) (e := en p.1))
      have e5 := Int.mul_nonneg r1 (q9bD_0 W (i := p.1 + 1) (e := en p.1))
      rw [Int.add_mul, Int.one_mul] at g3
      rw [q9lD_7 h7]
      omega
    have en_ : ∀ {x : q9PS9} {m : Nat}, q9InK kd mn en n m (q9nxP kd mn en n p) x → p.2.2.2.1 + q9lD kd mn en n p.1 ≤ x.2.2.2.1 := by
      intro x m hx
      obtain ⟨-, g2, -, -⟩ := q9InK_bd W m _ _ (q9ok_nx W ok h1) hx
      exact g2
    rcases h2 with h2 | h2 | ⟨h7, r, r1, r2, h2⟩
    · subst h2
      rcases h2' with h2' | h2' | ⟨h7', r', r1', r2', h2'⟩
      · exact h2'.symm
      · have := en_ h2'
        omega
      · have g := e7 h7' r1' r2' h2'
        rcases o with o | o
        · omega
        · omega
    · rcases h2' with h2' | h2' | ⟨h7', r', r1', r2', h2'⟩
      · subst h2'
        have := en_ h2
        omega
      · exact q9own_one W k k' _ _ _ (q9ok_nx W ok h1) h2 h2' o o'
      · have g := e7 h7' r1' r2' h2'
        have := en_ h2
        omega
    · have g := e7 h7 r1 r2 h2
      rcases h2' with h2' | h2' | ⟨h7', r', r1', r2', h2'⟩
      · subst h2'
        rcases o' with o' | o'
        · omega
        · omega
      · have := en_ h2'
        omega
      · have g' := e7 h7' r1' r2' h2'
        have hr : r = r' := by
          rcases Int.lt_trichotomy r r' with hh | hh | hh
          · have := q9rep_le (r := r) (m := r') (by omega) (q9bD_0 W (i := p.1 + 1) (e := en p.1))
            omega
          · exact hh
          · have := q9rep_le (r := r') (m := r) (by omega) (q9bD_0 W (i := p.1 + 1) (e := en p.1))
            omega
        subst hr
        exact q9own_one W k k' _ _ _ (q9ok_in W ok h1 h7) h2 h2' o o'
end PLAY2
section PLAY4
variable {kd mn en : Int → Int} {n : Int}
theorem q9cn_yes {s : Int} (h0 : 0 ≤ s) (h : q9isFr kd mn en n s) : cnI kd mn en n (s + 1) = cnI kd mn en n s + 1 := by
  unfold cnI
  rw [show (s + 1).toNat = s.toNat + 1 by omega]
  show q9cnF kd mn en n s.toNat + @ite _ (q9isFr kd mn en n (s.toNat : Int)) (Classical.propDecidable _) 1 0 = _
  rw [show (s.toNat : Int) = s by omega, if_pos h]
theorem q9cn_no {s : Int} (h0 : 0 ≤ s) (h : ¬ q9isFr kd mn en n s) : cnI kd mn en n (s + 1) = cnI kd mn en n s := by
  unfold cnI
  rw [show (s + 1).toNat = s.toNat + 1 by omega]
  show q9cnF kd mn en n s.toNat + @ite _ (q9isFr kd mn en n (s.toNat : Int)) (Classical.propDecidable _) 1 0 = _
  rw [show (s.toNat : Int) = s by omega, if_neg h]
  omega
theorem q9cn_run {a : Int} (h0 : 0 ≤ a) : ∀ (m : Nat), (∀ s, a ≤ s → s < a + m → q9isFr kd mn en n s) → cnI kd mn en n (a + m) = cnI kd mn en n a + m
  | 0, _ => by
    rw [show a + ((0 : Nat) : Int) = a by omega]
    omega
  | m + 1, h => by
    have h1 := q9cn_run h0 m (fun s h1 h2 => h s h1 (by omega))
    rw [show a + ((m + 1 : Nat) : Int) = a + m + 1 by omega, q9cn_yes (by omega) (h (a + m) (by omega) (by omega)), h1]
    omega
theorem q9cn_mono {a : Int} (h0 : 0 ≤ a) : ∀ (m : Nat), cnI kd mn en n a ≤ cnI kd mn en n (a + m)
  | 0 => by
    rw [show a + ((0 : Nat) : Int) = a by omega]
    omega
  | m + 1 => by
    have h1 := q9cn_mono h0 m
    rw [show a + ((m + 1 : Nat) : Int) = a + m + 1 by omega]
    by_cases h : q9isFr kd mn en n (a + m)
    · rw [q9cn_yes (by omega) h]
      omega
    · rw [q9cn_no (by omega) h]
      omega
theorem q9cn_le {a b : Int} (h0 : 0 ≤ a) (h : a ≤ b) : cnI kd mn en n a ≤ cnI kd mn en n b := by
  have := q9cn_mono (kd := kd) (mn := mn) (en := en) (n := n) h0 (b - a).toNat
  rw [show a + ((b - a).toNat : Int) = b by omega] at this
  exact this
theorem q9cn_0 : cnI kd mn en n 0 = 0 := rfl
theorem q9ok_root (W : q9plW kd mn en n) : q9okP kd mn en n (q9rootP kd mn en n) := by
  refine ⟨Int.le_refl _, Int.le_refl _, ?_, fun j hj hj2 => (W.2.1 j hj2).2⟩
  show q9bD kd mn en n 0 n = 0 + q9bD kd mn en n 0 n
  omega
theorem q9at_bd (W : q9plW kd mn en n) {q : q9PS9} (h : q9atP kd mn en n q) : q9okP kd mn en n q ∧ 0 ≤ q.2.2.2.1 ∧ q.2.2.2.1 + q9lD kd mn en n q.1 ≤ q9bD kd mn en n 0 n ∧ q.2.2.1 ≤ q9bD kd mn en n 0 n ∧ q.1 < q.2.1 := by
  obtain ⟨k, hk⟩ := h
  obtain ⟨h1, h2, h3, h4⟩ := q9InK_bd W k _ _ (q9ok_root W) hk
  exact ⟨h1, h2, h3, h4, q9InK_lt k _ _ hk⟩
theorem q9at_one (W : q9plW kd mn en n) {q q' : q9PS9} {s : Int} (h : q9atP kd mn en n q) (h' : q9atP kd mn en n q') (o : q9ownP kd mn q s) (o' : q9ownP kd mn q' s) : q = q' := by
  obtain ⟨k, hk⟩ := h
  obtain ⟨k', hk'⟩ := h'
  exact q9own_one W k k' _ _ _ (q9ok_root W) hk hk' o o'
theorem q9at_nx {q : q9PS9} (h : q9atP kd mn en n q) (h2 : en q.1 < q.2.1) : q9atP kd mn en n (q9nxP kd mn en n q) := by
  obtain ⟨k, hk⟩ := h
  exact q9InK_next k _ _ hk h2
theorem q9at_in {q : q9PS9} {r : Int} (h : q9atP kd mn en n q) (h7 : kd q.1 = 7) (r1 : 0 ≤ r) (r2 : r < mn q.1) (h2 : q.1 + 1 < en q.1) : q9atP kd mn en n (q9inP kd mn en n q r) := by
  obtain ⟨k, hk⟩ := h
  exact q9InK_enter k _ _ r hk h7 r1 r2 h2
theorem q9at_root (h : 0 < n) : q9atP kd mn en n (q9rootP kd mn en n) := q9InS_self h
/-- a line's beginning is no frame -/
theorem q9fr_not (W : q9plW kd mn en n) {q : q9PS9} (h : q9atP kd mn en n q) : ¬ q9isFr kd mn en n q.2.2.2.1 := fun ⟨q', h1, h2, h3, h4⟩ => by
  have := q9at_one W h h1 (.inl rfl) (.inr ⟨h2, h3, h4⟩)
  subst this
  omega
theorem q9fr_yes {q : q9PS9} (h : q9atP kd mn en n q) (hk : kd q.1 ≤ 1) {s : Int} (h1 : q.2.2.2.1 < s) (h2 : s ≤ q.2.2.2.1 + mn q.1) : q9isFr kd mn en n s := ⟨q, h, hk, h1, h2⟩
/-- a repeat's times, once its block's frames are known -/
theorem q9cn_rep (W : q9plW kd mn en n) {p : q9PS9} (hp : q9atP kd mn en n p) (h7 : kd p.1 = 7)
    (hb : ∀ r, 0 ≤ r → r < mn p.1 → cnI kd mn en n (p.2.2.2.1 + 1 + (r + 1) * q9bD kd mn en n (p.1 + 1) (en p.1)) = cnI kd mn en n (p.2.2.2.1 + 1 + r * q9bD kd mn en n (p.1 + 1) (en p.1)) + q9bF kd mn en n (p.1 + 1) (en p.1)) :
    ∀ (r : Nat), (r : Int) ≤ mn p.1 → cnI kd mn en n (p.2.2.2.1 + 1 + r * q9bD kd mn en n (p.1 + 1) (en p.1)) = cnI kd mn en n p.2.2.2.1 + r * q9bF kd mn en n (p.1 + 1) (en p.1)
  | 0, _ => by
    have h0 := (q9at_bd W hp).2.1
    rw [show ((0 : Nat) : Int) = 0 from rfl, Int.zero_mul, Int.zero_mul, Int.add_zero, Int.add_zero]
    exact q9cn_no h0 (q9fr_not W hp)
  | r + 1, h => by
    have h1 := q9cn_rep W hp h7 hb r (by omega)
    have h2 := hb r (by omega) (by omega)
    rw [show ((r + 1 : Nat) : Int) = (r : Int) + 1 by omega, h2, h1, Int.add_mul _ _ (q9bF kd mn en n (p.1 + 1) (en p.1)), Int.one_mul]
    omega
theorem q9cn_blk (W : q9plW kd mn en n) : ∀ (m : Nat) (p : q9PS9), p.2.1 - p.1 ≤ m → q9okP kd mn en n p → 0 ≤ p.2.2.2.1 → (p.1 < p.2.1 → q9atP kd mn en n p) → cnI kd mn en n p.2.2.1 = cnI kd mn en n p.2.2.2.1 + q9bF kd mn en n p.1 p.2.1
  | 0, p, hm, ok, h0, hp => by
    have e1 := ok.2.2.1
    rw [q9bD_no (by omega)] at e1
    rw [q9bF_no (by omega), e1]
    show cnI kd mn en n (p.2.2.2.1 + 0) = _
    rw [Int.add_zero, Int.add_zero]
  | m + 1, p, hm, ok, h0, hp => by
    by_cases hi : p.1 < p.2.1
    · have ha := hp hi
      have hl : cnI kd mn en n (p.2.2.2.1 + q9lD kd mn en n p.1) = cnI kd mn en n p.2.2.2.1 + q9lF kd mn en n p.1 := by
        have hb1 : cnI kd mn en n (p.2.2.2.1 + 1) = cnI kd mn en n p.2.2.2.1 := q9cn_no h0 (q9fr_not W ha)
        by_cases k1 : kd p.1 ≤ 1
        · have hm0 := W.2.2.1 p.1
          have hr := q9cn_run (kd := kd) (mn := mn) (en := en) (n := n) (a := p.2.2.2.1 + 1) (by omega) (mn p.1).toNat (fun s h1 h2 => q9fr_yes ha k1 (by omega) (by omega))
          rw [show p.2.2.2.1 + 1 + ((mn p.1).toNat : Int) = p.2.2.2.1 + (1 + mn p.1) by omega, hb1, show ((mn p.1).toNat : Int) = mn p.1 by omega] at hr
          rw [q9lD_fr k1, q9lF_fr k1]
          exact hr
        · by_cases k6 : kd p.1 ≤ 6
          · rw [q9lD_no k1 k6, q9lF_no k1 k6, hb1, Int.add_zero]
          · have k7 : kd p.1 = 7 := by
              have := W.2.2.2.1 p.1
              omega
            have hm0 := W.2.2.1 p.1
            have hr := q9cn_rep W ha k7 (fun r r1 r2 => by
              have ei := ok.2.2.2 p.1 (Int.le_refl _) hi
              have w := W.2.1 p.1 (by have := ok.2.1; omega)
              have hx := q9cn_blk W m (q9inP kd mn en n p r) (by
                show en p.1 - (p.1 + 1) ≤ m
                omega) (q9ok_in W ok hi k7) (by
                show 0 ≤ p.2.2.2.1 + 1 + r * q9bD kd mn en n (p.1 + 1) (en p.1)
                have := Int.mul_nonneg r1 (q9bD_0 W (i := p.1 + 1) (e := en p.1))
                omega) (fun hh => q9at_in ha k7 r1 r2 hh)
              exact hx) (mn p.1).toNat (by omega)
            rw [show ((mn p.1).toNat : Int) = mn p.1 by omega] at hr
            rw [q9lD_7 k7, q9lF_7 k7, show p.2.2.2.1 + (1 + mn p.1 * q9bD kd mn en n (p.1 + 1) (en p.1)) = p.2.2.2.1 + 1 + mn p.1 * q9bD kd mn en n (p.1 + 1) (en p.1) by omega]
            exact hr
      have hx := q9cn_blk W m (q9nxP kd mn en n p) (by
        have w := W.2.1 p.1 (by have := ok.2.1; omega)
        show p.2.1 - en p.1 ≤ m
        omega) (q9ok_nx W ok hi) (by
        show 0 ≤ p.2.2.2.1 + q9lD kd mn en n p.1
        have := q9lD_1 W (i := p.1)
        omega) (fun hh => q9at_nx ha hh)
      have hx : cnI kd mn en n p.2.2.1 = cnI kd mn en n (p.2.2.2.1 + q9lD kd mn en n p.1) + q9bF kd mn en n (en p.1) p.2.1 := hx
      rw [hx, hl, q9bF_eq W hi ok.2.1]
      omega
    · have e1 := ok.2.2.1
      rw [q9bD_no (by omega)] at e1
      rw [q9bF_no (by omega), e1]
      show cnI kd mn en n (p.2.2.2.1 + 0) = _
      rw [Int.add_zero, Int.add_zero]
/-- a line's frames -/
theorem q9cn_line (W : q9plW kd mn en n) {p : q9PS9} (ha : q9atP kd mn en n p) : cnI kd mn en n (p.2.2.2.1 + q9lD kd mn en n p.1) = cnI kd mn en n p.2.2.2.1 + q9lF kd mn en n p.1 := by
  obtain ⟨ok, h0, -, -, hi⟩ := q9at_bd W ha
  have h1 := q9cn_blk W (p.2.1 - p.1).toNat p (by omega) ok h0 (fun _ => ha)
  have h2 := q9cn_blk W (p.2.1 - p.1).toNat (q9nxP kd mn en n p) (by
    have w := W.2.1 p.1 (by have := ok.2.1; omega)
    show p.2.1 - en p.1 ≤ _
    omega) (q9ok_nx W ok hi) (by
    show 0 ≤ p.2.2.2.1 + q9lD kd mn en n p.1
    have := q9lD_1 W (i := p.1)
    omega) (fun hh => q9at_nx ha hh)
  have h2 : cnI kd mn en n p.2.2.1 = cnI kd mn en n (p.2.2.2.1 + q9lD kd mn en n p.1) + q9bF kd mn en n (en p.1) p.2.1 := h2
  rw [h1, q9bF_eq W hi ok.2.1] at h2
  omega
theorem q9cn_in (W : q9plW kd mn en n) {p : q9PS9} (ha : q9atP kd mn en n p) (h7 : kd p.1 = 7) {r : Int} (r1 : 0 ≤ r) (r2 : r ≤ mn p.1) : cnI kd mn en n (p.2.2.2.1 + 1 + r * q9bD kd mn en n (p.1 + 1) (en p.1)) = cnI kd mn en n p.2.2.2.1 + r * q9bF kd mn en n (p.1 + 1) (en p.1) := by
  obtain ⟨ok, h0, -, -, hi⟩ := q9at_bd W ha
  have hr := q9cn_rep W ha h7 (fun r r1 r2 => by
    have hx := q9cn_blk W (en p.1 - (p.1 + 1)).toNat (q9inP kd mn en n p r) (by
      show en p.1 - (p.1 + 1) ≤ _
      omega) (q9ok_in W ok hi h7) (by
      show 0 ≤ p.2.2.2.1 + 1 + r * q9bD kd mn en n (p.1 + 1) (en p.1)
      have := Int.mul_nonneg r1 (q9bD_0 W (i := p.1 + 1) (e := en p.1))
      omega) (fun hh => q9at_in ha h7 r1 r2 hh)
    exact hx) r.toNat (by omega)
  rw [show (r.toNat : Int) = r by omega] at hr
  exact hr
/-- all frames -/
theorem q9cn_all (W : q9plW kd mn en n) : cnI kd mn en n (q9bD kd mn en n 0 n) = q9bF kd mn en n 0 n := by
  have h := q9cn_blk W n.toNat (q9rootP kd mn en n) (by
    show n - 0 ≤ _
    omega) (q9ok_root W) (Int.le_refl _) (fun hh => q9at_root hh)
  have h : cnI kd mn en n (q9bD kd mn en n 0 n) = cnI kd mn en n 0 + q9bF kd mn en n 0 n := h
  rw [h, q9cn_0]
  omega
/-- a frame's number, the moment that follows -/
theorem q9fr_inj {s s' : Int} (h0 : 0 ≤ s) (h0' : 0 ≤ s') (h : q9isFr kd mn en n s) (h' : q9isFr kd mn en n s') (e : cnI kd mn en n s = cnI kd mn en n s') : s = s' := by
  rcases Int.lt_trichotomy s s' with hh | hh | hh
  · have h1 := q9cn_le (kd := kd) (mn := mn) (en := en) (n := n) (a := s + 1) (b := s') (by omega) (by omega)
    rw [q9cn_yes h0 h] at h1
    omega
  · exact hh
  · have h1 := q9cn_le (kd := kd) (mn := mn) (en := en) (n := n) (a := s' + 1) (b := s) (by omega) (by omega)
    rw [q9cn_yes h0' h'] at h1
    omega
end PLAY4
section AXES2
variable {kd mn en wh vl es : Int → Int} {n : Int}
theorem q9ax_0 {a : Int} : axI kd mn en wh vl es n 0 a = (0, 0, 0, 0, 0, 0, 0) := rfl
/-- a frame -/
theorem q9ax_fr {s a : Int} (h0 : 0 ≤ s) (h : q9isFr kd mn en n s) : axI kd mn en wh vl es n (s + 1) a = q9axM (axI kd mn en wh vl es n s a) := by
  unfold axI
  rw [show (s + 1).toNat = s.toNat + 1 by omega]
  show @ite _ (q9isFr kd mn en n (s.toNat : Int)) (Classical.propDecidable _) _ _ = _
  rw [show (s.toNat : Int) = s by omega, if_pos h]
/-- a q9step that is neither a frame nor begins a motor of this axis -/
theorem q9ax_st (W : q9plW kd mn en n) {q : q9PS9} {a : Int} (h : q9atP kd mn en n q) (hn : kd q.1 ≠ 6 ∨ wh q.1 ≠ a) : axI kd mn en wh vl es n (q.2.2.2.1 + 1) a = axI kd mn en wh vl es n q.2.2.2.1 a := by
  have h0 := (q9at_bd W h).2.1
  unfold axI
  rw [show (q.2.2.2.1 + 1).toNat = q.2.2.2.1.toNat + 1 by omega]
  show @ite _ (q9isFr kd mn en n (q.2.2.2.1.toNat : Int)) (Classical.propDecidable _) _ _ = _
  rw [show (q.2.2.2.1.toNat : Int) = q.2.2.2.1 by omega, if_neg (q9fr_not W h), if_neg]
  rintro ⟨q', g1, g2, g3, g4⟩
  have := q9at_one W h g1 (.inl rfl) (.inl g2.symm)
  subst this
  rcases hn with hn | hn
  · exact hn g3
  · exact hn g4
/-- a motor begins -/
theorem q9ax_cm (W : q9plW kd mn en n) {q : q9PS9} (h : q9atP kd mn en n q) (h6 : kd q.1 = 6) : axI kd mn en wh vl es n (q.2.2.2.1 + 1) (wh q.1) = ((axI kd mn en wh vl es n q.2.2.2.1 (wh q.1)).1, (axI kd mn en wh vl es n q.2.2.2.1 (wh q.1)).1, vl q.1, mn q.1, 0, es q.1, cnI kd mn en n q.2.2.2.1) := by
  have h0 := (q9at_bd W h).2.1
  have hex : ∃ q', q9atP kd mn en n q' ∧ q'.2.2.2.1 = q.2.2.2.1 := ⟨q, h, rfl⟩
  have hq : Classical.choose hex = q := (q9at_one W h (Classical.choose_spec hex).1 (.inl rfl) (.inl (Classical.choose_spec hex).2.symm)).symm
  have e0 : ((q.2.2.2.1.toNat : Nat) : Int) = q.2.2.2.1 := by omega
  unfold axI
  rw [show (q.2.2.2.1 + 1).toNat = q.2.2.2.1.toNat + 1 by omega]
  unfold axS
  rw [e0, if_neg (q9fr_not W h), if_pos ⟨q, h, rfl, h6, rfl⟩, dif_pos hex]
  dsimp only
  rw [hq]
end AXES2
section PLI2
variable {T : Int → Int} {N P : Int} {J : Int → Int}
theorem q9ln_P {c : q9CF9} (hv : q9visI T N P J c) (hk : q9okL T N P J c) : lnC T N P J c.2.1 = some c := q9chV_to (fun _ ⟨h1, h2, h3⟩ => q9ln_one h1 hv h2 hk h3) ⟨hv, hk, rfl⟩
theorem q9ln_of {i : Int} {c : q9CF9} (h : lnC T N P J i = some c) : q9visI T N P J c ∧ q9okL T N P J c ∧ c.2.1 = i := q9chV_of h
theorem q9kd_P {c : q9CF9} (hv : q9visI T N P J c) (hk : q9okL T N P J c) : kdP T N P J c.2.1 = q9lkI T N c := by
  unfold kdP
  rw [q9ln_P hv hk]
theorem q9mn_P {c : q9CF9} (hv : q9visI T N P J c) (hk : q9okL T N P J c) : mnP T N P J c.2.1 = q9amI T N P J (q9lkI T N c) (q9weI T N (q9spI T N c.1)) := by
  unfold mnP
  rw [q9ln_P hv hk]
theorem q9dp_P {c : q9CF9} (hv : q9visI T N P J c) (hk : q9okL T N P J c) : dpP T N P J c.2.1 = c.2.2.length - 1 := by
  unfold dpP
  rw [q9ln_P hv hk]
theorem q9en_P (hN : 0 ≤ N) {i v : Int} (h0 : 0 ≤ i) (h : q9enE T N P J i v) (hi : i < v) : enP T N P J i = v := by
  have e : chV (fun v => q9enE T N P J i v ∧ i < v) = some v := q9chV_to (fun v' ⟨h1, _⟩ => q9en_one hN h h1) ⟨h, hi⟩
  unfold enP
  rw [if_pos h0, e]
theorem q9am_0 {k a : Int} : 0 ≤ q9amI T N P J k a := by
  unfold q9amI
  repeat' split
  all_goals first
    | exact q9nvI_rng.1
    | exact Int.le_refl _
theorem q9hs_all (hN : 0 ≤ N) : ∀ (k : Nat) (b e : Int) (f d : Int64), q9hsI T N P J k b e f d → ∀ i, b ≤ i → i < e → ∃ c m, q9visI T N P J c ∧ q9okL T N P J c ∧ c.2.1 = i ∧ q9enE T N P J i m ∧ i < m ∧ m ≤ e ∧ (q9lkI T N c ≤ 6 → m = i + 1) ∧ (q9lkI T N c = 7 → ∃ k' f' d', q9hsI T N P J k' (i + 1) m f' d')
  | 0, _, _, _, _, h, _, _, _ => False.elim h
  | k + 1, b, e, f, d, h, i, hi, hi2 => by
    rcases h with ⟨g1, -, -⟩ | ⟨c, m, f1, d1, f2, d2, h1, h2, h3, h4, h5, h6, h7, h8, h9, h10⟩
    · omega
    · have hm6 : q9lkI T N c ≤ 6 → m = b + 1 := fun hl => q9en_one hN (.inl ⟨c, h1, h2, h3, by omega, rfl⟩) h4
      have hm7 : q9lkI T N c = 7 → ∃ f3 d3, q9hsI T N P J k (b + 1) m f3 d3 := by
        intro hl
        rcases h10 with ⟨a1, -, -⟩ | ⟨-, a2, -, -⟩ | ⟨-, f3, d3, a2, -, -⟩
        · omega
        · omega
        · exact ⟨f3, d3, a2⟩
      by_cases e1 : i = b
      · subst e1
        exact ⟨c, m, h1, h2, h3, h4, h5, h6, hm6, fun hl => by
          obtain ⟨f3, d3, a⟩ := hm7 hl
          exact ⟨k, f3, d3, a⟩⟩
      · by_cases e2 : m ≤ i
        · exact q9hs_all hN k m e f2 d2 h7 i e2 hi2
        · have hl : q9lkI T N c = 7 := by
            have := h2.2.1
            by_cases hh : q9lkI T N c ≤ 6
            · have := hm6 hh
              omega
            · omega
          obtain ⟨f3, d3, a⟩ := hm7 hl
          obtain ⟨c', m', g1, g2, g3, g4, g5, g6, g7, g8⟩ := q9hs_all hN k (b + 1) m f3 d3 a i (by omega) (by omega)
          exact ⟨c', m', g1, g2, g3, g4, g5, by omega, g7, g8⟩
theorem q9fn_hs (hN : 0 ≤ N) (hf : q9fnP T N P J) : ∃ c q k, q9visI T N P J c ∧ c.2.1 = szP T N P J ∧ 0 ≤ szP T N P J ∧ szP T N P J ≤ 60 ∧ c.2.2 = [q] ∧ q9hsI T N P J k 0 (szP T N P J) q.2.2.1 q.2.2.2 ∧ 1 ≤ q.2.2.1.toInt ∧ q.2.2.1.toInt ≤ 400 ∧ q.2.2.2.toInt ≤ 2000 := by
  obtain ⟨c, q, hv, hn, h9, hq, h1, h2, h3⟩ := hf
  have hed : q9edI T N c := ⟨h9, by rw [hq]; rfl⟩
  have e : chV (fun v => q9laI T N P J fun c => q9edI T N c ∧ v = c.2.1) = some c.2.1 := q9la_V (p := fun (v : Int) c => q9edI T N c ∧ v = c.2.1) hv hn ⟨hed, rfl⟩ (fun v' h => h.2)
  have hz : szP T N P J = c.2.1 := by
    unfold szP
    rw [e]
  obtain ⟨i1, i2, i3, i4, i5, i6, i7⟩ := q9vis_inv hN hv
  have hb := q9vis_base hv
  have hh := q9vis_hs hN hv
  rw [hq] at hh
  obtain ⟨⟨n, d, k1, k2⟩, -⟩ := hh
  rw [if_pos rfl] at k2
  have hs : q9th_stP c = [(q.1, q.2.1)] := by
    unfold q9th_stP
    rw [hq]
    rfl
  rw [hs] at hb
  have hb : some (q.1, q.2.1) = some ((-1 : Int), (0 : Int)) := hb
  have hb1 : q.1 = -1 := (Prod.mk.inj (Option.some.inj hb)).1
  rw [hb1, ← k2] at k1
  refine ⟨c, q, n, hv, hz.symm, by omega, by omega, hq, ?_, h1, h2, h3⟩
  rw [hz]
  exact k1
theorem q9sz_ln (hN : 0 ≤ N) (hf : q9fnP T N P J) {i : Int} (h0 : 0 ≤ i) (hi : i < szP T N P J) : ∃ c m, q9visI T N P J c ∧ q9okL T N P J c ∧ c.2.1 = i ∧ q9enE T N P J i m ∧ i < m ∧ m ≤ szP T N P J ∧ (q9lkI T N c ≤ 6 → m = i + 1) ∧ (q9lkI T N c = 7 → ∃ k' f' d', q9hsI T N P J k' (i + 1) m f' d') := by
  obtain ⟨c, q, k, -, -, -, -, -, hh, -⟩ := q9fn_hs hN hf
  exact q9hs_all hN k _ _ _ _ hh i h0 hi
theorem q9plW_P (hN : 0 ≤ N) (hf : q9fnP T N P J) : q9plW (kdP T N P J) (mnP T N P J) (enP T N P J) (szP T N P J) := by
  obtain ⟨c9, q9, k9, -, -, z0, z1, -, -, -⟩ := q9fn_hs hN hf
  have hkc : ∀ i, kdP T N P J i = 7 → 0 ≤ i := by
    intro i h
    unfold kdP at h
    split at h
    · rename_i c hc
      obtain ⟨h1, h2, h3⟩ := q9ln_of hc
      have := (q9vis_inv hN h1).2.2.1
      omega
    · omega
  refine ⟨z0, ?_, ?_, ?_, ?_⟩
  · intro i hi
    by_cases h0 : 0 ≤ i
    · obtain ⟨c, m, h1, h2, h3, h4, h5, h6, -, -⟩ := q9sz_ln hN hf h0 hi
      rw [q9en_P hN h0 h4 h5]
      exact ⟨h5, h6⟩
    · unfold enP
      rw [if_neg h0]
      omega
  · intro i
    unfold mnP
    split
    · exact q9am_0
    · exact Int.le_refl _
  · intro i
    unfold kdP
    split
    · rename_i c hc
      exact (q9ln_of hc).2.1.2.1
    · omega
  · intro i j h7 hi hij hj
    have h0 := hkc i h7
    obtain ⟨c, m, h1, h2, h3, h4, h5, h6, -, h8⟩ := q9sz_ln hN hf h0 hi
    have e := q9en_P hN h0 h4 h5
    have hk : q9lkI T N c = 7 := by
      rw [← q9kd_P h1 h2, h3]
      exact h7
    obtain ⟨k', f', d', hh⟩ := h8 hk
    rw [e] at hj ⊢
    obtain ⟨c', m', g1, g2, g3, g4, g5, g6, -, -⟩ := q9hs_all hN k' _ _ _ _ hh j (by omega) hj
    rw [q9en_P hN (by omega) g4 g5]
    exact g6
/-- what an amount may be -/
theorem q9tkN_rng {lo hi a : Int} (h : (q9tkN T N lo hi a).1 = 0) : lo ≤ q9nvI T N (q9spI T N a) 0 ∧ q9nvI T N (q9spI T N a) 0 ≤ hi := by
  unfold q9tkN at h
  split at h
  · exact absurd h (by decide)
  · split at h
    · assumption
    · exact absurd h (by decide)
theorem q9tkR_1 {t : Int → q9TK2} {ts : List (Int → q9TK2)} {a : Int} (h : (q9tkR (t :: ts) a).1 = 0) : (t a).1 = 0 ∧ (q9tkR ts (t a).2).1 = 0 := by
  unfold q9tkR at h
  split at h
  · rename_i h1
    exact ⟨h1, h⟩
  · rename_i h1
    exact absurd h h1
theorem q9am_rng {c : q9CF9} (hk : q9okL T N P J c) : (q9lkI T N c ≤ 1 → 1 ≤ q9amI T N P J (q9lkI T N c) (q9weI T N (q9spI T N c.1)) ∧ q9amI T N P J (q9lkI T N c) (q9weI T N (q9spI T N c.1)) ≤ 200) ∧ (q9lkI T N c = 6 → 1 ≤ q9amI T N P J (q9lkI T N c) (q9weI T N (q9spI T N c.1)) ∧ q9amI T N P J (q9lkI T N c) (q9weI T N (q9spI T N c.1)) ≤ 400) ∧ (q9lkI T N c = 7 → 1 ≤ q9amI T N P J (q9lkI T N c) (q9weI T N (q9spI T N c.1)) ∧ q9amI T N P J (q9lkI T N c) (q9weI T N (q9spI T N c.1)) ≤ 20) := by
  obtain ⟨h0, h7, -, -, hr⟩ := hk
  unfold q9rcI q9rsI at hr
  refine ⟨fun h => ?_, fun h => ?_, fun h => ?_⟩
  · by_cases e : q9lkI T N c = 0
    · rw [e] at hr ⊢
      have hr : (q9tkN T N 1 200 (q9weI T N (q9spI T N c.1))).1 = 0 := hr
      unfold q9amI
      rw [if_pos (.inl rfl)]
      exact q9tkN_rng hr
    · have e : q9lkI T N c = 1 := by omega
      rw [e] at hr ⊢
      have hr : (q9tkR [q9tk35 T N P J, q9tkW T N [8], q9tkN T N 1 200, q9tk13 T N] (q9weI T N (q9spI T N c.1))).1 = 0 := hr
      unfold q9amI
      rw [if_neg (by decide), if_pos rfl]
      exact q9tkN_rng (q9tkR_1 (q9tkR_1 (q9tkR_1 hr).2).2).1
  · rw [h] at hr ⊢
    have hr : (q9tkR [q9tkW T N [16, 17, 18], q9tkN T N 0 9999, q9tkW T N [8], q9tkN T N 1 400, q9tk13 T N] (q9weI T N (q9spI T N c.1))).1 = 0 := hr
    unfold q9amI
    rw [if_neg (by decide), if_neg (by decide), if_pos rfl]
    exact q9tkN_rng (q9tkR_1 (q9tkR_1 (q9tkR_1 (q9tkR_1 hr).2).2).2).1
  · rw [h] at hr ⊢
    have hr : (q9tkR [q9tkN T N 1 20, q9tkS T N 91] (q9weI T N (q9spI T N c.1))).1 = 0 := hr
    unfold q9amI
    rw [if_pos (.inr rfl)]
    exact q9tkN_rng (q9tkR_1 hr).1
/-- within a repeat it is deeper -/
theorem q9dp_in (hN : 0 ≤ N) {c c' : q9CF9} {m : Int} (hv : q9visI T N P J c) (hk : q9okL T N P J c) (h7 : q9lkI T N c = 7) (hm : q9enE T N P J c.2.1 m) (hv' : q9visI T N P J c') (hk' : q9okL T N P J c') (h1 : c.2.1 < c'.2.1) (h2 : c'.2.1 < m) : c.2.2.length + 1 ≤ c'.2.2.length := by
  -- where it is closed
  rcases hm with ⟨x, x1, x2, x3, x4, -⟩ | ⟨cc, q, st, x1, x2, x3, x4, x5⟩
  · have := q9ln_one x1 hv x2 hk x3
    subst this
    exact absurd h7 x4
  · obtain ⟨n', hn'⟩ := hv'
    obtain ⟨nc, hnc⟩ := x1
    have hlt : n' ≤ nc := by
      by_cases hh : n' ≤ nc
      · exact hh
      · have := q9sz_mono (by omega) hnc hn'
        omega
    have hex : ∃ (j : Nat) (o : Int × Int), (q9th_stP c')[j]? = some o ∧ j + 1 < (q9th_stP c').length ∧ o.1 = c.2.1 := by
      by_cases hh : ∃ (j : Nat) (o : Int × Int), (q9th_stP c')[j]? = some o ∧ j + 1 < (q9th_stP c').length ∧ o.1 = c.2.1
      · exact hh
      · have hno := q9tr_noi hlt hn' (fun j o g1 g2 g3 => hh ⟨j, o, g1, g2, g3⟩) h1 hnc
        exact absurd x4 (hno.1 0 _ (q9top_of x3) (by
          have := q9lk8_len x2
          rw [q9stP_len]
          omega))
    obtain ⟨j, o, g1, g2, g3⟩ := hex
    obtain ⟨c0, y1, y2, y3, y4, y5, y6⟩ := q9vis_ab hN ⟨n', hn'⟩ j o g1 g2
    have e := q9ln_one y1 hv y2 hk (by omega)
    subst e
    have := congrArg List.length y6
    rw [q9stP_len, List.length_drop, q9stP_len] at this
    rw [q9stP_len] at g2
    omega
theorem q9dp_lt (hN : 0 ≤ N) (hf : q9fnP T N P J) {i j : Int} (hi : i < szP T N P J) (h0 : 0 ≤ i) (h7 : kdP T N P J i = 7) (h1 : i < j) (h2 : j < enP T N P J i) : dpP T N P J i + 1 ≤ dpP T N P J j := by
  obtain ⟨c, m, g1, g2, g3, g4, g5, g6, -, -⟩ := q9sz_ln hN hf h0 hi
  rw [q9en_P hN h0 g4 g5] at h2
  obtain ⟨c', m', k1, k2, k3, -⟩ := q9sz_ln hN hf (i := j) (by omega) (by omega)
  subst g3
  subst k3
  rw [q9kd_P g1 g2] at h7
  rw [q9dp_P g1 g2, q9dp_P k1 k2]
  have := q9dp_in hN g1 g2 h7 g4 k1 k2 h1 h2
  omega
theorem q9dp_rng (hN : 0 ≤ N) (hf : q9fnP T N P J) {i : Int} (h0 : 0 ≤ i) (hi : i < szP T N P J) : 0 ≤ dpP T N P J i ∧ dpP T N P J i ≤ 4 ∧ (kdP T N P J i = 7 → dpP T N P J i ≤ 3) := by
  obtain ⟨c, m, g1, g2, g3, -⟩ := q9sz_ln hN hf h0 hi
  subst g3
  obtain ⟨-, -, -, -, i5, i6, -⟩ := q9vis_inv hN g1
  rw [q9dp_P g1 g2, q9kd_P g1 g2]
  refine ⟨by omega, by omega, fun h => ?_⟩
  have := g2.2.2.2.1 h
  omega
theorem q9mn_rng (hN : 0 ≤ N) (hf : q9fnP T N P J) {i : Int} (h0 : 0 ≤ i) (hi : i < szP T N P J) : 0 ≤ kdP T N P J i ∧ (kdP T N P J i ≤ 1 → 1 ≤ mnP T N P J i ∧ mnP T N P J i ≤ 200) ∧ (kdP T N P J i = 6 → 1 ≤ mnP T N P J i ∧ mnP T N P J i ≤ 400) ∧ (kdP T N P J i = 7 → 1 ≤ mnP T N P J i ∧ mnP T N P J i ≤ 20) ∧ (kdP T N P J i ≤ 6 → enP T N P J i = i + 1) := by
  obtain ⟨c, m, g1, g2, g3, g4, g5, g6, g7, -⟩ := q9sz_ln hN hf h0 hi
  subst g3
  rw [q9kd_P g1 g2, q9mn_P g1 g2]
  have h := q9am_rng g2
  exact ⟨g2.1, h.1, h.2.1, h.2.2, fun hh => by rw [q9en_P hN h0 g4 g5, g7 hh]⟩
/-! how long it may be -/
def q9upB : Nat → Int
  | 0 => 201
  | x + 1 => 1201 * q9upB x
theorem q9upB_1 : ∀ x, 201 ≤ q9upB x
  | 0 => Int.le_refl _
  | x + 1 => by
    have := q9upB_1 x
    show 201 ≤ 1201 * q9upB x
    omega
theorem q9bD_up (hN : 0 ≤ N) (hf : q9fnP T N P J) : ∀ (x : Nat) (m : Nat) (i e : Int), e - i ≤ m → 0 ≤ i → e ≤ szP T N P J → (∀ j, i ≤ j → j < e → 4 - (x : Int) ≤ dpP T N P J j ∧ enP T N P J j ≤ e) → q9bD (kdP T N P J) (mnP T N P J) (enP T N P J) (szP T N P J) i e ≤ (if i < e then e - i else 0) * q9upB x := by
  have W := q9plW_P hN hf
  obtain ⟨c9, q9, k9, -, -, z0, z1, -, -, -⟩ := q9fn_hs hN hf
  intro x
  induction x with
  | zero =>
    intro m
    induction m with
    | zero =>
      intro i e hm h0 he hj
      rw [q9bD_no (by omega), if_neg (by omega), Int.zero_mul]
      exact Int.le_refl _
    | succ m ih =>
      intro i e hm h0 he hj
      by_cases hi : i < e
      · have w := W.2.1 i (by omega)
        have hi2 := (hj i (Int.le_refl _) hi)
        have hd := q9dp_rng hN hf h0 (i := i) (by omega)
        have hr := q9mn_rng hN hf h0 (i := i) (by omega)
        have h1 := ih (enP T N P J i) e (by omega) (by omega) he (fun j g1 g2 => hj j (by omega) g2)
        have hl : q9lD (kdP T N P J) (mnP T N P J) (enP T N P J) (szP T N P J) i ≤ 201 := by
          by_cases k1 : kdP T N P J i ≤ 1
          · rw [q9lD_fr k1]
            have := hr.2.1 k1
            omega
          · by_cases k6 : kdP T N P J i ≤ 6
            · rw [q9lD_no k1 k6]
              omega
            · have := W.2.2.2.1 i
              have := hd.2.2 (by omega)
              omega
        rw [q9bD_eq W hi he, if_pos hi]
        show _ ≤ (e - i) * 201
        have h1 : q9bD (kdP T N P J) (mnP T N P J) (enP T N P J) (szP T N P J) (enP T N P J i) e ≤ (if enP T N P J i < e then e - enP T N P J i else 0) * 201 := h1
        split at h1
        · omega
        · omega
      · rw [q9bD_no (by omega), if_neg hi, Int.zero_mul]
        exact Int.le_refl _
  | succ x ihx =>
    intro m
    induction m with
    | zero =>
      intro i e hm h0 he hj
      rw [q9bD_no (by omega), if_neg (by omega), Int.zero_mul]
      exact Int.le_refl _
    | succ m ih =>
      intro i e hm h0 he hj
      have u1 := q9upB_1 x
      have eu : q9upB (x + 1) = 1201 * q9upB x := rfl
      by_cases hi : i < e
      · have w := W.2.1 i (by omega)
        have hi2 := (hj i (Int.le_refl _) hi)
        have hr := q9mn_rng hN hf h0 (i := i) (by omega)
        have h1 := ih (enP T N P J i) e (by omega) (by omega) he (fun j g1 g2 => hj j (by omega) g2)
        have hl : q9lD (kdP T N P J) (mnP T N P J) (enP T N P J) (szP T N P J) i ≤ q9upB (x + 1) := by
          by_cases k1 : kdP T N P J i ≤ 1
          · rw [q9lD_fr k1, eu]
            have := hr.2.1 k1
            omega
          · by_cases k6 : kdP T N P J i ≤ 6
            · rw [q9lD_no k1 k6, eu]
              omega
            · have k7 : kdP T N P J i = 7 := by
                have := W.2.2.2.1 i
                omega
              have hb := ihx (enP T N P J i - (i + 1)).toNat (i + 1) (enP T N P J i) (by omega) (by omega) w.2 (fun j g1 g2 => by
                have g3 := q9dp_lt hN hf (by omega) h0 k7 (show i < j by omega) g2
                have g4 := W.2.2.2.2 i j k7 (by omega) (by omega) g2
                omega)
              have hm7 := hr.2.2.2.1 k7
              have hb2 : q9bD (kdP T N P J) (mnP T N P J) (enP T N P J) (szP T N P J) (i + 1) (enP T N P J i) ≤ 60 * q9upB x := by
                refine Int.le_trans hb (Int.mul_le_mul_of_nonneg_right ?_ (by omega))
                split
                · omega
                · omega
              have hb3 := Int.mul_le_mul_of_nonneg_left hb2 (show 0 ≤ mnP T N P J i by omega)
              have hb4 := Int.mul_le_mul_of_nonneg_right hm7.2 (show 0 ≤ 60 * q9upB x by omega)
              rw [q9lD_7 k7, eu]
              omega
        rw [q9bD_eq W hi he, if_pos hi]
        have hs : (e - i) * q9upB (x + 1) = q9upB (x + 1) + (e - (i + 1)) * q9upB (x + 1) := by
          rw [show e - i = 1 + (e - (i + 1)) by omega, Int.add_mul, Int.one_mul]
        have hs2 : (if enP T N P J i < e then e - enP T N P J i else 0) * q9upB (x + 1) ≤ (e - (i + 1)) * q9upB (x + 1) := by
          refine Int.mul_le_mul_of_nonneg_right ?_ (by omega)
          split
          · omega
          · omega
        omega
      · rw [q9bD_no (by omega), if_neg hi, Int.zero_mul]
        exact Int.le_refl _
theorem q9plF_le (W : q9plW (kdP T N P J) (mnP T N P J) (enP T N P J) (szP T N P J)) : ∀ (k : Nat) (i e : Int), q9plF (kdP T N P J) (mnP T N P J) (enP T N P J) k i e ≤ q9plD (kdP T N P J) (mnP T N P J) (enP T N P J) k i e
  | 0, _, _ => Int.le_refl _
  | k + 1, i, e => by
    have h1 := q9plF_le W k (enP T N P J i) e
    have h2 := Int.mul_le_mul_of_nonneg_left (q9plF_le W k (i + 1) (enP T N P J i)) (W.2.2.1 i)
    unfold q9plF q9plD
    repeat' split
    all_goals omega
/-- frames and lines done, as the reader counted them -/
theorem q9hs_bF (hN : 0 ≤ N) (hf : q9fnP T N P J) : ∀ (k : Nat) (b e : Int) (f d : Int64), q9hsI T N P J k b e f d → 0 ≤ b → e ≤ szP T N P J → f = Int64.ofInt (q9bF (kdP T N P J) (mnP T N P J) (enP T N P J) (szP T N P J) b e) ∧ d = Int64.ofInt (q9bD (kdP T N P J) (mnP T N P J) (enP T N P J) (szP T N P J) b e - q9bF (kdP T N P J) (mnP T N P J) (enP T N P J) (szP T N P J) b e)
  | 0, _, _, _, _, h, _, _ => False.elim h
  | k + 1, b, e, f, d, h, h0, he => by
    have W := q9plW_P hN hf
    rcases h with ⟨g1, g2, g3⟩ | ⟨c, m, f1, d1, f2, d2, h1, h2, h3, h4, h5, h6, h7, h8, h9, h10⟩
    · rw [q9bF_no (by omega), q9bD_no (by omega), g2, g3]
      exact ⟨rfl, rfl⟩
    · have em : enP T N P J b = m := q9en_P hN h0 h4 h5
      have ek : kdP T N P J b = q9lkI T N c := by rw [← h3]; exact q9kd_P h1 h2
      have ea : mnP T N P J b = q9amI T N P J (q9lkI T N c) (q9weI T N (q9spI T N c.1)) := by rw [← h3]; exact q9mn_P h1 h2
      obtain ⟨r1, r2⟩ := q9hs_bF hN hf k m e f2 d2 h7 (by omega) he
      have hl : f1 = Int64.ofInt (q9lF (kdP T N P J) (mnP T N P J) (enP T N P J) (szP T N P J) b) ∧ d1 = Int64.ofInt (q9lD (kdP T N P J) (mnP T N P J) (enP T N P J) (szP T N P J) b - q9lF (kdP T N P J) (mnP T N P J) (enP T N P J) (szP T N P J) b) := by
        rcases h10 with ⟨a1, a2, a3⟩ | ⟨a1, a2, a3, a4⟩ | ⟨a1, f3, d3, a2, a3, a4⟩
        · rw [q9lF_fr (by omega), q9lD_fr (by omega), ea, a2, a3]
          refine ⟨rfl, ?_⟩
          rw [Int.add_sub_cancel]
          rfl
        · rw [q9lF_no (by omega) (by omega), q9lD_no (by omega) (by omega), a3, a4]
          exact ⟨rfl, rfl⟩
        · obtain ⟨s1, s2⟩ := q9hs_bF hN hf k (b + 1) m f3 d3 a2 (by omega) (by omega)
          rw [q9lF_7 (by omega), q9lD_7 (by omega), em, ea, a1, a3, a4, s1, s2]
          constructor
          · rw [Int64.ofInt_mul]
          · rw [show 1 + q9amI T N P J 7 (q9weI T N (q9spI T N c.1)) * q9bD (kdP T N P J) (mnP T N P J) (enP T N P J) (szP T N P J) (b + 1) m - q9amI T N P J 7 (q9weI T N (q9spI T N c.1)) * q9bF (kdP T N P J) (mnP T N P J) (enP T N P J) (szP T N P J) (b + 1) m = 1 + q9amI T N P J 7 (q9weI T N (q9spI T N c.1)) * (q9bD (kdP T N P J) (mnP T N P J) (enP T N P J) (szP T N P J) (b + 1) m - q9bF (kdP T N P J) (mnP T N P J) (enP T N P J) (szP T N P J) (b + 1) m) by rw [Int.mul_sub]; omega, Int64.ofInt_add, Int64.ofInt_mul]
            rfl
      rw [q9bF_eq W (by omega) he, q9bD_eq W (by omega) he, em, h8, h9, r1, r2, hl.1, hl.2]
      constructor
      · rw [Int64.ofInt_add]
      · rw [← Int64.ofInt_add]
        congr 1
        omega
/-- all of it: the frames that the reader told, and how long it takes -/
theorem q9fn_all (hN : 0 ≤ N) (hf : q9fnP T N P J) {c : q9CF9} {q : q9TE9} (hv : q9visI T N P J c) (hn : q9th_nxI T N P J c = none) (hq : c.2.2 = [q]) : q9bF (kdP T N P J) (mnP T N P J) (enP T N P J) (szP T N P J) 0 (szP T N P J) = q.2.2.1.toInt ∧ q9bD (kdP T N P J) (mnP T N P J) (enP T N P J) (szP T N P J) 0 (szP T N P J) ≤ 2400 ∧ 1 ≤ szP T N P J := by
  have W := q9plW_P hN hf
  obtain ⟨c', q', hv', hn', h9', hq', t1, t2, t3⟩ := hf
  have hf : q9fnP T N P J := ⟨c', q', hv', hn', h9', hq', t1, t2, t3⟩
  have ec := q9vis_last hv hv' hn hn'
  subst ec
  rw [hq] at hq'
  cases hq'
  obtain ⟨c9, q9, k9, g1, g2, z0, z1, g5, g6, g7, g8, g9⟩ := q9fn_hs hN hf
  have hb := q9vis_base hv
  have hh := q9vis_hs hN hv
  rw [hq] at hh
  obtain ⟨⟨m, d, k1, k2⟩, -⟩ := hh
  rw [if_pos rfl] at k2
  have hs : q9th_stP c = [(q.1, q.2.1)] := by
    unfold q9th_stP
    rw [hq]
    rfl
  rw [hs] at hb
  have hb : some (q.1, q.2.1) = some ((-1 : Int), (0 : Int)) := hb
  have hb1 : q.1 = -1 := (Prod.mk.inj (Option.some.inj hb)).1
  have hz : szP T N P J = c.2.1 := by
    have e : chV (fun v => q9laI T N P J fun c => q9edI T N c ∧ v = c.2.1) = some c.2.1 := q9la_V (p := fun (v : Int) c => q9edI T N c ∧ v = c.2.1) hv hn ⟨⟨h9', by rw [hq]; rfl⟩, rfl⟩ (fun v' h => h.2)
    unfold szP
    rw [e]
  rw [hb1, ← k2, ← hz] at k1
  have k1 : q9hsI T N P J m 0 (szP T N P J) q.2.2.1 q.2.2.2 := k1
  obtain ⟨r1, r2⟩ := q9hs_bF hN hf m _ _ _ _ k1 (Int.le_refl _) (Int.le_refl _)
  have u := q9bD_up hN hf 4 (szP T N P J).toNat 0 (szP T N P J) (by omega) (Int.le_refl _) (Int.le_refl _) (fun j j1 j2 => by
    have := (q9dp_rng hN hf j1 j2).1
    have := (W.2.1 j j2).2
    omega)
  have u4 : q9upB 4 = 201 * (1201 * 1201 * 1201 * 1201) := by decide
  have b0 := q9bF_0 W (i := 0) (e := szP T N P J)
  have b1 : q9bF (kdP T N P J) (mnP T N P J) (enP T N P J) (szP T N P J) 0 (szP T N P J) ≤ q9bD (kdP T N P J) (mnP T N P J) (enP T N P J) (szP T N P J) 0 (szP T N P J) := q9plF_le W _ _ _
  have b2 : q9bD (kdP T N P J) (mnP T N P J) (enP T N P J) (szP T N P J) 0 (szP T N P J) < 9223372036854775807 := by
    rw [u4] at u
    split at u
    · omega
    · omega
  have e1 : q.2.2.1.toInt = q9bF (kdP T N P J) (mnP T N P J) (enP T N P J) (szP T N P J) 0 (szP T N P J) := by
    rw [r1, Int64.toInt_ofInt_of_le (by omega) (by omega)]
  have e2 : q.2.2.2.toInt = q9bD (kdP T N P J) (mnP T N P J) (enP T N P J) (szP T N P J) 0 (szP T N P J) - q9bF (kdP T N P J) (mnP T N P J) (enP T N P J) (szP T N P J) 0 (szP T N P J) := by
    rw [r2, Int64.toInt_ofInt_of_le (by omega) (by omega)]
  refine ⟨e1.symm, by omega, ?_⟩
  by_cases hh : 1 ≤ szP T N P J
  · exact hh
  · rw [q9bF_no (by omega)] at e1
    omega
end PLI2
/-! what the play's operations say -/
section PLQ2
variable {T : Int → Int} {N P : Int} {J : Int → Int}
theorem q9q_of {s : Int} {q : q9PS9} (h : qP T N P J s = some q) : q9fnP T N P J ∧ q9atQ T N P J q ∧ q9owQ T N P J q s := q9chV_of h
theorem q9q_to (hN : 0 ≤ N) {s : Int} {q : q9PS9} (hf : q9fnP T N P J) (ha : q9atQ T N P J q) (ho : q9owQ T N P J q s) : qP T N P J s = some q := q9chV_to (fun _ h => q9at_one (q9plW_P hN hf) h.2.1 ha h.2.2 ho) ⟨hf, ha, ho⟩
theorem q9q_r {α : Type} {g : q9PS9 → α} {s : Int} {q : q9PS9} {v : α} (hq : qP T N P J s = some q) (h : (qP T N P J s).map g = some v) : g q = v := by
  rw [hq] at h
  exact Option.some.inj h
theorem q9q_m {α : Type} {g : q9PS9 → α} {s : Int} {v : α} (h : (qP T N P J s).map g = some v) : ∃ q, qP T N P J s = some q ∧ g q = v := by
  cases e : qP T N P J s with
  | none => rw [e] at h; cases h
  | some q => rw [e] at h; exact ⟨q, rfl, Option.some.inj h⟩
theorem q9q_t {α : Type} {g : q9PS9 → α} {s : Int} {q : q9PS9} {v : α} (hq : qP T N P J s = some q) (h : g q = v) : (qP T N P J s).map g = some v := by
  rw [hq]
  exact congrArg some h
/-- a fine text's play takes no q9more than that -/
theorem q9fn_len (hN : 0 ≤ N) (hf : q9fnP T N P J) : bQ T N P J 0 (szP T N P J) ≤ 2400 ∧ 1 ≤ szP T N P J ∧ szP T N P J ≤ 60 := by
  obtain ⟨c, q, hv, hn, h9, hq, t⟩ := hf
  have hf : q9fnP T N P J := ⟨c, q, hv, hn, h9, hq, t⟩
  have h := q9fn_all hN hf hv hn hq
  obtain ⟨c9, q9, k9, -, -, z0, z1, -⟩ := q9fn_hs hN hf
  exact ⟨h.2.1, h.2.2, z1⟩
/-- a line of the play -/
theorem q9q_ln (hN : 0 ≤ N) (hf : q9fnP T N P J) {q : q9PS9} (ha : q9atQ T N P J q) : (0 ≤ q.1 ∧ q.1 < q.2.1 ∧ q.2.1 ≤ szP T N P J ∧ szP T N P J ≤ 60) ∧ (q.1 < enP T N P J q.1 ∧ enP T N P J q.1 ≤ q.2.1) ∧ (0 ≤ q.2.2.2.1 ∧ 1 ≤ lQ T N P J q.1 ∧ q.2.2.1 = q.2.2.2.1 + lQ T N P J q.1 + bQ T N P J (enP T N P J q.1) q.2.1) ∧ 0 ≤ bQ T N P J (enP T N P J q.1) q.2.1 ∧ q.2.2.1 ≤ bQ T N P J 0 (szP T N P J) ∧ bQ T N P J 0 (szP T N P J) ≤ 2400 := by
  have W := q9plW_P hN hf
  obtain ⟨⟨o1, o2, o3, o4⟩, b1, b2, b3, b4⟩ := q9at_bd W ha
  have hl := q9fn_len hN hf
  have w := W.2.1 q.1 (by omega)
  refine ⟨⟨o1, b4, o2, hl.2.2⟩, ⟨w.1, o4 q.1 (Int.le_refl _) b4⟩, ⟨b1, q9lD_1 W, ?_⟩, q9bD_0 W, b3, hl.1⟩
  rw [o3, q9bD_eq W b4 o2]
  omega
/-- the line itself -/
theorem q9q_at (hN : 0 ≤ N) (hf : q9fnP T N P J) {i : Int} (h0 : 0 ≤ i) (hi : i < szP T N P J) : ∃ c, q9visI T N P J c ∧ q9okL T N P J c ∧ c.2.1 = i ∧ kdP T N P J i = q9lkI T N c ∧ mnP T N P J i = q9amI T N P J (q9lkI T N c) (q9weI T N (q9spI T N c.1)) ∧ q9enE T N P J i (enP T N P J i) := by
  obtain ⟨c, m, g1, g2, g3, g4, g5, -⟩ := q9sz_ln hN hf h0 hi
  refine ⟨c, g1, g2, g3, ?_, ?_, ?_⟩
  · rw [← g3]
    exact q9kd_P g1 g2
  · rw [← g3]
    exact q9mn_P g1 g2
  · rw [q9en_P hN h0 g4 g5]
    exact g4
theorem q9kd_Q {i v : Int} (h : ∃ c, q9visI T N P J c ∧ q9okL T N P J c ∧ c.2.1 = i ∧ v = q9lkI T N c) : kdP T N P J i = v := by
  obtain ⟨c, h1, h2, h3, h4⟩ := h
  rw [← h3, h4]
  exact q9kd_P h1 h2
theorem q9mn_Q {i v : Int} (h : ∃ c, q9visI T N P J c ∧ q9okL T N P J c ∧ c.2.1 = i ∧ v = q9amI T N P J (q9lkI T N c) (q9weI T N (q9spI T N c.1))) : mnP T N P J i = v := by
  obtain ⟨c, h1, h2, h3, h4⟩ := h
  rw [← h3, h4]
  exact q9mn_P h1 h2
theorem q9en_Q (hN : 0 ≤ N) (hf : q9fnP T N P J) {i v : Int} (h0 : 0 ≤ i) (hi : i < szP T N P J) (h : q9enE T N P J i v) : enP T N P J i = v := by
  obtain ⟨c, -, -, -, -, -, h2⟩ := q9q_at hN hf h0 hi
  exact q9en_one hN h h2
/-- where a line begins it owns the moment; and each of its frames -/
theorem q9ow_st {q : q9PS9} {s : Int} (h : s = q.2.2.2.1) : q9owQ T N P J q s := .inl h
theorem q9ow_fr {q : q9PS9} {s : Int} (hk : kdP T N P J q.1 ≤ 1) (h1 : q.2.2.2.1 < s) (h2 : s ≤ q.2.2.2.1 + mnP T N P J q.1) : q9owQ T N P J q s := .inr ⟨hk, h1, h2⟩
theorem q9ow_ge {q : q9PS9} {s : Int} (h : q9owQ T N P J q s) : q.2.2.2.1 ≤ s := by
  rcases h with h | ⟨-, h, -⟩
  · omega
  · omega
theorem q9tp_2 {s : Int} {q : q9PS9} (h : tpQ T N P J s q = 2) : q.2.2.2.1 < s := by
  unfold tpQ at h
  split at h
  · assumption
  · split at h
    · exact absurd h (by decide)
    · exact absurd h (by decide)
theorem q9tp_n {s : Int} {q : q9PS9} {v : Int} (h : tpQ T N P J s q = v) (hv : v < 2) (ho : q9owQ T N P J q s) : s = q.2.2.2.1 ∧ (v = 0 → kdP T N P J q.1 ≠ 6) ∧ (v = 1 → kdP T N P J q.1 = 6) := by
  have h9 := q9ow_ge ho
  unfold tpQ at h
  split at h
  · omega
  · split at h
    · exact ⟨by omega, fun h2 => by omega, fun _ => by assumption⟩
    · exact ⟨by omega, fun _ => by assumption, fun h2 => by omega⟩
theorem q9tp_st {s v : Int} {q : q9PS9} (h : s = q.2.2.2.1) (h6 : v = if kdP T N P J q.1 = 6 then 1 else 0) : tpQ T N P J s q = v := by
  unfold tpQ
  rw [if_neg (by omega), h6]
theorem q9tp_fr {s : Int} {q : q9PS9} (h : q.2.2.2.1 < s) : tpQ T N P J s q = 2 := by
  unfold tpQ
  rw [if_pos h]
/-- a frame's moment -/
theorem q9fr_Q {s : Int} {q : q9PS9} (ha : q9atQ T N P J q) (ho : q9owQ T N P J q s) (h : q.2.2.2.1 < s) : q9frQ T N P J s ∧ kdP T N P J q.1 ≤ 1 ∧ s ≤ q.2.2.2.1 + mnP T N P J q.1 := by
  rcases ho with h2 | ⟨h2, -, h3⟩
  · omega
  · exact ⟨q9fr_yes ha h2 h h3, h2, h3⟩
theorem q9fr_nQ (hN : 0 ≤ N) (hf : q9fnP T N P J) {s : Int} {q : q9PS9} (ha : q9atQ T N P J q) (h : s = q.2.2.2.1) : ¬ q9frQ T N P J s := by
  rw [h]
  exact q9fr_not (q9plW_P hN hf) ha
/-- the frames are as many as told -/
theorem q9cn_rng (hN : 0 ≤ N) (hf : q9fnP T N P J) {s : Int} (h0 : 0 ≤ s) (h : s ≤ bQ T N P J 0 (szP T N P J)) : 0 ≤ cnQ T N P J s ∧ cnQ T N P J s ≤ bFQ T N P J 0 (szP T N P J) := by
  have h1 : cnQ T N P J 0 ≤ cnQ T N P J s := q9cn_le (Int.le_refl _) h0
  have h2 : cnQ T N P J s ≤ cnQ T N P J (bQ T N P J 0 (szP T N P J)) := q9cn_le h0 h
  have h3 : cnQ T N P J (bQ T N P J 0 (szP T N P J)) = bFQ T N P J 0 (szP T N P J) := q9cn_all (q9plW_P hN hf)
  have h4 : cnQ T N P J 0 = 0 := q9cn_0
  omega
/-- a fine text by how it ends -/
theorem q9fin0_fn {v : Int} (h0 : (finI T N P J).1 = 0) (h : q9laI T N P J fun c => q9edI T N c ∧ v = c.2.1) : q9fnP T N P J ∧ szP T N P J = v := by
  obtain ⟨c, hv, hn, hed, hz⟩ := h
  obtain ⟨q, hq⟩ := List.length_eq_one_iff.mp hed.2
  have he : q9enI c 0 = some q := q9en_top hq (by rw [hed.2]; rfl)
  have hF : finI T N P J = _ := (q9fin_of hv hn).trans (q9fn_ed (P := P) (J := J) hed he)
  have hc : 1 ≤ q.2.2.1.toInt ∧ q.2.2.1.toInt ≤ 400 ∧ q.2.2.2.toInt ≤ 2000 := by
    by_cases hc : 1 ≤ q.2.2.1.toInt ∧ q.2.2.1.toInt ≤ 400 ∧ q.2.2.2.toInt ≤ 2000
    · exact hc
    · rw [if_neg hc] at hF
      rw [hF] at h0
      exact absurd h0 (by show ¬ (4 : Int) = 0; decide)
  refine ⟨⟨c, q, hv, hn, hed.1, hq, hc⟩, ?_⟩
  have e : chV (fun v => q9laI T N P J fun c => q9edI T N c ∧ v = c.2.1) = some c.2.1 := q9la_V (p := fun (v : Int) c => q9edI T N c ∧ v = c.2.1) hv hn ⟨hed, rfl⟩ (fun v' h => h.2)
  unfold szP
  rw [e, hz]
/-- how many frames it is told -/
theorem q9fn_fin (hN : 0 ≤ N) (hf : q9fnP T N P J) : (finI T N P J).2.2 = bFQ T N P J 0 (szP T N P J) ∧ 1 ≤ bFQ T N P J 0 (szP T N P J) ∧ bFQ T N P J 0 (szP T N P J) ≤ 400 := by
  obtain ⟨c, q, hv, hn, h9, hq, t1, t2, t3⟩ := hf
  have hf : q9fnP T N P J := ⟨c, q, hv, hn, h9, hq, t1, t2, t3⟩
  have he : q9enI c 0 = some q := q9en_top hq (by rw [hq]; rfl)
  have hed : q9edI T N c := ⟨h9, by rw [hq]; rfl⟩
  have hF : finI T N P J = _ := (q9fin_of hv hn).trans (q9fn_ed (P := P) (J := J) hed he)
  rw [if_pos ⟨t1, t2, t3⟩] at hF
  have h := (q9fn_all hN hf hv hn hq).1
  have h : bFQ T N P J 0 (szP T N P J) = q.2.2.1.toInt := h
  rw [hF, h]
  exact ⟨rfl, t1, t2⟩
theorem q9q_root (hN : 0 ≤ N) (hf : q9fnP T N P J) : qP T N P J 0 = some (q9rootP (kdP T N P J) (mnP T N P J) (enP T N P J) (szP T N P J)) := q9q_to hN hf (q9at_root (by have := (q9fn_len hN hf).2.1; omega)) (q9ow_st rfl)
/-- no frame behind the play; so never q9more frames than told -/
theorem q9fr_lt (hN : 0 ≤ N) (hf : q9fnP T N P J) {s : Int} (h : q9frQ T N P J s) : s < bQ T N P J 0 (szP T N P J) := by
  obtain ⟨q, h1, h2, h3, h4⟩ := h
  obtain ⟨-, -, b2, -, -⟩ := q9at_bd (q9plW_P hN hf) h1
  rw [q9lD_fr h2] at b2
  show s < q9bD _ _ _ _ _ _
  omega
theorem q9cn_up (hN : 0 ≤ N) (hf : q9fnP T N P J) : ∀ k : Nat, 0 ≤ cnQ T N P J (k : Int) ∧ cnQ T N P J (k : Int) ≤ bFQ T N P J 0 (szP T N P J)
  | 0 => ⟨Int.le_refl _, by have := (q9fn_fin hN hf).2.1; show (0 : Int) ≤ _; omega⟩
  | k + 1 => by
    have ih := q9cn_up hN hf k
    have e : (((k + 1 : Nat)) : Int) = (k : Int) + 1 := by omega
    by_cases h : q9frQ T N P J (k : Int)
    · have h1 := q9fr_lt hN hf h
      rw [e]
      exact q9cn_rng hN hf (by omega) (by omega)
    · rw [e]
      have h2 : cnQ T N P J ((k : Int) + 1) = cnQ T N P J (k : Int) := q9cn_no (by omega) h
      rw [h2]
      exact ih
theorem q9cn_400 (hN : 0 ≤ N) (hf : q9fnP T N P J) {s : Int} (h0 : 0 ≤ s) : 0 ≤ cnQ T N P J s ∧ cnQ T N P J s ≤ 400 := by
  have h := q9cn_up hN hf s.toNat
  have h2 := (q9fn_fin hN hf).2.2
  rw [show (s.toNat : Int) = s by omega] at h
  omega
/-- how deep -/
theorem q9q_dp (hN : 0 ≤ N) (hf : q9fnP T N P J) {q : q9PS9} (ha : q9atQ T N P J q) : 0 ≤ q.2.2.2.2.1 ∧ q.2.2.2.2.1 ≤ dpP T N P J q.1 := by
  have W := q9plW_P hN hf
  obtain ⟨k, hk⟩ := ha
  have h := q9InS_ind (kd := kdP T N P J) (mn := mnP T N P J) (en := enP T N P J) (n := szP T N P J) (C := fun p => 0 ≤ p.2.2.2.2.1 ∧ 0 ≤ p.1 ∧ p.2.1 ≤ szP T N P J ∧ ∀ i, p.1 ≤ i → i < p.2.1 → p.2.2.2.2.1 ≤ dpP T N P J i)
    (fun p hp hi => by
      obtain ⟨h1, h2, h3, h4⟩ := hp
      have w := W.2.1 p.1 (by omega)
      refine ⟨h1, ?_, h3, fun i g1 g2 => ?_⟩
      · show 0 ≤ enP T N P J p.1
        omega
      · have g1 : enP T N P J p.1 ≤ i := g1
        exact h4 i (by omega) g2)
    (fun p r hp hi h7 _ _ => by
      obtain ⟨h1, h2, h3, h4⟩ := hp
      have w := W.2.1 p.1 (by omega)
      refine ⟨?_, ?_, w.2, fun i g1 g2 => ?_⟩
      · show 0 ≤ p.2.2.2.2.1 + 1
        omega
      · show 0 ≤ p.1 + 1
        omega
      · have g1 : p.1 + 1 ≤ i := g1
        have g2 : i < enP T N P J p.1 := g2
        have a1 := h4 p.1 (Int.le_refl _) hi
        have a2 := q9dp_lt hN hf (by omega) h2 h7 (show p.1 < i by omega) g2
        show p.2.2.2.2.1 + 1 ≤ _
        omega) k _ _ ⟨Int.le_refl _, Int.le_refl _, Int.le_refl _, fun i g1 g2 => (q9dp_rng hN hf g1 g2).1⟩ hk
  exact ⟨h.1, h.2.2.2 q.1 (Int.le_refl _) (q9InK_lt k _ _ hk)⟩
/-- what a line says, by its number -/
theorem q9wh_Q {i v : Int} (h : q9whE T N P J i v) : whP T N P J i = v := by
  obtain ⟨c, h1, h2, h3, h4, h5⟩ := h
  unfold whP
  rw [← h3, q9ln_P h1 h2, h5]
theorem q9vl_Q {i v : Int} (h : q9vlE T N P J i v) : vlP T N P J i = v := by
  obtain ⟨c, h1, h2, h3, h4, h5⟩ := h
  unfold vlP
  rw [← h3, q9ln_P h1 h2, h5]
theorem q9es_Q {i v : Int} (h : q9esE T N P J i v) : esP T N P J i = v := by
  obtain ⟨c, h1, h2, h3, h4, h5⟩ := h
  unfold esP
  rw [← h3, q9ln_P h1 h2, h5]
theorem q9F_wh {c : q9CF9} {a v : Int} (hv : q9visI T N P J c) (hk : q9okL T N P J c) (hc : c.2.1 = a) (h6 : q9lkI T N c = 6) (h : v = q9lwhI T N (q9weI T N (q9spI T N c.1))) : chV (fun v => q9whE T N P J a v) = some v := q9chV_to (fun v' ⟨c', k1, k2, k3, k4, k5⟩ => by
  have := q9ln_one k1 hv k2 hk (by rw [k3, hc])
  subst this
  rw [k5, h]) ⟨c, hv, hk, hc, h6, h⟩
theorem q9F_vl {c : q9CF9} {a v : Int} (hv : q9visI T N P J c) (hk : q9okL T N P J c) (hc : c.2.1 = a) (h6 : q9lkI T N c = 6) (h : v = q9lvlI T N (q9weI T N (q9spI T N c.1))) : chV (fun v => q9vlE T N P J a v) = some v := q9chV_to (fun v' ⟨c', k1, k2, k3, k4, k5⟩ => by
  have := q9ln_one k1 hv k2 hk (by rw [k3, hc])
  subst this
  rw [k5, h]) ⟨c, hv, hk, hc, h6, h⟩
theorem q9F_es {c : q9CF9} {a v : Int} (hv : q9visI T N P J c) (hk : q9okL T N P J c) (hc : c.2.1 = a) (h6 : q9lkI T N c = 6 ∨ q9lkI T N c = 1) (h : v = q9esI T N P J (q9lkI T N c) (q9weI T N (q9spI T N c.1))) : chV (fun v => q9esE T N P J a v) = some v := q9chV_to (fun v' ⟨c', k1, k2, k3, k4, k5⟩ => by
  have := q9ln_one k1 hv k2 hk (by rw [k3, hc])
  subst this
  rw [k5, h]) ⟨c, hv, hk, hc, h6, h⟩
theorem q9ezv_rng {a : Int} : 0 ≤ q9ezvI T N a ∧ q9ezvI T N a ≤ 3 := by
  unfold q9ezvI
  repeat' split
  all_goals omega
theorem q9axw_rng {b : Int} : 0 ≤ q9axwI T N b ∧ q9axwI T N b ≤ 2 := by
  unfold q9axwI
  repeat' split
  all_goals omega
theorem q9es_rng {k e : Int} : 0 ≤ q9esI T N P J k e ∧ q9esI T N P J k e ≤ 3 := by
  unfold q9esI
  split
  · exact q9ezv_rng
  · exact q9ezv_rng
theorem q9esP_rng {i : Int} : 0 ≤ esP T N P J i ∧ esP T N P J i ≤ 3 := by
  unfold esP
  split
  · exact q9es_rng
  · omega
theorem q9wh_rng {i : Int} : 0 ≤ whP T N P J i ∧ whP T N P J i ≤ 2 := by
  unfold whP
  split
  · exact q9axw_rng
  · omega
/-- a q9step that is neither a frame nor a motor's beginning -/
theorem q9ax_no {kd mn en wh vl es : Int → Int} {n s a : Int} (h0 : 0 ≤ s) (h : ¬ q9isFr kd mn en n s) (h2 : ¬ ∃ q, q9atP kd mn en n q ∧ q.2.2.2.1 = s ∧ kd q.1 = 6 ∧ wh q.1 = a) : axI kd mn en wh vl es n (s + 1) a = axI kd mn en wh vl es n s a := by
  unfold axI
  rw [show (s + 1).toNat = s.toNat + 1 by omega]
  show @ite _ (q9isFr kd mn en n (s.toNat : Int)) (Classical.propDecidable _) _ _ = _
  rw [show (s.toNat : Int) = s by omega, if_neg h, if_neg h2]
/-- what an axis' motor has done: as many frames as have been since it began, but no q9more than it wants -/
def q9axR (T : Int → Int) (N P : Int) (J : Int → Int) (s : Int) (x : q9AX9) : Prop := 0 ≤ x.2.2.2.1 ∧ x.2.2.2.1 ≤ 400 ∧ (1 ≤ x.2.2.2.1 → 0 ≤ x.2.2.2.2.2.1 ∧ x.2.2.2.2.2.1 ≤ 3) ∧ 0 ≤ x.2.2.2.2.1 ∧ x.2.2.2.2.1 ≤ x.2.2.2.1 ∧ 0 ≤ x.2.2.2.2.2.2 ∧ x.2.2.2.2.2.2 ≤ cnQ T N P J s ∧ (x.2.2.2.2.1 = x.2.2.2.1 ∧ x.2.2.2.1 ≤ cnQ T N P J s - x.2.2.2.2.2.2 ∨ x.2.2.2.2.1 < x.2.2.2.1 ∧ x.2.2.2.2.1 = cnQ T N P J s - x.2.2.2.2.2.2)
theorem q9ax_inv (hN : 0 ≤ N) (hf : q9fnP T N P J) {a : Int} : ∀ k : Nat, q9axR T N P J (k : Int) (axQ T N P J (k : Int) a)
  | 0 => by
    show q9axR T N P J 0 (0, 0, 0, 0, 0, 0, 0)
    have h : cnQ T N P J 0 = 0 := q9cn_0
    unfold q9axR
    rw [h]
    dsimp only
    omega
  | k + 1 => by
    have W := q9plW_P hN hf
    have ih := q9ax_inv hN hf (a := a) k
    have e : (((k + 1 : Nat)) : Int) = (k : Int) + 1 := by omega
    rw [e]
    generalize hx : axQ T N P J (k : Int) a = x at ih
    by_cases h : q9frQ T N P J (k : Int)
    · have h1 : axQ T N P J ((k : Int) + 1) a = q9axM x := by
        rw [← hx]
        exact q9ax_fr (by omega) h
      have h2 : cnQ T N P J ((k : Int) + 1) = cnQ T N P J (k : Int) + 1 := q9cn_yes (by omega) h
      rw [h1]
      unfold q9axR at ih ⊢
      rw [h2]
      unfold q9axM
      split
      · dsimp only
        omega
      · omega
    · have h2 : cnQ T N P J ((k : Int) + 1) = cnQ T N P J (k : Int) := q9cn_no (by omega) h
      by_cases h3 : ∃ q, q9atQ T N P J q ∧ q.2.2.2.1 = (k : Int) ∧ kdP T N P J q.1 = 6 ∧ whP T N P J q.1 = a
      · obtain ⟨q, q1, q2, q3, q4⟩ := h3
        obtain ⟨⟨l1, l2, l3, l4⟩, -⟩ := q9q_ln hN hf q1
        have hm := (q9mn_rng hN hf l1 (by omega)).2.2.1 q3
        have hes := q9esP_rng (T := T) (N := N) (P := P) (J := J) (i := q.1)
        have h1 := q9ax_cm (wh := whP T N P J) (vl := vlP T N P J) (es := esP T N P J) W q1 q3
        rw [q2, q4] at h1
        have h1 : axQ T N P J ((k : Int) + 1) a = (_, _, vlP T N P J q.1, mnP T N P J q.1, 0, esP T N P J q.1, cnQ T N P J (k : Int)) := h1
        rw [h1]
        have h9 := q9cn_400 hN hf (s := (k : Int)) (by omega)
        unfold q9axR
        rw [h2]
        dsimp only
        omega
      · have h1 : axQ T N P J ((k : Int) + 1) a = x := by
          rw [← hx]
          exact q9ax_no (by omega) h h3
        rw [h1]
        unfold q9axR at ih ⊢
        rw [h2]
        exact ih
theorem q9axO_f (hf : q9fnP T N P J) {s a : Int} : axO T N P J s a = axQ T N P J s a := by
  unfold axO
  rw [if_pos hf]
theorem q9axO_n (hf : ¬ q9fnP T N P J) {s a : Int} : axO T N P J s a = (0, 0, 0, 0, 0, 0, 0) := by
  unfold axO
  rw [if_neg hf]
theorem q9axO_R (hN : 0 ≤ N) (hf : q9fnP T N P J) {s a : Int} (h0 : 0 ≤ s) : q9axR T N P J s (axO T N P J s a) := by
  have h := q9ax_inv hN hf (a := a) s.toNat
  rw [show (s.toNat : Int) = s by omega] at h
  rw [q9axO_f hf]
  exact h
theorem q9axO_0 {a : Int} : axO T N P J 0 a = (0, 0, 0, 0, 0, 0, 0) := by
  by_cases hf : q9fnP T N P J
  · rw [q9axO_f hf]
    rfl
  · exact q9axO_n hf
theorem q9root_b (hN : 0 ≤ N) (hf : q9fnP T N P J) : 1 ≤ bQ T N P J 0 (szP T N P J) := by
  have h := (q9q_ln hN hf (q := q9rootP (kdP T N P J) (mnP T N P J) (enP T N P J) (szP T N P J)) (q9at_root (by have := (q9fn_len hN hf).2.1; omega))).2.2
  unfold q9rootP at h
  dsimp only at h
  omega
/-- within any moment -/
theorem q9axO_rng (hN : 0 ≤ N) {s a : Int} (h0 : 0 ≤ s) : (0 ≤ (axO T N P J s a).2.2.2.1 ∧ (axO T N P J s a).2.2.2.1 ≤ 400) ∧ (1 ≤ (axO T N P J s a).2.2.2.1 → 0 ≤ (axO T N P J s a).2.2.2.2.2.1 ∧ (axO T N P J s a).2.2.2.2.2.1 ≤ 3) ∧ 0 ≤ (axO T N P J s a).2.2.2.2.1 ∧ (axO T N P J s a).2.2.2.2.1 ≤ (axO T N P J s a).2.2.2.1 := by
  by_cases hf : q9fnP T N P J
  · have h := q9axO_R hN hf (a := a) h0
    unfold q9axR at h
    omega
  · rw [q9axO_n hf]
    dsimp only
    omega
theorem q9axO_fr (hf : q9fnP T N P J) {s a : Int} (h0 : 0 ≤ s) (h : q9frQ T N P J s) : axO T N P J (s + 1) a = q9axM (axO T N P J s a) := by
  rw [q9axO_f hf, q9axO_f hf]
  exact q9ax_fr h0 h
theorem q9axO_cm (hN : 0 ≤ N) (hf : q9fnP T N P J) {q : q9PS9} {s a : Int} (ha : q9atQ T N P J q) (hs : s = q.2.2.2.1) (h6 : kdP T N P J q.1 = 6) (hw : whP T N P J q.1 = a) : axO T N P J (s + 1) a = ((axO T N P J s a).1, (axO T N P J s a).1, vlP T N P J q.1, mnP T N P J q.1, 0, esP T N P J q.1, cnQ T N P J s) := by
  rw [q9axO_f hf, q9axO_f hf, hs, ← hw]
  exact q9ax_cm (q9plW_P hN hf) ha h6
theorem q9axO_st (hN : 0 ≤ N) (hf : q9fnP T N P J) {q : q9PS9} {s a : Int} (ha : q9atQ T N P J q) (hs : s = q.2.2.2.1) (hw : kdP T N P J q.1 ≠ 6 ∨ whP T N P J q.1 ≠ a) : axO T N P J (s + 1) a = axO T N P J s a := by
  rw [q9axO_f hf, q9axO_f hf, hs]
  exact q9ax_st (q9plW_P hN hf) ha hw
/-- a frame's values, by three times its number -/
theorem q9axC_to (hN : 0 ≤ N) (hf : q9fnP T N P J) {s j v : Int} (h0 : 0 ≤ s) (h : q9frQ T N P J s) (hj : cnQ T N P J s = j / 3) (hv : v = (axO T N P J (s + 1) (j % 3)).1) : axC T N P J j = some v := q9chV_to (fun v' ⟨s', k1, k2, k3, k4, k5⟩ => by
  have e : s' = s := q9fr_inj k1 h0 k3 h (k4.trans hj.symm)
  rw [k5, hv, e]) ⟨s, h0, hf, h, hj, hv⟩
theorem q9shn_rng {Sc : Int → Int} : 0 ≤ q9shnI Sc ∧ q9shnI Sc ≤ 11 := by
  unfold q9shnI
  split
  · assumption
  · omega
theorem q9w32_of {x : Int32} : q9w32 x.toInt = x.toInt := by
  unfold q9w32
  rw [q9oI_of]
theorem q9w32_add {x y : Int32} : (x + y).toInt = q9w32 (x.toInt + y.toInt) := by
  unfold q9w32
  rw [Int32.ofInt_add, q9oI_of, q9oI_of]
theorem q9w32_sub {x y : Int32} : (x - y).toInt = q9w32 (x.toInt - y.toInt) := by
  unfold q9w32
  rw [Int32.ofInt_sub, q9oI_of, q9oI_of]
end PLQ2
/-! long sums of an ease -/
section EAS9
theorem q9lc_val {x y : Int64} : (lg_cmp x y).toInt = if y.toInt < x.toInt then 1 else if x.toInt = y.toInt then 0 else -1 := by
  unfold lg_cmp
  by_cases h : y < x
  · rw [if_pos h, if_pos (Int64.lt_iff_toInt_lt.mp h)]
    rfl
  · rw [if_neg h, if_neg (fun hh => h (Int64.lt_iff_toInt_lt.mpr hh))]
    by_cases e : x = y
    · rw [if_pos e, if_pos (congrArg Int64.toInt e)]
      rfl
    · rw [if_neg e, if_neg (fun hh => e (Int64.toInt_inj.mp hh))]
      rfl
theorem q9lm64 {x y : Int64} (h : -9223372036854775808 ≤ x.toInt * y.toInt ∧ x.toInt * y.toInt ≤ 9223372036854775807) : (x * y).toInt = x.toInt * y.toInt := by
  rw [Int64.toInt_mul, Int.bmod_eq_of_le (by omega) (by omega)]
theorem q9ls64 {x y : Int64} (h : -9223372036854775808 ≤ x.toInt - y.toInt ∧ x.toInt - y.toInt ≤ 9223372036854775807) : (x - y).toInt = x.toInt - y.toInt := by
  rw [Int64.toInt_sub, Int.bmod_eq_of_le (by omega) (by omega)]
theorem q9fd_eq {x y q : Int64} (hy : 1 ≤ y.toInt) (h1 : q.toInt * y.toInt ≤ x.toInt) (h2 : x.toInt < q.toInt * y.toInt + y.toInt) : q9fdV x y = q := by
  have e : x.toInt / y.toInt = q.toInt := by
    apply Int.le_antisymm
    · apply Int.le_of_lt_add_one
      exact Int.ediv_lt_of_lt_mul (by omega) (by rw [Int.add_mul, Int.one_mul]; exact h2)
    · exact Int.le_ediv_of_mul_le (by omega) h1
  unfold q9fdV
  rw [Int.fdiv_eq_ediv_of_nonneg _ (by omega), e, Int64.ofInt_toInt]
theorem q9td_0 {x y : Int} (hy : 1 ≤ y) (hx : 0 ≤ x) : x.tdiv y * y ≤ x ∧ x < x.tdiv y * y + y ∧ 0 ≤ x.tdiv y * y := by
  rw [Int.tdiv_eq_ediv_of_nonneg hx]
  have h1 := Int.mul_ediv_add_emod x y
  have h2 := Int.emod_nonneg x (show y ≠ 0 by omega)
  have h3 := Int.emod_lt_of_pos x (show 0 < y by omega)
  have h4 := Int.mul_nonneg (Int.ediv_nonneg hx (show 0 ≤ y by omega)) (show 0 ≤ y by omega)
  rw [Int.mul_comm] at h1
  generalize x / y * y = z at h1 h4 ⊢
  omega
theorem q9td_n {x y : Int} (hy : 1 ≤ y) (hx : x < 0) : x ≤ x.tdiv y * y ∧ x.tdiv y * y < x + y ∧ x.tdiv y * y ≤ 0 := by
  have h := q9td_0 (x := -x) hy (by omega)
  rw [Int.neg_tdiv, Int.neg_mul] at h
  omega
/-- a truncated quotient, and it times its divisor -/
theorem q9dv64 {x y q p : Int64} (hy : 1 ≤ y.toInt) (hq : x / y = q) (hp : q * y = p) : p.toInt = q.toInt * y.toInt ∧ (0 ≤ x.toInt → p.toInt ≤ x.toInt ∧ x.toInt < p.toInt + y.toInt) ∧ (x.toInt < 0 → x.toInt ≤ p.toInt ∧ p.toInt < x.toInt + y.toInt) := by
  have e : q.toInt = x.toInt.tdiv y.toInt := by
    rw [← hq]
    exact Int64.toInt_div_of_ne_right x y (fun h => by rw [h] at hy; exact absurd hy (by decide))
  have b1 := Int64.le_toInt x
  have b2 := Int64.toInt_lt x
  have hp2 : p.toInt = q.toInt * y.toInt := by
    rw [← hp]
    apply q9lm64
    rw [e]
    by_cases h : 0 ≤ x.toInt
    · have := q9td_0 hy h
      omega
    · have := q9td_n hy (show x.toInt < 0 by omega)
      omega
  refine ⟨hp2, fun h => ?_, fun h => ?_⟩
  · have := q9td_0 hy h
    rw [hp2, e]
    omega
  · have := q9td_n hy h
    rw [hp2, e]
    omega
/-- signs that differ -/
theorem q9xo_sg {x y z : Int64} (hy : 1 ≤ y.toInt) (h : x ^^^ y = z) : z.toInt < 0 ↔ x.toInt < 0 := by
  have e : ∀ u : Int64, decide (u.toInt < 0) = u.toBitVec.msb := fun u => (BitVec.msb_eq_toInt (x := u.toBitVec)).symm
  have ey : y.toBitVec.msb = false := by
    rw [← e]
    exact decide_eq_false (by omega)
  have ez : z.toBitVec.msb = x.toBitVec.msb := by
    rw [← h, show (x ^^^ y).toBitVec = x.toBitVec ^^^ y.toBitVec from rfl, BitVec.msb_xor, ey, Bool.xor_false]
  rw [← e, ← e] at ez
  exact decide_eq_decide.mp ez
theorem q9mul_bd {w z Z : Int} (hw : -2147483648 ≤ w ∧ w ≤ 2147483648) (hz : -Z ≤ z ∧ z ≤ Z) : -(2147483648 * Z) ≤ w * z ∧ w * z ≤ 2147483648 * Z := by
  by_cases h : 0 ≤ z
  · have a1 : w * z ≤ 2147483648 * z := Int.mul_le_mul_of_nonneg_right (by omega) h
    have a2 : (-2147483648) * z ≤ w * z := Int.mul_le_mul_of_nonneg_right (by omega) h
    omega
  · have a1 : w * (-z) ≤ 2147483648 * (-z) := Int.mul_le_mul_of_nonneg_right (by omega) (by omega)
    have a2 : (-2147483648) * (-z) ≤ w * (-z) := Int.mul_le_mul_of_nonneg_right (by omega) (by omega)
    rw [Int.mul_neg] at a1 a2
    omega
theorem q9mul_pb {a b A B : Int} (ha : 0 ≤ a ∧ a ≤ A) (hb : 0 ≤ b ∧ b ≤ B) : 0 ≤ a * b ∧ a * b ≤ A * B := ⟨Int.mul_nonneg ha.1 hb.1, Int.mul_le_mul ha.2 hb.2 hb.1 (by omega)⟩
theorem q9cd_dec {w k m e : Int} (hk : 0 ≤ k) (hm : 0 ≤ m ∧ m < 1000) (he : 0 ≤ e ∧ e < 1000) : q9easI w (q9cdI (q9cdI k m) e) = q9ezI w k m e := by
  unfold q9easI q9cdI
  rw [show (1000 * (1000 * k + m) + e) / 1000000 = k by omega, show (1000 * (1000 * k + m) + e) / 1000 % 1000 = m by omega, show (1000 * (1000 * k + m) + e) % 1000 = e by omega]
/-- the same way with another divisor -/
theorem q9fd_can {w k m : Int} (hm : 1 ≤ m) : (w * (k * m)).fdiv (m * m) = (w * k).fdiv m := by
  have h : 0 ≤ m * m := Int.mul_nonneg (by omega) (by omega)
  rw [Int.fdiv_eq_ediv_of_nonneg _ h, Int.fdiv_eq_ediv_of_nonneg _ (by omega), show w * (k * m) = m * (w * k) by rw [← Int.mul_assoc, Int.mul_comm]]
  exact Int.mul_ediv_mul_of_pos _ _ (by omega)
theorem q9fd_val {x y q : Int64} {a b : Int} (h : q = q9fdV x y) (ha : x.toInt = a) (hb : y.toInt = b) : q = Int64.ofInt (a.fdiv b) := by
  rw [h]
  unfold q9fdV
  rw [ha, hb]
theorem q9ez_0 {w k m : Int} : q9ezI w k m 0 = (Int64.ofInt ((w * k).fdiv m)).toInt32.toInt := by
  unfold q9ezI
  rw [if_pos rfl]
theorem q9ez_1 {w k m : Int} : q9ezI w k m 1 = (Int64.ofInt ((w * (k * k)).fdiv (m * m))).toInt32.toInt := by
  unfold q9ezI
  rw [if_neg (by decide), if_pos rfl]
theorem q9ez_2 {w k m : Int} : q9ezI w k m 2 = (Int64.ofInt ((w * (2 * m * k - k * k)).fdiv (m * m))).toInt32.toInt := by
  unfold q9ezI
  rw [if_neg (by decide), if_neg (by decide), if_pos rfl]
theorem q9ez_3 {w k m : Int} (h : 2 * k ≤ m) : q9ezI w k m 3 = (Int64.ofInt ((w * (2 * k * k)).fdiv (m * m))).toInt32.toInt := by
  unfold q9ezI
  rw [if_neg (by decide), if_neg (by decide), if_neg (by decide), if_pos h]
theorem q9ez_4 {w k m : Int} (h : ¬ 2 * k ≤ m) : q9ezI w k m 3 = (Int64.ofInt ((w * (m * m - 2 * (m - k) * (m - k))).fdiv (m * m))).toInt32.toInt := by
  unfold q9ezI
  rw [if_neg (by decide), if_neg (by decide), if_neg (by decide), if_neg h]
end EAS9
section LOP9
variable {T : Int → Int} {N P : Int} {J : Int → Int} {t0 : Int} {Sc : Int → Int}
theorem q9xl_fd {x y : Int64} : q9exo (fO T N P J t0 Sc) 1442 (.long x) (.long y) = some (.long (q9fdV x y)) := (q9exo_hi (by decide)).trans rfl
theorem q9xl_sg {x : Int64} {y : Int32} : q9exo (fO T N P J t0 Sc) 1443 (.long x) (.int y) = some (.int (lg_cmp x 0)) := (q9exo_hi (by decide)).trans rfl
theorem q9xl_d1 {x : Int64} {y : Int32} : q9exo (fO T N P J t0 Sc) 1444 (.long x) (.int y) = some (.long (x - 1)) := (q9exo_hi (by decide)).trans rfl
theorem q9xl_d2 {x : Int64} {y : Int32} : q9exo (fO T N P J t0 Sc) 1445 (.long x) (.int y) = some (.long (2 * x)) := (q9exo_hi (by decide)).trans rfl
theorem q9lg_in {x y : Int64} (h : some (Value.long x) = some (.long y)) : x = y := Value.long.inj (Option.some.inj h)
theorem q9lg_div {f : Nat → Value → Value → Option Value} {x y z : Int64} (_ : 1 ≤ y.toInt) (h : q9exo f 23 (.long x) (.long y) = some (.long z)) : x / y = z := Value.long.inj (Option.some.inj h)
theorem q9fd_in {x y z : Int64} (h : q9exo (fO T N P J t0 Sc) 1442 (.long x) (.long y) = some (.long z)) : z = q9fdV x y := (Value.long.inj (Option.some.inj (q9xl_fd.symm.trans h))).symm
theorem q9sg_in {x : Int64} {y z : Int32} (h : q9exo (fO T N P J t0 Sc) 1443 (.long x) (.int y) = some (.int z)) : z.toInt = (lg_cmp x 0).toInt := congrArg Int32.toInt (Value.int.inj (Option.some.inj (q9xl_sg.symm.trans h))).symm
theorem q9d1_in {x z : Int64} {y : Int32} (h : q9exo (fO T N P J t0 Sc) 1444 (.long x) (.int y) = some (.long z)) : z = x - 1 := (Value.long.inj (Option.some.inj (q9xl_d1.symm.trans h))).symm
theorem q9d2_in {x z : Int64} {y : Int32} (h : q9exo (fO T N P J t0 Sc) 1445 (.long x) (.int y) = some (.long z)) : z = 2 * x := (Value.long.inj (Option.some.inj (q9xl_d2.symm.trans h))).symm
end LOP9
