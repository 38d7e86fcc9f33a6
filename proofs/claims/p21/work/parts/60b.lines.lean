variable {O : ORC}
/-! what is known of the reference's lines, as far as they are read: ranges; how many frames a stretch of them tells; how much of a shot is shot -/
abbrev q9LM : Type := Nat → Nat → Int32
noncomputable def q9lnOK (M : q9LM) (ac : Int) (i : Nat) : Prop :=
  ((M 22 i).toInt = 0 → 1 ≤ (M 23 i).toInt ∧ (M 23 i).toInt ≤ 200) ∧
  ((M 22 i).toInt = 1 → 1 ≤ (M 23 i).toInt ∧ (M 23 i).toInt ≤ 200 ∧ 0 ≤ (M 27 i).toInt ∧ 0 ≤ (M 28 i).toInt ∧ (M 27 i).toInt + (M 28 i).toInt ≤ ac) ∧
  ((M 22 i).toInt = 2 → 0 ≤ (M 25 i).toInt ∧ (M 25 i).toInt ≤ 7 ∧ 0 ≤ (M 26 i).toInt ∧ (M 26 i).toInt ≤ 400 ∧ 0 ≤ (M 28 i).toInt ∧ (M 28 i).toInt ≤ 20 ∧ 0 ≤ (M 27 i).toInt ∧ (M 27 i).toInt + (M 28 i).toInt ≤ 400) ∧
  ((M 22 i).toInt = 6 → 0 ≤ (M 25 i).toInt ∧ (M 25 i).toInt ≤ 2 ∧ 1 ≤ (M 23 i).toInt ∧ (M 23 i).toInt ≤ 400) ∧
  ((M 22 i).toInt = 7 → 1 ≤ (M 23 i).toInt ∧ (M 23 i).toInt ≤ 20)
noncomputable def q9acOK (M : q9LM) (i : Nat) : Prop := 0 ≤ (M 30 i).toInt ∧ (M 30 i).toInt ≤ 7 ∧ 0 ≤ (M 31 i).toInt ∧ (M 31 i).toInt ≤ 11
noncomputable def q9LINES (M : q9LM) (u w : Int) : Prop := (∀ i : Nat, (i : Int) < u → q9lnOK M w i) ∧ ∀ i : Nat, (i : Int) < w → q9acOK M i
theorem q9LINES.fr {M M' : q9LM} {u w : Int} (h : q9LINES M u w) (h1 : ∀ i : Nat, (i : Int) < u → ∀ k ∈ [22, 23, 25, 26, 27, 28], M' k i = M k i) (h2 : ∀ i : Nat, (i : Int) < w → ∀ k ∈ [30, 31], M' k i = M k i) : q9LINES M' u w := by
  refine ⟨fun i hi => ?_, fun i hi => ?_⟩
  · have h3 := h.1 i hi
    have e := h1 i hi
    unfold q9lnOK at h3 ⊢
    rw [e 22 (by decide), e 23 (by decide), e 25 (by decide), e 26 (by decide), e 27 (by decide), e 28 (by decide)]
    exact h3
  · have h3 := h.2 i hi
    have e := h2 i hi
    unfold q9acOK at h3 ⊢
    rw [e 30 (by decide), e 31 (by decide)]
    exact h3
/-- the place behind a line and what it repeats -/
noncomputable def q9enN (M : q9LM) (i : Nat) : Nat := (M 29 i).toInt.toNat
/-- the frames of a line; d: how deep repeats may stand in q9one another -/
noncomputable def q9lnP (M : q9LM) (P : Nat → Nat → Nat → Int → Prop) (d b : Nat) (z : Int) : Prop :=
  (((M 22 b).toInt = 0 ∨ (M 22 b).toInt = 1) ∧ 1 ≤ (M 23 b).toInt ∧ (M 23 b).toInt ≤ 200 ∧ z = (M 23 b).toInt) ∨
  (((M 22 b).toInt = 7 ∧ 1 ≤ (M 23 b).toInt ∧ (M 23 b).toInt ≤ 20 ∧ ∃ (d' : Nat) (i : Int), d = d' + 1 ∧ P d' (b + 1) (q9enN M b) i ∧ z = (M 23 b).toInt * i) ∨
  ((M 22 b).toInt ≠ 0 ∧ (M 22 b).toInt ≠ 1 ∧ (M 22 b).toInt ≠ 7 ∧ z = 0))
theorem q9lnP.mono {M : q9LM} {P P' : Nat → Nat → Nat → Int → Prop} (h : ∀ d b e c, P d b e c → P' d b e c) {d b : Nat} {z : Int} (hz : q9lnP M P d b z) : q9lnP M P' d b z := by
  rcases hz with hz | ⟨h1, h2, h3, d', i, h4, h5, h6⟩ | hz
  · exact .inl hz
  · exact .inr (.inl ⟨h1, h2, h3, d', i, h4, h _ _ _ _ h5, h6⟩)
  · exact .inr (.inr hz)
/-- the frames of a stretch of lines -/
noncomputable def q9cnF (M : q9LM) : Nat → Nat → Nat → Nat → Int → Prop
  | 0, _, b, e, c => b = e ∧ c = 0
  | n + 1, d, b, e, c => (b = e ∧ c = 0) ∨ ∃ z c' : Int, b < q9enN M b ∧ q9enN M b ≤ e ∧ c = z + c' ∧ q9cnF M n d (q9enN M b) e c' ∧ q9lnP M (q9cnF M n) d b z
theorem q9cnF_up {M : q9LM} : ∀ (n d b e : Nat) (c : Int), q9cnF M n d b e c → q9cnF M (n + 1) d b e c := by
  intro n
  induction n with
  | zero => intro d b e c h; exact .inl h
  | succ n ih =>
    intro d b e c h
    rcases h with h | ⟨z, c', h1, h2, h3, h4, h5⟩
    · exact .inl h
    · exact .inr ⟨z, c', h1, h2, h3, ih _ _ _ _ h4, h5.mono ih⟩
theorem q9cnF_add {M : q9LM} {n d b e : Nat} {c : Int} (h : q9cnF M n d b e c) : ∀ k : Nat, q9cnF M (n + k) d b e c
  | 0 => h
  | k + 1 => q9cnF_up _ _ _ _ _ (q9cnF_add h k)
noncomputable def q9CNT (M : q9LM) (d b e : Nat) (c : Int) : Prop := ∃ n, q9cnF M n d b e c
theorem q9CNT.nil {M : q9LM} {d b : Nat} : q9CNT M d b b 0 := ⟨0, rfl, rfl⟩
theorem q9CNT.cons {M : q9LM} {d b e : Nat} {z c' : Int} (h1 : b < q9enN M b) (h2 : q9enN M b ≤ e) (hc : q9CNT M d (q9enN M b) e c') (hz : q9lnP M (q9CNT M) d b z) : q9CNT M d b e (z + c') := by
  obtain ⟨n, hn⟩ := hc
  rcases hz with hz | ⟨k1, k2, k3, d', i, k4, ⟨k, k5⟩, k6⟩ | hz
  · exact ⟨n + 1, .inr ⟨z, c', h1, h2, rfl, hn, .inl hz⟩⟩
  · exact ⟨n + k + 1, .inr ⟨z, c', h1, h2, rfl, q9cnF_add hn k, .inr (.inl ⟨k1, k2, k3, d', i, k4, by rw [Nat.add_comm]; exact q9cnF_add k5 n, k6⟩)⟩⟩
  · exact ⟨n + 1, .inr ⟨z, c', h1, h2, rfl, hn, .inr (.inr hz)⟩⟩
theorem q9CNT.cut {M : q9LM} {d b e : Nat} {c : Int} (h : q9CNT M d b e c) : (b = e ∧ c = 0) ∨ ∃ z c' : Int, b < q9enN M b ∧ q9enN M b ≤ e ∧ c = z + c' ∧ q9CNT M d (q9enN M b) e c' ∧ q9lnP M (q9CNT M) d b z := by
  obtain ⟨n, h⟩ := h
  cases n with
  | zero => exact .inl h
  | succ n =>
    rcases h with h | ⟨z, c', h1, h2, h3, h4, h5⟩
    · exact .inl h
    · exact .inr ⟨z, c', h1, h2, h3, ⟨n, h4⟩, h5.mono fun _ _ _ _ y => ⟨n, y⟩⟩
theorem q9cnF_snoc {M : q9LM} {s : Nat} {z : Int} (hs : s < q9enN M s) : ∀ (n d b : Nat) (c : Int), q9cnF M n d b s c → q9lnP M (q9CNT M) d s z → q9CNT M d b (q9enN M s) (c + z) := by
  intro n
  have base : ∀ (d b : Nat) (c : Int), b = s ∧ c = 0 → q9lnP M (q9CNT M) d s z → q9CNT M d b (q9enN M s) (c + z) := by
    rintro d b c ⟨rfl, rfl⟩ hz
    have h := q9CNT.cons hs (Nat.le_refl _) q9CNT.nil hz
    rw [show (0 : Int) + z = z + 0 by omega]
    exact h
  induction n with
  | zero => intro d b c h hz; exact base d b c h hz
  | succ n ih =>
    intro d b c h hz
    rcases h with h | ⟨z', c', h1, h2, h3, h4, h5⟩
    · exact base d b c h hz
    · have h6 := q9CNT.cons h1 (Nat.le_trans h2 (Nat.le_of_lt hs)) (ih _ _ _ h4 hz) (h5.mono fun _ _ _ _ y => ⟨n, y⟩)
      rw [h3, Int.add_assoc]
      exact h6
theorem q9CNT.snoc {M : q9LM} {d b s : Nat} {c z : Int} (h : q9CNT M d b s c) (hs : s < q9enN M s) (hz : q9lnP M (q9CNT M) d s z) : q9CNT M d b (q9enN M s) (c + z) := by
  obtain ⟨n, h⟩ := h
  exact q9cnF_snoc hs n _ _ _ h hz
theorem q9cnF_le {M : q9LM} : ∀ (n d b e : Nat) (c : Int), q9cnF M n d b e c → b ≤ e := by
  intro n
  induction n with
  | zero => intro d b e c h; exact Nat.le_of_eq h.1
  | succ n ih =>
    intro d b e c h
    rcases h with h | ⟨z, c', h1, h2, h3, h4, h5⟩
    · exact Nat.le_of_eq h.1
    · exact Nat.le_trans (Nat.le_of_lt h1) h2
theorem q9CNT.le {M : q9LM} {d b e : Nat} {c : Int} (h : q9CNT M d b e c) : b ≤ e := by
  obtain ⟨n, h⟩ := h
  exact q9cnF_le n _ _ _ _ h
/-- what a line may tell at the most -/
noncomputable def q9cnB : Nat → Int
  | 0 => 200
  | d + 1 => 1220 * q9cnB d
theorem q9cnB_pos : ∀ d : Nat, 200 ≤ q9cnB d
  | 0 => by decide
  | d + 1 => by have := q9cnB_pos d; show 200 ≤ 1220 * q9cnB d; omega
theorem q9cnF_bd {M : q9LM} : ∀ (n d b e : Nat) (c : Int), q9cnF M n d b e c → e ≤ 60 → 0 ≤ c ∧ c ≤ ((e : Int) - b) * q9cnB d := by
  intro n
  induction n with
  | zero =>
    rintro d b e c ⟨rfl, rfl⟩ -
    rw [Int.sub_self, Int.zero_mul]
    omega
  | succ n ih =>
    intro d b e c h he
    rcases h with ⟨rfl, rfl⟩ | ⟨z, c', h1, h2, h3, h4, h5⟩
    · rw [Int.sub_self, Int.zero_mul]
      omega
    · obtain ⟨i1, i2⟩ := ih _ _ _ _ h4 he
      have hB := q9cnB_pos d
      have hz : 0 ≤ z ∧ z ≤ q9cnB d := by
        rcases h5 with ⟨-, k2, k3, k4⟩ | ⟨-, k2, k3, d', i, k4, k5, k6⟩ | ⟨-, -, -, k4⟩
        · omega
        · obtain ⟨j1, j2⟩ := ih _ _ _ _ k5 (Nat.le_trans h2 he)
          have hB' := q9cnB_pos d'
          have j3 : i ≤ 60 * q9cnB d' := Int.le_trans j2 (Int.mul_le_mul_of_nonneg_right (by omega) (by omega))
          have j4 : (M 23 b).toInt * i ≤ 20 * (60 * q9cnB d') := Int.mul_le_mul k3 j3 j1 (by omega)
          have j5 : 0 ≤ (M 23 b).toInt * i := Int.mul_nonneg (by omega) j1
          rw [k4, k6]
          show _ ∧ _ ≤ 1220 * q9cnB d'
          omega
        · omega
      have h6 : ((e : Int) - (q9enN M b : Nat) + 1) * q9cnB d ≤ ((e : Int) - b) * q9cnB d := Int.mul_le_mul_of_nonneg_right (by omega) (by omega)
      rw [Int.add_mul, Int.one_mul] at h6
      omega
theorem q9CNT.bd4 {M : q9LM} {d b e : Nat} {c : Int} (h : q9CNT M d b e c) (he : e ≤ 60) (hd : d ≤ 4) : 0 ≤ c ∧ c ≤ 26584014720000000 := by
  obtain ⟨n, h⟩ := h
  obtain ⟨h1, h2⟩ := q9cnF_bd n _ _ _ _ h he
  refine ⟨h1, Int.le_trans h2 ?_⟩
  have h3 : q9cnB d ≤ 443066912000000 := match d, hd with
    | 0, _ => by decide
    | 1, _ => by decide
    | 2, _ => by decide
    | 3, _ => by decide
    | 4, _ => by decide
  have h4 : ((e : Int) - b) * q9cnB d ≤ 60 * 443066912000000 := Int.mul_le_mul (by omega) h3 (by have := q9cnB_pos d; omega) (by omega)
  omega
theorem q9cnF_fr {M M' : q9LM} : ∀ (n d b e : Nat) (c : Int), q9cnF M n d b e c → (∀ i : Nat, b ≤ i → i < e → ∀ k ∈ [22, 23, 29], M' k i = M k i) → q9cnF M' n d b e c := by
  intro n
  induction n with
  | zero => intro d b e c h _; exact h
  | succ n ih =>
    intro d b e c h hM
    rcases h with h | ⟨z, c', h1, h2, h3, h4, h5⟩
    · exact .inl h
    · have hb : b < e := Nat.lt_of_lt_of_le h1 h2
      have e1 := hM b (Nat.le_refl _) hb 22 (by decide)
      have e2 := hM b (Nat.le_refl _) hb 23 (by decide)
      have e3 : q9enN M' b = q9enN M b := by unfold q9enN; rw [hM b (Nat.le_refl _) hb 29 (by decide)]
      refine .inr ⟨z, c', by rw [e3]; exact h1, by rw [e3]; exact h2, h3, by rw [e3]; exact ih _ _ _ _ h4 (fun j hj1 hj2 => hM j (by omega) hj2), ?_⟩
      unfold q9lnP at h5 ⊢
      rw [e1, e2, e3]
      rcases h5 with h5 | ⟨k1, k2, k3, d', i, k4, k5, k6⟩ | h5
      · exact .inl h5
      · exact .inr (.inl ⟨k1, k2, k3, d', i, k4, ih _ _ _ _ k5 (fun j hj1 hj2 => hM j (by omega) (by omega)), k6⟩)
      · exact .inr (.inr h5)
theorem q9CNT.fr {M M' : q9LM} {d b e : Nat} {c : Int} (h : q9CNT M d b e c) (hM : ∀ i : Nat, b ≤ i → i < e → ∀ k ∈ [22, 23, 29], M' k i = M k i) : q9CNT M' d b e c := by
  obtain ⟨n, h⟩ := h
  exact ⟨n, q9cnF_fr n _ _ _ _ h hM⟩
/-- the frames of q9one turn of a line, and what is q9left of it after k turns -/
noncomputable def q9TRN (M : q9LM) (d s : Nat) (i : Int) : Prop := (((M 22 s).toInt = 0 ∨ (M 22 s).toInt = 1) ∧ i = 1) ∨ ((M 22 s).toInt = 7 ∧ ∃ d' : Nat, d = d' + 1 ∧ q9CNT M d' (s + 1) (q9enN M s) i)
noncomputable def q9RLN (M : q9LM) (d s k : Nat) (c : Int) : Prop := (k : Int) ≤ (M 23 s).toInt ∧ ∃ i : Int, 0 ≤ i ∧ q9TRN M d s i ∧ c = ((M 23 s).toInt - k) * i
/-- repeats that are being read, q9one within another: where they stand (6 bits each of c), what stands ahead of each and in the last of them; b of them -/
noncomputable def q9STK (M : q9LM) : Nat → Nat → Nat → Prop
  | 0, _, e => ∃ c' : Int, q9CNT M 4 0 e c'
  | b + 1, c, e => q9STK M b (c / 64) (c % 64) ∧ b < 4 ∧ ∃ c' : Int, q9CNT M (3 - b) (c % 64 + 1) e c'
theorem q9STK.fr {M M' : q9LM} : ∀ (b c e : Nat), q9STK M b c e → (∀ i : Nat, i < e → ∀ k ∈ [22, 23, 29], M' k i = M k i) → q9STK M' b c e
  | 0, c, e, ⟨c', h⟩, hM => ⟨c', h.fr fun i _ hi => hM i hi⟩
  | b + 1, c, e, ⟨h1, h2, c', h3⟩, hM => by
    have := h3.le
    exact ⟨q9STK.fr b _ _ h1 (fun i hi => hM i (by omega)), h2, c', h3.fr fun i _ hi => hM i hi⟩
/-- no shot is shot farther than it goes (1; 2: as it is kept); what isn't told yet has no frames (3) -/
noncomputable def q9PRA (M : q9LM) (n b k : Int) : Prop := ∀ i : Nat, (i : Int) < k → (i : Int) ≠ b % 1000 - 1 → if b / 1000 = 3 then (n ≤ i → (M 44 i).toInt = 0) else (M (if b / 1000 = 1 then 48 else 108) i).toInt ≤ (M 44 i).toInt
noncomputable def q9JP (M : q9LM) (n c b z : Int) : Prop :=
  if 0 ≤ c then (if z < 1000 then q9LINES M b z else 0 ≤ b ∧ (if z < 7000 then q9CNT M (z.toNat / 1000 - 1) b.toNat (z.toNat % 1000) c else if z < 13000 then ∃ c' : Int, q9CNT M (z.toNat / 1000 - 7) b.toNat (z.toNat % 1000) c' else if z < 19000 then q9RLN M (z.toNat / 1000 - 13) b.toNat (z.toNat % 1000) c else q9STK M b.toNat c.toNat (z - 19000).toNat))
  else if c = -7 then q9PRA M n b z else if -100 < c then q9PRA M z b 12 else False
theorem q9JP_lines {M : q9LM} {n c b z : Int} (h : 0 ≤ c) (hz : z < 1000) : q9JP M n c b z = q9LINES M b z := by
  unfold q9JP
  rw [if_pos h, if_pos hz]
theorem q9JP_cnt {M : q9LM} {n c b z : Int} (h : 0 ≤ c) (hz : 1000 ≤ z) (hz' : z < 7000) : q9JP M n c b z = (0 ≤ b ∧ q9CNT M (z.toNat / 1000 - 1) b.toNat (z.toNat % 1000) c) := by
  unfold q9JP
  rw [if_pos h, if_neg (by omega), if_pos hz']
theorem q9JP_wn {M : q9LM} {n c b z : Int} (h : 0 ≤ c) (hz : 7000 ≤ z) (hz' : z < 13000) : q9JP M n c b z = (0 ≤ b ∧ ∃ c' : Int, q9CNT M (z.toNat / 1000 - 7) b.toNat (z.toNat % 1000) c') := by
  unfold q9JP
  rw [if_pos h, if_neg (by omega), if_neg (by omega), if_pos hz']
theorem q9JP_rl {M : q9LM} {n c b z : Int} (h : 0 ≤ c) (hz : 13000 ≤ z) (hz' : z < 19000) : q9JP M n c b z = (0 ≤ b ∧ q9RLN M (z.toNat / 1000 - 13) b.toNat (z.toNat % 1000) c) := by
  unfold q9JP
  rw [if_pos h, if_neg (by omega), if_neg (by omega), if_neg (by omega), if_pos hz']
theorem q9JP_st {M : q9LM} {n c b z : Int} (h : 0 ≤ c) (hz : 19000 ≤ z) : q9JP M n c b z = (0 ≤ b ∧ q9STK M b.toNat c.toNat (z - 19000).toNat) := by
  unfold q9JP
  rw [if_pos h, if_neg (by omega), if_neg (by omega), if_neg (by omega), if_neg (by omega)]
theorem q9JP_pr {M : q9LM} {n b z : Int} : q9JP M n (-7) b z = q9PRA M n b z := by
  unfold q9JP
  rw [if_neg (by omega), if_pos rfl]
theorem q9JP_px {M : q9LM} {n b z : Int} : q9JP M n (-8) b z = q9PRA M z b 12 := by
  unfold q9JP
  rw [if_neg (by omega), if_neg (by omega), if_pos (by omega)]
theorem q9JP_no {M : q9LM} {n c b z : Int} (hc : c ≤ -100) (h : q9JP M n c b z) : False := by
  unfold q9JP at h
  rw [if_neg (by omega), if_neg (by omega), if_neg (by omega)] at h
  exact h
/-- the reference's fields that these lie in, their codes -/
noncomputable def q9jF1 : List (Nat × Nat) := [(22, 178), (23, 179), (25, 181), (26, 182), (27, 183), (28, 184), (29, 185), (30, 186), (31, 187)]
noncomputable def q9jF2 : List (Nat × Nat) := [(44, 195), (48, 199), (108, 247)]
noncomputable def q9jF : List (Nat × Nat) := q9jF1 ++ q9jF2
noncomputable def q9jFc (c : Int) : List (Nat × Nat) := if 0 ≤ c then q9jF1 else q9jF2
theorem q9jFc_in {c : Int} {y : Nat × Nat} (h : y ∈ q9jFc c) : y ∈ q9jF := by
  unfold q9jFc at h
  split at h
  · exact List.mem_append_left _ h
  · exact List.mem_append_right _ h
/-- the kinds of the arrays that a family speaks of -/
noncomputable def q9afK (c : Int) : List Nat := if c = -147 ∨ c = -146 ∨ c = -148 then [151] else if c = -149 ∨ c = -139 ∨ c = -145 ∨ c = -144 then [201] else []
noncomputable def q9famK9_o (c : Int) : List Nat := if c = -157 then [100153, 462, 818, 100151, 100201] else if c = -159 then [100153, 462, 100151] else (q9afK c).map (fun k => 100000 + k)
noncomputable def q9famK9 (c : Int) : List Nat := bif q9de9 (c) (-157) then [100153, 462, 818, 100151, 100201] else bif q9de9 (c) (-159) then [100153, 462, 100151] else (q9afK c).map (fun k => 100000 + k)
theorem q9famK9_oq : @q9famK9 = @q9famK9_o := by
  delta q9famK9 q9famK9_o
  simp only [q9ge9_eq, q9fi9_eq, q9an9_eq, q9al9_eq, q9flt9_eq, q9el9_eq, q9set9_eq, q9ln9_eq, q9gD9_eq, q9ap9_eq, q9eq9_N, q9eq9_I, q9eq9_A, q9eq9_E, q9eq9_OI, q9eq9_ON, q9eq9_OA, q9eq9_L, q9eq9_S, q9de9_N, q9de9_I, q9de9_A, q9le9_N, q9le9_I, q9lt9_N, q9lt9_I, q9de9_E, q9de9_OI, q9de9_ON, q9de9_OA, q9de9_L, q9nd9_eq, q9or9_eq, Bool.cond_decide]
/-- what the facts of puppets hang on -/
noncomputable def q9famK4_o (c : Int) : List Nat := if c = -102 then [100152, 330, 778, 100175] else if c = -103 then [100152, 320, 770, 100167] else [100152]
noncomputable def q9famK4 (c : Int) : List Nat := bif q9de9 (c) (-102) then [100152, 330, 778, 100175] else bif q9de9 (c) (-103) then [100152, 320, 770, 100167] else [100152]
theorem q9famK4_oq : @q9famK4 = @q9famK4_o := by
  delta q9famK4 q9famK4_o
  simp only [q9ge9_eq, q9fi9_eq, q9an9_eq, q9al9_eq, q9flt9_eq, q9el9_eq, q9set9_eq, q9ln9_eq, q9gD9_eq, q9ap9_eq, q9eq9_N, q9eq9_I, q9eq9_A, q9eq9_E, q9eq9_OI, q9eq9_ON, q9eq9_OA, q9eq9_L, q9eq9_S, q9de9_N, q9de9_I, q9de9_A, q9le9_N, q9le9_I, q9lt9_N, q9lt9_I, q9de9_E, q9de9_OI, q9de9_ON, q9de9_OA, q9de9_L, q9nd9_eq, q9or9_eq, Bool.cond_decide]
noncomputable def q9famS_o (c : Int) : Option (Bool × List Nat × Nat × Bool) := if c = -104 then some (true, [165, 166], 1000, true) else if c = -105 then some (false, [177], 1000, true) else if c = -123 then some (false, [167], 1016, false) else if c = -124 then some (false, [178], 1050, false) else if c = -125 then some (false, [179], 1051, false) else if c = -130 then some (true, [166], 1058, false) else if c = -131 then some (false, [177], 1058, false) else none
noncomputable def q9famS (c : Int) : Option (Bool × List Nat × Nat × Bool) := bif q9de9 (c) (-104) then some (true, [165, 166], 1000, true) else bif q9de9 (c) (-105) then some (false, [177], 1000, true) else bif q9de9 (c) (-123) then some (false, [167], 1016, false) else bif q9de9 (c) (-124) then some (false, [178], 1050, false) else bif q9de9 (c) (-125) then some (false, [179], 1051, false) else bif q9de9 (c) (-130) then some (true, [166], 1058, false) else bif q9de9 (c) (-131) then some (false, [177], 1058, false) else none
theorem q9famS_oq : @q9famS = @q9famS_o := by
  delta q9famS q9famS_o
  simp only [q9ge9_eq, q9fi9_eq, q9an9_eq, q9al9_eq, q9flt9_eq, q9el9_eq, q9set9_eq, q9ln9_eq, q9gD9_eq, q9ap9_eq, q9eq9_N, q9eq9_I, q9eq9_A, q9eq9_E, q9eq9_OI, q9eq9_ON, q9eq9_OA, q9eq9_L, q9eq9_S, q9de9_N, q9de9_I, q9de9_A, q9le9_N, q9le9_I, q9lt9_N, q9lt9_I, q9de9_E, q9de9_OI, q9de9_ON, q9de9_OA, q9de9_L, q9nd9_eq, q9or9_eq, Bool.cond_decide]
noncomputable def q9famD_o (c : Int) : Option (Nat × Nat × Nat × Nat) := if c = -110 then some (141, 1024, 0, 0) else if c = -111 then some (141, 1024, 0, 1) else if c = -112 then some (141, 1024, 0, 2) else if c = -114 then some (142, 1025, 0, 0) else if c = -115 then some (142, 1025, 0, 1) else if c = -116 then some (142, 1025, 0, 2) else if c = -118 then some (140, 1023, 1, 0) else none
noncomputable def q9famD (c : Int) : Option (Nat × Nat × Nat × Nat) := bif q9de9 (c) (-110) then some (141, 1024, 0, 0) else bif q9de9 (c) (-111) then some (141, 1024, 0, 1) else bif q9de9 (c) (-112) then some (141, 1024, 0, 2) else bif q9de9 (c) (-114) then some (142, 1025, 0, 0) else bif q9de9 (c) (-115) then some (142, 1025, 0, 1) else bif q9de9 (c) (-116) then some (142, 1025, 0, 2) else bif q9de9 (c) (-118) then some (140, 1023, 1, 0) else none
theorem q9famD_oq : @q9famD = @q9famD_o := by
  delta q9famD q9famD_o
  simp only [q9ge9_eq, q9fi9_eq, q9an9_eq, q9al9_eq, q9flt9_eq, q9el9_eq, q9set9_eq, q9ln9_eq, q9gD9_eq, q9ap9_eq, q9eq9_N, q9eq9_I, q9eq9_A, q9eq9_E, q9eq9_OI, q9eq9_ON, q9eq9_OA, q9eq9_L, q9eq9_S, q9de9_N, q9de9_I, q9de9_A, q9le9_N, q9le9_I, q9lt9_N, q9lt9_I, q9de9_E, q9de9_OI, q9de9_ON, q9de9_OA, q9de9_L, q9nd9_eq, q9or9_eq, Bool.cond_decide]
noncomputable def q9famZ_o (c : Int) : Option (Nat × Nat) := if c = -126 then some (1022, 1023) else if c = -127 then some (1032, 1033) else none
noncomputable def q9famZ (c : Int) : Option (Nat × Nat) := bif q9de9 (c) (-126) then some (1022, 1023) else bif q9de9 (c) (-127) then some (1032, 1033) else none
theorem q9famZ_oq : @q9famZ = @q9famZ_o := by
  delta q9famZ q9famZ_o
  simp only [q9ge9_eq, q9fi9_eq, q9an9_eq, q9al9_eq, q9flt9_eq, q9el9_eq, q9set9_eq, q9ln9_eq, q9gD9_eq, q9ap9_eq, q9eq9_N, q9eq9_I, q9eq9_A, q9eq9_E, q9eq9_OI, q9eq9_ON, q9eq9_OA, q9eq9_L, q9eq9_S, q9de9_N, q9de9_I, q9de9_A, q9le9_N, q9le9_I, q9lt9_N, q9lt9_I, q9de9_E, q9de9_OI, q9de9_ON, q9de9_OA, q9de9_L, q9nd9_eq, q9or9_eq, Bool.cond_decide]
noncomputable def q9famK5_o (c : Int) : List Nat := match q9famS c with
  | some (_, cds, _, _) => cds.map (fun k => 100000 + k)
  | none => match q9famD c with
    | some (cd, _, _, _) => [100000 + cd]
    | none => match q9famZ c with
      | some _ => [100185]
      | none => if c = -106 then [100152, 320] else if c = -120 then [100136, 130] else if c = -122 then [100250] else if c = -150 then [100153] else if c = -151 then [100153] else if c = -152 then [100153, 453, 815, 100198] else if c = -153 then [100153, 448, 812, 100195] else if c = -155 then [100153, 451, 813, 100196] else if c = -121 then [100136] else q9famK9 c
noncomputable def q9famK5 (c : Int) : List Nat := match q9famS c with
  | some (_, cds, _, _) => cds.map (fun k => 100000 + k)
  | none => match q9famD c with
    | some (cd, _, _, _) => [100000 + cd]
    | none => match q9famZ c with
      | some _ => [100185]
      | none => bif q9de9 (c) (-106) then [100152, 320] else bif q9de9 (c) (-120) then [100136, 130] else bif q9de9 (c) (-122) then [100250] else bif q9de9 (c) (-150) then [100153] else bif q9de9 (c) (-151) then [100153] else bif q9de9 (c) (-152) then [100153, 453, 815, 100198] else bif q9de9 (c) (-153) then [100153, 448, 812, 100195] else bif q9de9 (c) (-155) then [100153, 451, 813, 100196] else bif q9de9 (c) (-121) then [100136] else q9famK9 c
theorem q9famK5_oq : @q9famK5 = @q9famK5_o := by
  delta q9famK5 q9famK5_o
  simp only [q9ge9_eq, q9fi9_eq, q9an9_eq, q9al9_eq, q9flt9_eq, q9el9_eq, q9set9_eq, q9ln9_eq, q9gD9_eq, q9ap9_eq, q9eq9_N, q9eq9_I, q9eq9_A, q9eq9_E, q9eq9_OI, q9eq9_ON, q9eq9_OA, q9eq9_L, q9eq9_S, q9de9_N, q9de9_I, q9de9_A, q9le9_N, q9le9_I, q9lt9_N, q9lt9_I, q9de9_E, q9de9_OI, q9de9_ON, q9de9_OA, q9de9_L, q9nd9_eq, q9or9_eq, Bool.cond_decide]
noncomputable def q9famK_o (c : Int) : List Nat := if -103 ≤ c then q9famK4 c else q9famK5 c
noncomputable def q9famK (c : Int) : List Nat := bif q9le9 (-103) (c) then q9famK4 c else q9famK5 c
theorem q9famK_oq : @q9famK = @q9famK_o := by
  delta q9famK q9famK_o
  simp only [q9ge9_eq, q9fi9_eq, q9an9_eq, q9al9_eq, q9flt9_eq, q9el9_eq, q9set9_eq, q9ln9_eq, q9gD9_eq, q9ap9_eq, q9eq9_N, q9eq9_I, q9eq9_A, q9eq9_E, q9eq9_OI, q9eq9_ON, q9eq9_OA, q9eq9_L, q9eq9_S, q9de9_N, q9de9_I, q9de9_A, q9le9_N, q9le9_I, q9lt9_N, q9lt9_I, q9de9_E, q9de9_OI, q9de9_ON, q9de9_OA, q9de9_L, q9nd9_eq, q9or9_eq, Bool.cond_decide]
noncomputable def q9jKc_o (c : Int) : List Nat := if c ≤ -100 then q9famK c else if c = -7 then (768 + 38) :: (q9jFc c).flatMap fun q => [768 + q.1, 100000 + q.2] else (q9jFc c).flatMap fun q => [768 + q.1, 100000 + q.2]
noncomputable def q9jKc (c : Int) : List Nat := bif q9le9 (c) (-100) then q9famK c else bif q9de9 (c) (-7) then (768 + 38) :: (q9jFc c).flatMap fun q => [768 + q.1, 100000 + q.2] else (q9jFc c).flatMap fun q => [768 + q.1, 100000 + q.2]
theorem q9jKc_oq : @q9jKc = @q9jKc_o := by
  delta q9jKc q9jKc_o
  simp only [q9ge9_eq, q9fi9_eq, q9an9_eq, q9al9_eq, q9flt9_eq, q9el9_eq, q9set9_eq, q9ln9_eq, q9gD9_eq, q9ap9_eq, q9eq9_N, q9eq9_I, q9eq9_A, q9eq9_E, q9eq9_OI, q9eq9_ON, q9eq9_OA, q9eq9_L, q9eq9_S, q9de9_N, q9de9_I, q9de9_A, q9le9_N, q9le9_I, q9lt9_N, q9lt9_I, q9de9_E, q9de9_OI, q9de9_ON, q9de9_OA, q9de9_L, q9nd9_eq, q9or9_eq, Bool.cond_decide]
theorem q9jFc_pos {c : Int} (h : 0 ≤ c) : q9jFc c = q9jF1 := if_pos h
theorem q9jKc_pos {c : Int} (h : 0 ≤ c) : q9jKc c = q9jF1.flatMap fun q => [768 + q.1, 100000 + q.2] := by
  have h7 : ¬ c = -7 := by omega
  have h9 : ¬ c ≤ -100 := by omega
  (rewrite [q9jKc_oq]; unfold q9jKc_o)
  rw [if_neg h9, if_neg h7, q9jFc_pos h]
noncomputable def q9nV (v : Value) : Option Int := match v with
  | .int x => some x.toInt
  | .long x => some x.toInt
  | _ => none
noncomputable def q9JA0 (G : q9GH) (ws : va_W) (v0 v1 v2 : Value) : Prop :=
  ∃ (q a n : Nat) (fs : List Value) (M : q9LM) (c : Int) (b z : Int32) (nn : Int), G[q]? = some (a, 12, n) ∧ ws[q]? = some (a, .inr (12, fs)) ∧ (∀ y ∈ q9jFc c, ∃ (i b k n' : Nat) (cA : ClassId), fs[y.1]? = some (.ref b) ∧ G[i]? = some (b, y.2, k) ∧ ws[i]? = some (b, .inl (cA, n', .inl (M y.1)))) ∧
    q9nV v0 = some c ∧ v1 = .int b ∧ v2 = .int z ∧ (c = -7 → ∃ u : Int32, fs[38]? = some (.int u) ∧ nn = u.toInt) ∧ q9JP M nn c b.toInt z.toInt
theorem q9JA0_ref {G : q9GH} {ws : va_W} {a : Nat} {v1 v2 : Value} (h : q9JA0 G ws (.ref a) v1 v2) : False := by
  obtain ⟨q, a, n, fs, M, c, b, z, nn, -, -, -, h, -⟩ := h
  cases h
theorem q9JA0_keep {Wr : List Nat} {G G' : q9GH} {ws ws' : va_W} (hX : q9extG G G') (hK : q9keepW Wr G ws ws') {v0 v1 v2 : Value} (hn : ∃ c : Int, q9nV v0 = some c ∧ ∀ y ∈ q9jKc c, y ∉ Wr) (h : q9JA0 G ws v0 v1 v2) : q9JA0 G' ws' v0 v1 v2 := by
  obtain ⟨q, a, n, fs, M, c, bb, z, nn, h1, h2, h3, h4, h5, h6, h7, h8⟩ := h
  obtain ⟨c9, n1, n2⟩ := hn
  rw [h4] at n1
  cases n1
  have h100 : ¬ c ≤ -100 := fun h => q9JP_no h h8
  have n3 : ∀ y ∈ q9jFc c, 768 + y.1 ∉ Wr ∧ 100000 + y.2 ∉ Wr := fun y hy => by
    have e1 : 768 + y.1 ∈ (q9jFc c).flatMap (fun q => [768 + q.1, 100000 + q.2]) := List.mem_flatMap.mpr ⟨y, hy, List.mem_cons_self⟩
    have e2 : 100000 + y.2 ∈ (q9jFc c).flatMap (fun q => [768 + q.1, 100000 + q.2]) := List.mem_flatMap.mpr ⟨y, hy, List.mem_cons_of_mem _ List.mem_cons_self⟩
    refine ⟨n2 _ ?_, n2 _ ?_⟩
    · (rewrite [q9jKc_oq]; unfold q9jKc_o)
      rw [if_neg h100]
      split
      · exact List.mem_cons_of_mem _ e1
      · exact e1
    · (rewrite [q9jKc_oq]; unfold q9jKc_o)
      rw [if_neg h100]
      split
      · exact List.mem_cons_of_mem _ e2
      · exact e2
  obtain ⟨e', f1, f2⟩ := hK q a 12 n _ h1 h2
  match e', f2 with
  | .inr (c', fs'), ⟨g1, g2, g3⟩ =>
    subst g1
    refine ⟨q, a, n, fs', M, c, bb, z, nn, hX.at h1, f1, fun y hy => ?_, h4, h5, h6, fun hc => ?_, h8⟩
    · obtain ⟨i, b, k, n', cA, k1, k2, k3⟩ := h3 y hy
      obtain ⟨e2, m1, m2⟩ := hK i b y.2 k _ k2 k3
      have hn1 : 64 * 12 + y.1 ∉ Wr := (n3 y hy).1
      have hn2 : 100000 + y.2 ∉ Wr := (n3 y hy).2
      match e2, m2 with
      | .inl y2, m2 =>
        have m2 := m2 hn2
        subst m2
        exact ⟨i, b, k, n', cA, by rw [g3 _ hn1]; exact k1, hX.at k2, m1⟩
    · obtain ⟨u, u1, u2⟩ := h7 hc
      have hn1 : 64 * 12 + 38 ∉ Wr := n2 _ (by
        (rewrite [q9jKc_oq]; unfold q9jKc_o)
        rw [if_neg h100, if_pos hc]
        exact List.mem_cons_self)
      exact ⟨u, by rw [g3 _ hn1]; exact u1, u2⟩
/-! what both sides hold of the puppets: families of facts, by a number's value -/
noncomputable def q9puA (G : q9GH) (ws : va_W) (a : Nat) (f : Nat → Option Nat) : Prop := ∃ (q k n' : Nat) (cA : ClassId), G[q]? = some (a, 152, k) ∧ ws[q]? = some (a, .inl (cA, n', .inr (.inr (.inr (.inr f)))))
noncomputable def q9inA (G : q9GH) (ws : va_W) (a cd : Nat) (M : Nat → Int32) : Prop := ∃ (q k n' : Nat) (cA : ClassId), G[q]? = some (a, cd, k) ∧ ws[q]? = some (a, .inl (cA, n', .inl M))
noncomputable def q9obA (G : q9GH) (ws : va_W) (a cd ci : Nat) (fs : List Value) : Prop := ∃ q n : Nat, G[q]? = some (a, cd, n) ∧ ws[q]? = some (a, .inr (ci, fs))
theorem q9puA.keep {Wr : List Nat} {G G' : q9GH} {ws ws' : va_W} (hX : q9extG G G') (hK : q9keepW Wr G ws ws') (hn : 100152 ∉ Wr) {a : Nat} {f : Nat → Option Nat} (h : q9puA G ws a f) : q9puA G' ws' a f := by
  obtain ⟨q, k, n', cA, h1, h2⟩ := h
  obtain ⟨e', f1, f2⟩ := hK q a 152 k _ h1 h2
  match e', f2 with
  | .inl y, f2 =>
    have f2 := f2 hn
    subst f2
    exact ⟨q, k, n', cA, hX.at h1, f1⟩
theorem q9inA.keep {Wr : List Nat} {G G' : q9GH} {ws ws' : va_W} (hX : q9extG G G') (hK : q9keepW Wr G ws ws') {a cd : Nat} (hn : 100000 + cd ∉ Wr) {M : Nat → Int32} (h : q9inA G ws a cd M) : q9inA G' ws' a cd M := by
  obtain ⟨q, k, n', cA, h1, h2⟩ := h
  obtain ⟨e', f1, f2⟩ := hK q a cd k _ h1 h2
  match e', f2 with
  | .inl y, f2 =>
    have f2 := f2 hn
    subst f2
    exact ⟨q, k, n', cA, hX.at h1, f1⟩
theorem q9obA.keep {Wr : List Nat} {G G' : q9GH} {ws ws' : va_W} (hX : q9extG G G') (hK : q9keepW Wr G ws ws') {a cd ci : Nat} {fs : List Value} (h : q9obA G ws a cd ci fs) : ∃ fs', q9obA G' ws' a cd ci fs' ∧ ∀ j : Nat, 64 * cd + j ∉ Wr → fs'[j]? = fs[j]? := by
  obtain ⟨q, n, h1, h2⟩ := h
  obtain ⟨e', f1, f2⟩ := hK q a cd n _ h1 h2
  match e', f2 with
  | .inr (c', fs'), ⟨g1, g2, g3⟩ =>
    subst g1
    exact ⟨fs', ⟨q, n, hX.at h1, f1⟩, g3⟩
/-- null from the count on, all different -/
noncomputable def q9PNA (G : q9GH) (ws : va_W) (v1 v2 : Value) : Prop := ∃ (a : Nat) (n : Int32) (f : Nat → Option Nat), v1 = .ref a ∧ v2 = .int n ∧ q9puA G ws a f ∧ 0 ≤ n.toInt ∧ n.toInt ≤ 8 ∧ (∀ i : Nat, i < 8 → (f i = none ↔ n.toInt ≤ i)) ∧ ∀ i j : Nat, i < 8 → j < 8 → f i = f j → f i ≠ none → i = j
/-- an object that isn't among them -/
noncomputable def q9PFR (G : q9GH) (ws : va_W) (v1 v2 : Value) : Prop := ∃ (o a : Nat) (f : Nat → Option Nat), v1 = .ref o ∧ v2 = .ref a ∧ q9puA G ws a f ∧ ∀ i : Nat, i < 8 → f i ≠ some o
/-- a number of each is the reference's, but of q9one (none: s - 1); s, the number's place, the place of the reference's array, its kind -/
noncomputable def q9PEQ (s cj rj rk : Nat) (G : q9GH) (ws : va_W) (v1 v2 : Value) : Prop := ∃ (a : Nat) (p : Int32) (f : Nat → Option Nat) (m : Nat) (fs : List Value) (b : Nat) (M : Nat → Int32), v1 = .ref a ∧ v2 = .int p ∧ q9puA G ws a f ∧ q9obA G ws m 12 12 fs ∧ fs[rj]? = some (.ref b) ∧ q9inA G ws b rk M ∧
  ∀ i : Nat, i < 8 → (i : Int) ≠ p.toInt - s → (f i = none → M i = 0) ∧ ∀ o : Nat, f i = some o → ∃ gs : List Value, q9obA G ws o 5 5 gs ∧ gs[cj]? = some (.int (M i))
noncomputable def q9FMP4 (c : Int) (G : q9GH) (ws : va_W) (v1 v2 : Value) : Prop := if c = -100 then q9PNA G ws v1 v2 else if c = -101 then q9PFR G ws v1 v2 else if c = -102 then q9PEQ 1000 10 10 175 G ws v1 v2 else if c = -103 then q9PEQ 2000 0 2 167 G ws v1 v2 else False
theorem q9PEQ.keep {s cj rj rk : Nat} {Wr : List Nat} {G G' : q9GH} {ws ws' : va_W} (hX : q9extG G G') (hK : q9keepW Wr G ws ws') (h1 : 100152 ∉ Wr) (h2 : 320 + cj ∉ Wr) (h3 : 768 + rj ∉ Wr) (h4 : 100000 + rk ∉ Wr) {v1 v2 : Value} (h : q9PEQ s cj rj rk G ws v1 v2) : q9PEQ s cj rj rk G' ws' v1 v2 := by
  obtain ⟨a, p, f, m, fs, b, M, e1, e2, e3, e4, e5, e6, e7⟩ := h
  obtain ⟨fs', k1, k2⟩ := e4.keep hX hK
  refine ⟨a, p, f, m, fs', b, M, e1, e2, e3.keep hX hK h1, k1, by rw [k2 _ h3]; exact e5, e6.keep hX hK h4, fun i hi hp => ⟨(e7 i hi hp).1, fun o ho => ?_⟩⟩
  obtain ⟨gs, g1, g2⟩ := (e7 i hi hp).2 o ho
  obtain ⟨gs', g3, g4⟩ := g1.keep hX hK
  exact ⟨gs', g3, by rw [g4 _ h2]; exact g2⟩
theorem q9FMP4.keep {Wr : List Nat} {G G' : q9GH} {ws ws' : va_W} (hX : q9extG G G') (hK : q9keepW Wr G ws ws') {c : Int} (hn : ∀ y ∈ q9famK4 c, y ∉ Wr) {v1 v2 : Value} (h : q9FMP4 c G ws v1 v2) : q9FMP4 c G' ws' v1 v2 := by
  unfold q9FMP4 at h ⊢
  split
  · rename_i hc
    rw [if_pos hc] at h
    subst hc
    obtain ⟨a, n, f, e1, e2, e3, e4⟩ := h
    exact ⟨a, n, f, e1, e2, e3.keep hX hK (hn _ (by decide)), e4⟩
  · rename_i hc
    rw [if_neg hc] at h
    split
    · rename_i hc2
      rw [if_pos hc2] at h
      subst hc2
      obtain ⟨o, a, f, e1, e2, e3, e4⟩ := h
      exact ⟨o, a, f, e1, e2, e3.keep hX hK (hn _ (by decide)), e4⟩
    · rename_i hc2
      rw [if_neg hc2] at h
      split
      · rename_i hc3
        rw [if_pos hc3] at h
        subst hc3
        exact h.keep hX hK (hn _ (by decide)) (hn _ (by decide)) (hn _ (by decide)) (hn _ (by decide))
      · rename_i hc3
        rw [if_neg hc3] at h
        split
        · rename_i hc4
          rw [if_pos hc4] at h
          subst hc4
          exact h.keep hX hK (hn _ (by decide)) (hn _ (by decide)) (hn _ (by decide)) (hn _ (by decide))
        · rename_i hc4
          rw [if_neg hc4] at h
          exact h
noncomputable def q9elV (e : va_E) (i : Nat) : Value := match e with
  | .inl (_, _, .inl f) => .int (f i)
  | .inl (_, _, .inr (.inl f)) => .long (f i)
  | .inl (_, _, .inr (.inr (.inr (.inr f)))) => va_rf (f i)
  | _ => .null
/-! what both sides read of a text: families of facts, their numbers by the oracle -/
noncomputable def q9arA (G : q9GH) (ws : va_W) (a cd : Nat) (e : va_E) : Prop := ∃ q k : Nat, G[q]? = some (a, cd, k) ∧ ws[q]? = some (a, e) ∧ ∃ y, e = .inl y
theorem q9arA.keep {Wr : List Nat} {G G' : q9GH} {ws ws' : va_W} (hX : q9extG G G') (hK : q9keepW Wr G ws ws') {a cd : Nat} (hn : 100000 + cd ∉ Wr) {e : va_E} (h : q9arA G ws a cd e) : q9arA G' ws' a cd e := by
  obtain ⟨q, k, h1, h2, y, rfl⟩ := h
  obtain ⟨e', f1, f2⟩ := hK q a cd k _ h1 h2
  match e', f2 with
  | .inl y', f2 =>
    have f2 := f2 hn
    subst f2
    exact ⟨q, k, hX.at h1, f1, y', rfl⟩
noncomputable def q9rfA (G : q9GH) (ws : va_W) (a : Nat) (f : Nat → Option Nat) : Prop := ∃ (q k n' : Nat) (cA : ClassId), G[q]? = some (a, 136, k) ∧ ws[q]? = some (a, .inl (cA, n', .inr (.inr (.inr (.inr f)))))
theorem q9rfA.keep {Wr : List Nat} {G G' : q9GH} {ws ws' : va_W} (hX : q9extG G G') (hK : q9keepW Wr G ws ws') (hn : 100136 ∉ Wr) {a : Nat} {f : Nat → Option Nat} (h : q9rfA G ws a f) : q9rfA G' ws' a f := by
  obtain ⟨q, k, n', cA, h1, h2⟩ := h
  obtain ⟨e', f1, f2⟩ := hK q a 136 k _ h1 h2
  match e', f2 with
  | .inl y, f2 =>
    have f2 := f2 hn
    subst f2
    exact ⟨q, k, n', cA, hX.at h1, f1⟩
theorem q9rfA.one {G : q9GH} {ws : va_W} {A : Nat → Prop} (hD : va_D A ws) {a : Nat} {f f' : Nat → Option Nat} (h1 : q9rfA G ws a f) (h2 : q9rfA G ws a f') : f = f' := by
  obtain ⟨q, k, n, cA, -, w1⟩ := h1
  obtain ⟨q', k', n', cA', -, w2⟩ := h2
  have hq : q = q' := hD.1 q q' _ _ w1 w2 rfl
  subst hq
  rw [w1] at w2
  cases w2
  rfl
theorem q9rfA.set {G : q9GH} {ws : va_W} {a qi b : Nat} {e e9 : va_E} {f : Nat → Option Nat} (h9 : ws[qi]? = some (b, e9)) (hne : a = b → ∃ x, e9 = .inr x) (h : q9rfA G ws a f) : q9rfA G (ws.set qi (b, e)) a f := by
  obtain ⟨q, k, n, cA, h1, h2⟩ := h
  refine ⟨q, k, n, cA, h1, ?_⟩
  rw [List.getElem?_set_ne]
  · exact h2
  · rintro rfl
    rw [h2] at h9
    cases h9
    obtain ⟨x, hx⟩ := hne rfl
    cases hx
theorem q9arA.set {G : q9GH} {ws : va_W} {a cd qi b : Nat} {e e' e9 : va_E} (h9 : ws[qi]? = some (b, e9)) (hne : a = b → ∃ x, e9 = .inr x) (h : q9arA G ws a cd e) : q9arA G (ws.set qi (b, e')) a cd e := by
  obtain ⟨q, k, h1, h2, y, rfl⟩ := h
  refine ⟨q, k, h1, ?_, y, rfl⟩
  rw [List.getElem?_set_ne]
  · exact h2
  · rintro rfl
    rw [h2] at h9
    cases h9
    obtain ⟨x, hx⟩ := hne rfl
    cases hx
noncomputable def q9rgA (G : q9GH) (ws : va_W) (a : Nat) (f : Nat → Option Nat) : Prop := ∃ (q k n' : Nat) (cA : ClassId), G[q]? = some (a, 250, k) ∧ ws[q]? = some (a, .inl (cA, n', .inr (.inr (.inr (.inr f)))))
/-- a line that isn't in the array that is being filled -/
noncomputable def q9PFL (G : q9GH) (ws : va_W) (v1 v2 : Value) : Prop := ∃ (o a : Nat) (f : Nat → Option Nat), v1 = .ref o ∧ v2 = .ref a ∧ q9rgA G ws a f ∧ ∀ i : Nat, i < 60 → f i ≠ some o
theorem q9rgA.keep {Wr : List Nat} {G G' : q9GH} {ws ws' : va_W} (hX : q9extG G G') (hK : q9keepW Wr G ws ws') (hn : 100250 ∉ Wr) {a : Nat} {f : Nat → Option Nat} (h : q9rgA G ws a f) : q9rgA G' ws' a f := by
  obtain ⟨q, k, n', cA, h1, h2⟩ := h
  obtain ⟨e', f1, f2⟩ := hK q a 250 k _ h1 h2
  match e', f2 with
  | .inl y, f2 =>
    have f2 := f2 hn
    subst f2
    exact ⟨q, k, n', cA, hX.at h1, f1⟩
noncomputable def q9shA (G : q9GH) (ws : va_W) (a : Nat) (f : Nat → Option Nat) : Prop := ∃ (q k n' : Nat) (cA : ClassId), G[q]? = some (a, 153, k) ∧ ws[q]? = some (a, .inl (cA, n', .inr (.inr (.inr (.inr f)))))
theorem q9shA.keep {Wr : List Nat} {G G' : q9GH} {ws ws' : va_W} (hX : q9extG G G') (hK : q9keepW Wr G ws ws') (hn : 100153 ∉ Wr) {a : Nat} {f : Nat → Option Nat} (h : q9shA G ws a f) : q9shA G' ws' a f := by
  obtain ⟨q, k, n', cA, h1, h2⟩ := h
  obtain ⟨e', f1, f2⟩ := hK q a 153 k _ h1 h2
  match e', f2 with
  | .inl y, f2 =>
    have f2 := f2 hn
    subst f2
    exact ⟨q, k, n', cA, hX.at h1, f1⟩
theorem q9shA.one {G : q9GH} {ws : va_W} {A : Nat → Prop} (hD : va_D A ws) {a : Nat} {f f' : Nat → Option Nat} (h1 : q9shA G ws a f) (h2 : q9shA G ws a f') : f = f' := by
  obtain ⟨q, k, n, cA, -, w1⟩ := h1
  obtain ⟨q', k', n', cA', -, w2⟩ := h2
  have hq : q = q' := hD.1 q q' _ _ w1 w2 rfl
  subst hq
  rw [w1] at w2
  cases w2
  rfl
theorem q9shA.set {G : q9GH} {ws : va_W} {a qi b : Nat} {e e9 : va_E} {f : Nat → Option Nat} (h9 : ws[qi]? = some (b, e9)) (hne : a = b → ∃ x, e9 = .inr x) (h : q9shA G ws a f) : q9shA G (ws.set qi (b, e)) a f := by
  obtain ⟨q, k, n, cA, h1, h2⟩ := h
  refine ⟨q, k, n, cA, h1, ?_⟩
  rw [List.getElem?_set_ne]
  · exact h2
  · rintro rfl
    rw [h2] at h9
    cases h9
    obtain ⟨x, hx⟩ := hne rfl
    cases hx
noncomputable def q9SNB (G : q9GH) (ws : va_W) (v1 v2 : Value) : Prop := ∃ (a : Nat) (n : Int32) (f : Nat → Option Nat), v1 = .ref a ∧ v2 = .int n ∧ q9shA G ws a f ∧ 0 ≤ n.toInt ∧ n.toInt ≤ 12 ∧ (∀ i : Nat, i < 12 → (f i = none ↔ n.toInt ≤ i)) ∧ ∀ i j : Nat, i < 12 → j < 12 → f i = f j → f i ≠ none → i = j
/-- an object that isn't among them -/
noncomputable def q9SFR (G : q9GH) (ws : va_W) (v1 v2 : Value) : Prop := ∃ (o a : Nat) (f : Nat → Option Nat), v1 = .ref o ∧ v2 = .ref a ∧ q9shA G ws a f ∧ ∀ i : Nat, i < 12 → f i ≠ some o
/-- the same number; for who is cast as many bits -/
noncomputable def q9eqC9 (rk : Nat) (u v : Int32) : Prop := if rk = 196 then q9pcN u.toBitVec.toNat 32 = q9pcN v.toBitVec.toNat 32 ∧ (0 ≤ u.toInt ∧ u.toInt ≤ 255) ∧ 0 ≤ v.toInt ∧ v.toInt ≤ 255 else u = v
theorem q9eqC9_rf {rk : Nat} {u : Int32} (h : rk ≠ 196 ∨ (0 ≤ u.toInt ∧ u.toInt ≤ 255)) : q9eqC9 rk u u := by
  unfold q9eqC9
  split
  · rename_i h2
    rcases h with h | h
    · exact absurd h2 h
    · exact ⟨rfl, h, h⟩
  · rfl
theorem q9eqC9_0 {rk : Nat} : q9eqC9 rk 0 0 := q9eqC9_rf (.inr (by decide))
theorem q9eqC9_eq {rk : Nat} {u v : Int32} (h : rk ≠ 196) (h2 : q9eqC9 rk u v) : u = v := by
  unfold q9eqC9 at h2
  rw [if_neg h] at h2
  exact h2
theorem q9eqC9_pc {u v : Int32} (h2 : q9eqC9 196 u v) : q9pcN u.toBitVec.toNat 32 = q9pcN v.toBitVec.toNat 32 ∧ (0 ≤ u.toInt ∧ u.toInt ≤ 255) ∧ 0 ≤ v.toInt ∧ v.toInt ≤ 255 := by
  unfold q9eqC9 at h2
  rw [if_pos rfl] at h2
  exact h2
theorem q9eqC9_mk {u v : Int32} (h : q9pcN u.toBitVec.toNat 32 = q9pcN v.toBitVec.toNat 32) (h1 : 0 ≤ u.toInt ∧ u.toInt ≤ 255) (h2 : 0 ≤ v.toInt ∧ v.toInt ≤ 255) : q9eqC9 196 u v := by
  unfold q9eqC9
  rw [if_pos rfl]
  exact ⟨h, h1, h2⟩
/-- a number of each is the reference's, but of q9one (none: s - 1); s, the number's place, the place of the reference's array, its kind -/
noncomputable def q9SEQ (s cj rj rk : Nat) (G : q9GH) (ws : va_W) (v1 v2 : Value) : Prop := ∃ (a : Nat) (p : Int32) (f : Nat → Option Nat) (m : Nat) (fs : List Value) (b : Nat) (M : Nat → Int32), v1 = .ref a ∧ v2 = .int p ∧ q9shA G ws a f ∧ q9obA G ws m 12 12 fs ∧ fs[rj]? = some (.ref b) ∧ q9inA G ws b rk M ∧
  ∀ i : Nat, i < 12 → (i : Int) ≠ p.toInt - s → (f i = none → M i = 0) ∧ ∀ o : Nat, f i = some o → ∃ (gs : List Value) (u : Int32), q9obA G ws o 7 7 gs ∧ gs[cj]? = some (.int u) ∧ q9eqC9 rk u (M i)
theorem q9SEQ.keep {s cj rj rk : Nat} {Wr : List Nat} {G G' : q9GH} {ws ws' : va_W} (hX : q9extG G G') (hK : q9keepW Wr G ws ws') (h1 : 100153 ∉ Wr) (h2 : 448 + cj ∉ Wr) (h3 : 768 + rj ∉ Wr) (h4 : 100000 + rk ∉ Wr) {v1 v2 : Value} (h : q9SEQ s cj rj rk G ws v1 v2) : q9SEQ s cj rj rk G' ws' v1 v2 := by
  obtain ⟨a, p, f, m, fs, b, M, e1, e2, e3, e4, e5, e6, e7⟩ := h
  obtain ⟨fs', k1, k2⟩ := e4.keep hX hK
  refine ⟨a, p, f, m, fs', b, M, e1, e2, e3.keep hX hK h1, k1, by rw [k2 _ h3]; exact e5, e6.keep hX hK h4, fun i hi hp => ⟨(e7 i hi hp).1, fun o ho => ?_⟩⟩
  obtain ⟨gs, u9, g1, g2, g9⟩ := (e7 i hi hp).2 o ho
  obtain ⟨gs', g3, g4⟩ := g1.keep hX hK
  exact ⟨gs', u9, g3, by rw [g4 _ h2]; exact g2, g9⟩
/-- the lines are all different -/
noncomputable def q9DIS (G : q9GH) (ws : va_W) (v1 v2 : Value) : Prop := ∃ (a : Nat) (f : Nat → Option Nat), v1 = .ref a ∧ q9rfA G ws a f ∧ ∀ i j : Nat, i < 60 → j < 60 → f i = f j → f i ≠ none → i = j
noncomputable def q9mskV (m : Bool) (x : Int32) : Int32 := if m = true then x &&& 255 else x
noncomputable def q9oI (f : Nat → Value → Value → Option Value) (op : Nat) (i : Int32) (v : Int32) : Prop := f op (.int i) (.int 0) = some (.int v)
/-- the first elements of an array of ints are the oracle's; fin: they are the whole text -/
noncomputable def q9EQF (O : ORC) (m : Bool) (cds : List Nat) (op : Nat) (fin : Bool) (G : q9GH) (ws : va_W) (v1 v2 : Value) : Prop := ∃ (a cd : Nat) (n : Int32) (M : Nat → Int32), v1 = .ref a ∧ v2 = .int n ∧ cd ∈ cds ∧ q9inA G ws a cd M ∧
  (∀ i : Nat, (i : Int) < n.toInt → q9oI O.1 op (Int32.ofNat i) (q9mskV m (M i))) ∧ (fin = true → 0 ≤ n.toInt ∧ q9oI O.1 1018 0 n ∧ ∀ i : Int32, n.toInt ≤ i.toInt → q9oI O.1 1000 i (-1))
/-- each puppet's joints -/
noncomputable def q9JOP (O : ORC) (G : q9GH) (ws : va_W) (v1 v2 : Value) : Prop := ∃ (a : Nat) (f : Nat → Option Nat), v1 = .ref a ∧ q9puA G ws a f ∧ ∀ i : Nat, i < 8 → ∀ o : Nat, f i = some o → ∃ (gs : List Value) (u : Int32), q9obA G ws o 5 5 gs ∧ gs[0]? = some (.int u) ∧ q9oI O.1 1016 (Int32.ofNat i) u
/-- by depth: the elements as far as the turn at a place is deep, but the lv last -/
noncomputable def q9FVF (O : ORC) (cd op lo lv : Nat) (G : q9GH) (ws : va_W) (v1 v2 : Value) : Prop := ∃ (a : Nat) (p : Int32) (e : va_E), v1 = .ref a ∧ v2 = .int p ∧ q9arA G ws a cd e ∧
  ∀ d : Int32, q9oI O.1 1021 p d → ∀ j : Nat, lo ≤ j → (j : Int) + lv ≤ d.toInt → O.1 op (.int p) (.int (Int32.ofNat j)) = some (q9elV e j)
/-- how many times each repeat among the first lines -/
noncomputable def q9AMF (O : ORC) (G : q9GH) (ws : va_W) (v1 v2 : Value) : Prop := ∃ (a : Nat) (z : Int32) (f : Nat → Option Nat), v1 = .ref a ∧ v2 = .int z ∧ q9rfA G ws a f ∧
  ∀ i : Nat, (i : Int) < z.toInt → q9oI O.1 1050 (Int32.ofNat i) 7 → ∃ (o : Nat) (gs : List Value) (u : Int32), f i = some o ∧ q9obA G ws o 2 2 gs ∧ gs[2]? = some (.int u) ∧ q9oI O.1 1051 (Int32.ofNat i) u
/-- where lines end, but of open repeats -/
noncomputable def q9ENF (O : ORC) (sz op : Nat) (G : q9GH) (ws : va_W) (v1 v2 : Value) : Prop := ∃ (a : Nat) (p : Int32) (M : Nat → Int32), v1 = .ref a ∧ v2 = .int p ∧ q9inA G ws a 185 M ∧
  ∀ z : Int32, q9oI O.1 sz p z → ∀ i : Nat, (i : Int) < z.toInt → (∀ j : Int32, 1 ≤ j.toInt → O.1 op (.int p) (.int j) ≠ some (.int (Int32.ofNat i))) → q9oI O.1 1052 (Int32.ofNat i) (M i)
/-! painted frames: arrays of ints by families; each shot's are the reference's -/
/-- as far as w (20000 and q9more: all but of q9one): from g on they are u, the others the oracle's -/
noncomputable def q9PVV (O : ORC) (u : Int32) (g w : Int) (M : Nat → Int32) : Prop := ∀ j : Nat, j < 400 → (j : Int) ≠ w - 20000 → if g ≤ (j : Int) ∧ (j : Int) < (if 20000 ≤ w then w - 20000 else w) then M j = u else q9oI O.1 1490 (Int32.ofNat j) (M j)
/-- what holds of the elements -/
noncomputable def q9afP (O : ORC) (c : Int) (n : Int32) (M : Nat → Int32) : Prop :=
  if c = -147 then ∀ j : Nat, j < 400 → M j = 0
  else if c = -149 then ∀ j : Nat, 400 * n.toInt ≤ (j : Int) → j < 4800 → M j = 0
  else if c = -139 then ∀ k : Int32, q9oI O.1 1063 (Int32.ofInt 1) k → 0 ≤ k.toInt → k.toInt ≤ 11 → ∀ j : Nat, j < 400 → q9oI O.1 1490 (Int32.ofNat j) (M (400 * k.toInt.toNat + j))
  else if c = -146 then ∃ g : Int32, q9oI O.1 1063 (Int32.ofInt 2) g ∧ q9PVV O 0 g.toInt n.toInt M
  else if c = -148 then ∃ g : Int32, q9oI O.1 1063 (Int32.ofInt 2) g ∧ q9PVV O 1 g.toInt n.toInt M
  else if c = -145 then ∃ g k : Int32, q9oI O.1 1063 (Int32.ofInt 2) g ∧ q9oI O.1 1063 (Int32.ofInt 1) k ∧ (0 ≤ k.toInt ∧ k.toInt ≤ 11) ∧ q9PVV O 0 g.toInt n.toInt (fun j => M (400 * k.toInt.toNat + j))
  else if c = -144 then ∃ g k : Int32, q9oI O.1 1063 (Int32.ofInt 2) g ∧ q9oI O.1 1063 (Int32.ofInt 1) k ∧ (0 ≤ k.toInt ∧ k.toInt ≤ 11) ∧ q9PVV O 1 g.toInt n.toInt (fun j => M (400 * k.toInt.toNat + j))
  else True
noncomputable def q9AFM (O : ORC) (c : Int) (G : q9GH) (ws : va_W) (v1 v2 : Value) : Prop := ∃ (a cd : Nat) (n : Int32) (M : Nat → Int32), v1 = .ref a ∧ v2 = .int n ∧ cd ∈ q9afK c ∧ q9inA G ws a cd M ∧ q9afP O c n M
/-- each shot's painted frames are the reference's, but of q9one (none: 12999); no q9two have q9one array -/
noncomputable def q9PNQ (G : q9GH) (ws : va_W) (v1 v2 : Value) : Prop := ∃ (a : Nat) (p : Int32) (f : Nat → Option Nat) (m : Nat) (fs : List Value) (b : Nat) (M : Nat → Int32) (be : Nat → Nat), v1 = .ref a ∧ v2 = .int p ∧ q9shA G ws a f ∧ q9obA G ws m 12 12 fs ∧ fs[50]? = some (.ref b) ∧ q9inA G ws b 201 M ∧
  (∀ i : Nat, i < 12 → ∀ o : Nat, f i = some o → ∃ (gs : List Value) (M' : Nat → Int32), q9obA G ws o 7 7 gs ∧ gs[14]? = some (.ref (be i)) ∧ q9inA G ws (be i) 151 M' ∧ ((i : Int) ≠ p.toInt - 13000 → ∀ j : Nat, j < 400 → M' j = M (400 * i + j))) ∧
  ∀ i j : Nat, i < 12 → j < 12 → f i ≠ none → f j ≠ none → be i = be j → i = j
/-- an array that is no shot's painted frames -/
noncomputable def q9PNF (G : q9GH) (ws : va_W) (v1 v2 : Value) : Prop := ∃ (b a : Nat) (f : Nat → Option Nat) (be : Nat → Nat) (M : Nat → Int32), v1 = .ref b ∧ v2 = .ref a ∧ q9inA G ws b 151 M ∧ q9shA G ws a f ∧ ∀ i : Nat, i < 12 → ∀ o : Nat, f i = some o → be i ≠ b ∧ ∃ gs : List Value, q9obA G ws o 7 7 gs ∧ gs[14]? = some (.ref (be i))
noncomputable def q9FM9 (O : ORC) (c : Int) (G : q9GH) (ws : va_W) (v1 v2 : Value) : Prop := if c = -157 then q9PNQ G ws v1 v2 else if c = -159 then q9PNF G ws v1 v2 else q9AFM O c G ws v1 v2
theorem q9afK_in {c : Int} {cd : Nat} (h : cd ∈ q9afK c) : cd = 151 ∨ cd = 201 := by
  unfold q9afK at h
  split at h
  · exact .inl (List.mem_singleton.mp h)
  · split at h
    · exact .inr (List.mem_singleton.mp h)
    · exact absurd h List.not_mem_nil
theorem q9FM9.keep {Wr : List Nat} {G G' : q9GH} {ws ws' : va_W} (hX : q9extG G G') (hK : q9keepW Wr G ws ws') {c : Int} (hn : ∀ y ∈ q9famK9 c, y ∉ Wr) {v1 v2 : Value} (h : q9FM9 O c G ws v1 v2) : q9FM9 O c G' ws' v1 v2 := by
  unfold q9FM9 at h ⊢
  (rewrite [q9famK9_oq] at hn; unfold q9famK9_o at hn)
  split
  · rename_i hc
    rw [if_pos hc] at h hn
    have n1 : 64 * 12 + 50 ∉ Wr := hn _ (by decide)
    have n2 : 64 * 7 + 14 ∉ Wr := hn _ (by decide)
    obtain ⟨a, p, f, m, fs, b, M, be, e1, e2, e3, e4, e5, e6, e7, e8⟩ := h
    obtain ⟨fs', k1, k2⟩ := e4.keep hX hK
    refine ⟨a, p, f, m, fs', b, M, be, e1, e2, e3.keep hX hK (hn _ (by decide)), k1, by rw [k2 _ n1]; exact e5, e6.keep hX hK (hn _ (by decide)), fun i hi o ho => ?_, e8⟩
    obtain ⟨gs, M', g1, g2, g3, g4⟩ := e7 i hi o ho
    obtain ⟨gs', g5, g6⟩ := g1.keep hX hK
    exact ⟨gs', M', g5, by rw [g6 _ n2]; exact g2, g3.keep hX hK (hn _ (by decide)), g4⟩
  · rename_i hc
    rw [if_neg hc] at h hn
    split
    · rename_i hc2
      rw [if_pos hc2] at h hn
      have n2 : 64 * 7 + 14 ∉ Wr := hn _ (by decide)
      obtain ⟨b, a, f, be, M, e1, e2, e0, e3, e4⟩ := h
      refine ⟨b, a, f, be, M, e1, e2, e0.keep hX hK (hn _ (by decide)), e3.keep hX hK (hn _ (by decide)), fun i hi o ho => ⟨(e4 i hi o ho).1, ?_⟩⟩
      obtain ⟨gs, g1, g2⟩ := (e4 i hi o ho).2
      obtain ⟨gs', g5, g6⟩ := g1.keep hX hK
      exact ⟨gs', g5, by rw [g6 _ n2]; exact g2⟩
    · rename_i hc2
      rw [if_neg hc2] at h hn
      obtain ⟨a, cd, n, M, e1, e2, e3, e4, e5⟩ := h
      exact ⟨a, cd, n, M, e1, e2, e3, e4.keep hX hK (hn _ (List.mem_map.mpr ⟨cd, e3, rfl⟩)), e5⟩
theorem q9FM9.re {G G' : q9GH} {ws : va_W} {N : Nat} (hN : ((20 ≤ N ∧ N < 100) ∨ 249 < N) ∧ N ≠ 250) (hk : ∀ (i : Nat) (y : Nat × Nat × Nat), G[i]? = some y → y.2.1 ≠ N → G'[i]? = some y) {c : Int} {v1 v2 : Value} (h : q9FM9 O c G ws v1 v2) : q9FM9 O c G' ws v1 v2 := by
  have hi : ∀ (a cd : Nat) (M : Nat → Int32), cd ≠ N → q9inA G ws a cd M → q9inA G' ws a cd M := fun a cd M hc ⟨q, k, n, cA, h1, h2⟩ => ⟨q, k, n, cA, hk _ _ h1 hc, h2⟩
  have ho : ∀ (a cd ci : Nat) (fs : List Value), cd ≠ N → q9obA G ws a cd ci fs → q9obA G' ws a cd ci fs := fun a cd ci fs hc ⟨q, n, h1, h2⟩ => ⟨q, n, hk _ _ h1 hc, h2⟩
  have hs : ∀ (a : Nat) (f : Nat → Option Nat), q9shA G ws a f → q9shA G' ws a f := fun a f ⟨q, k, n', cA, h1, h2⟩ => ⟨q, k, n', cA, hk _ _ h1 (by show 153 ≠ N; omega), h2⟩
  unfold q9FM9 at h ⊢
  split
  · rename_i hc
    rw [if_pos hc] at h
    obtain ⟨a, p, f, m, fs, b, M, be, e1, e2, e3, e4, e5, e6, e7, e8⟩ := h
    refine ⟨a, p, f, m, fs, b, M, be, e1, e2, hs _ _ e3, ho _ _ _ _ (by omega) e4, e5, hi _ _ _ (by omega) e6, fun i h1 o h2 => ?_, e8⟩
    obtain ⟨gs, M', g1, g2, g3, g4⟩ := e7 i h1 o h2
    exact ⟨gs, M', ho _ _ _ _ (by omega) g1, g2, hi _ _ _ (by omega) g3, g4⟩
  · rename_i hc
    rw [if_neg hc] at h
    split
    · rename_i hc2
      rw [if_pos hc2] at h
      obtain ⟨b, a, f, be, M, e1, e2, e0, e3, e4⟩ := h
      refine ⟨b, a, f, be, M, e1, e2, hi _ _ _ (by omega) e0, hs _ _ e3, fun i h1 o h2 => ⟨(e4 i h1 o h2).1, ?_⟩⟩
      obtain ⟨gs, g1, g2⟩ := (e4 i h1 o h2).2
      exact ⟨gs, ho _ _ _ _ (by omega) g1, g2⟩
    · rename_i hc2
      rw [if_neg hc2] at h
      obtain ⟨a, cd, n, M, e1, e2, e3, e4, e5⟩ := h
      exact ⟨a, cd, n, M, e1, e2, e3, hi _ _ _ (by have := q9afK_in e3; omega) e4, e5⟩
noncomputable def q9FM5 (O : ORC) (c : Int) (G : q9GH) (ws : va_W) (v1 v2 : Value) : Prop := match q9famS c with
  | some (m, cds, op, fin) => q9EQF O m cds op fin G ws v1 v2
  | none => match q9famD c with
    | some (cd, op, lo, lv) => q9FVF O cd op lo lv G ws v1 v2
    | none => match q9famZ c with
      | some (sz, op) => q9ENF O sz op G ws v1 v2
      | none => if c = -106 then q9JOP O G ws v1 v2 else if c = -120 then q9AMF O G ws v1 v2 else if c = -122 then q9PFL G ws v1 v2 else if c = -121 then q9DIS G ws v1 v2 else if c = -150 then q9SNB G ws v1 v2 else if c = -151 then q9SFR G ws v1 v2 else if c = -152 then q9SEQ 1000 5 47 198 G ws v1 v2 else if c = -153 then q9SEQ 5000 0 44 195 G ws v1 v2 else if c = -155 then q9SEQ 7000 3 45 196 G ws v1 v2 else q9FM9 O c G ws v1 v2
theorem q9EQF.keep {m : Bool} {cds : List Nat} {op : Nat} {fin : Bool} {Wr : List Nat} {G G' : q9GH} {ws ws' : va_W} (hX : q9extG G G') (hK : q9keepW Wr G ws ws') (hn : ∀ k ∈ cds, 100000 + k ∉ Wr) {v1 v2 : Value} (h : q9EQF O m cds op fin G ws v1 v2) : q9EQF O m cds op fin G' ws' v1 v2 := by
  obtain ⟨a, cd, n, M, e1, e2, e3, e4, e5⟩ := h
  exact ⟨a, cd, n, M, e1, e2, e3, e4.keep hX hK (hn _ e3), e5⟩
theorem q9FM5.keep {Wr : List Nat} {G G' : q9GH} {ws ws' : va_W} (hX : q9extG G G') (hK : q9keepW Wr G ws ws') {c : Int} (hn : ∀ y ∈ q9famK5 c, y ∉ Wr) {v1 v2 : Value} (h : q9FM5 O c G ws v1 v2) : q9FM5 O c G' ws' v1 v2 := by
  unfold q9FM5 at h ⊢
  (rewrite [q9famK5_oq] at hn; unfold q9famK5_o at hn)
  cases hs : q9famS c with
  | some q =>
    obtain ⟨m, cds, op, fin⟩ := q
    rw [hs] at h hn
    exact q9EQF.keep hX hK (fun k hk => hn _ (List.mem_map.mpr ⟨k, hk, rfl⟩)) h
  | none =>
    rw [hs] at h hn
    dsimp only at h hn ⊢
    cases hd : q9famD c with
    | some q =>
      obtain ⟨cd, op, lo, lv⟩ := q
      rw [hd] at h hn
      obtain ⟨a, p, e, e1, e2, e3, e4⟩ := h
      exact ⟨a, p, e, e1, e2, e3.keep hX hK (hn _ List.mem_cons_self), e4⟩
    | none =>
      rw [hd] at h hn
      dsimp only at h hn ⊢
      cases hz : q9famZ c with
      | some q =>
        obtain ⟨sz, op⟩ := q
        rw [hz] at h hn
        obtain ⟨a, p, M, e1, e2, e3, e4⟩ := h
        exact ⟨a, p, M, e1, e2, e3.keep hX hK (hn _ List.mem_cons_self), e4⟩
      | none =>
        rw [hz] at h hn
        dsimp only at h hn ⊢
        split
        · rename_i hc
          rw [if_pos hc] at h hn
          obtain ⟨a, f, e1, e2, e3⟩ := h
          refine ⟨a, f, e1, e2.keep hX hK (hn _ List.mem_cons_self), fun i hi o ho => ?_⟩
          obtain ⟨gs, u, g1, g2, g3⟩ := e3 i hi o ho
          obtain ⟨gs', k1, k2⟩ := g1.keep hX hK
          exact ⟨gs', u, k1, by rw [k2 0 (hn _ (List.mem_cons_of_mem _ List.mem_cons_self))]; exact g2, g3⟩
        · rename_i hc
          rw [if_neg hc] at h hn
          split
          · rename_i hc2
            rw [if_pos hc2] at h hn
            obtain ⟨a, z, f, e1, e2, e3, e4⟩ := h
            refine ⟨a, z, f, e1, e2, e3.keep hX hK (hn _ List.mem_cons_self), fun i hi hk => ?_⟩
            obtain ⟨o, gs, u, g0, g1, g2, g3⟩ := e4 i hi hk
            obtain ⟨gs', k1, k2⟩ := g1.keep hX hK
            exact ⟨o, gs', u, g0, k1, by rw [k2 2 (hn _ (List.mem_cons_of_mem _ List.mem_cons_self))]; exact g2, g3⟩
          · rename_i hc2
            rw [if_neg hc2] at h hn
            split
            · rename_i hc4
              rw [if_pos hc4] at h hn
              obtain ⟨o, a, f, e1, e2, e3, e4⟩ := h
              exact ⟨o, a, f, e1, e2, e3.keep hX hK (hn _ List.mem_cons_self), e4⟩
            · rename_i hc4
              rw [if_neg hc4] at h hn
              split
              · rename_i hc3
                rw [if_pos hc3] at h
                rw [if_neg (by omega), if_neg (by omega), if_neg (by omega), if_neg (by omega), if_neg (by omega), if_pos hc3] at hn
                obtain ⟨a, f, e1, e2, e3⟩ := h
                exact ⟨a, f, e1, e2.keep hX hK (hn _ List.mem_cons_self), e3⟩
              · rename_i hc3
                rw [if_neg hc3] at h
                split
                · rename_i hc6
                  rw [if_pos hc6] at h hn
                  obtain ⟨a, n, f, e1, e2, e3, e4⟩ := h
                  exact ⟨a, n, f, e1, e2, e3.keep hX hK (hn _ List.mem_cons_self), e4⟩
                · rename_i hc6
                  rw [if_neg hc6] at h hn
                  split
                  · rename_i hc7
                    rw [if_pos hc7] at h hn
                    obtain ⟨o, a, f, e1, e2, e3, e4⟩ := h
                    exact ⟨o, a, f, e1, e2, e3.keep hX hK (hn _ List.mem_cons_self), e4⟩
                  · rename_i hc7
                    rw [if_neg hc7] at h hn
                    split
                    · rename_i hc8
                      rw [if_pos hc8] at h hn
                      exact h.keep hX hK (hn _ (by decide)) (hn _ (by decide)) (hn _ (by decide)) (hn _ (by decide))
                    · rename_i hc8
                      rw [if_neg hc8] at h hn
                      split
                      · rename_i hc10
                        rw [if_pos hc10] at h hn
                        exact h.keep hX hK (hn _ (by decide)) (hn _ (by decide)) (hn _ (by decide)) (hn _ (by decide))
                      · rename_i hc10
                        rw [if_neg hc10] at h hn
                        split
                        · rename_i hc11
                          rw [if_pos hc11] at h hn
                          exact h.keep hX hK (hn _ (by decide)) (hn _ (by decide)) (hn _ (by decide)) (hn _ (by decide))
                        · rename_i hc11
                          rw [if_neg hc11] at h hn
                          rw [if_neg hc3] at hn
                          exact q9FM9.keep hX hK hn h
noncomputable def q9FMP (O : ORC) (c : Int) (G : q9GH) (ws : va_W) (v1 v2 : Value) : Prop := if -103 ≤ c then q9FMP4 c G ws v1 v2 else q9FM5 O c G ws v1 v2
theorem q9FMP.keep {Wr : List Nat} {G G' : q9GH} {ws ws' : va_W} (hX : q9extG G G') (hK : q9keepW Wr G ws ws') {c : Int} (hn : ∀ y ∈ q9famK c, y ∉ Wr) {v1 v2 : Value} (h : q9FMP O c G ws v1 v2) : q9FMP O c G' ws' v1 v2 := by
  unfold q9FMP at h ⊢
  (rewrite [q9famK_oq] at hn; unfold q9famK_o at hn)
  split
  · rename_i hc
    rw [if_pos hc] at h hn
    exact q9FMP4.keep hX hK hn h
  · rename_i hc
    rw [if_neg hc] at h hn
    exact q9FM5.keep hX hK hn h
theorem q9FMP_5 {c : Int} (hc : ¬ -103 ≤ c) {G : q9GH} {ws : va_W} {v1 v2 : Value} : q9FMP O c G ws v1 v2 = q9FM5 O c G ws v1 v2 := by
  unfold q9FMP
  rw [if_neg hc]
noncomputable def q9JF (O : ORC) (G : q9GH) (ws : va_W) (v0 v1 v2 : Value) : Prop := ∃ c : Int, q9nV v0 = some c ∧ c ≤ -100 ∧ q9FMP O c G ws v1 v2
noncomputable def q9JA (O : ORC) (G : q9GH) (ws : va_W) (v0 v1 v2 : Value) : Prop := q9JA0 G ws v0 v1 v2 ∨ q9JF O G ws v0 v1 v2
theorem q9JA_ref {G : q9GH} {ws : va_W} {a : Nat} {v1 v2 : Value} (h : q9JA O G ws (.ref a) v1 v2) : False := by
  rcases h with h | ⟨c, h, -⟩
  · exact q9JA0_ref h
  · cases h
theorem q9JA_keep {Wr : List Nat} {G G' : q9GH} {ws ws' : va_W} (hX : q9extG G G') (hK : q9keepW Wr G ws ws') {v0 v1 v2 : Value} (hn : ∃ c : Int, q9nV v0 = some c ∧ ∀ y ∈ q9jKc c, y ∉ Wr) (h : q9JA O G ws v0 v1 v2) : q9JA O G' ws' v0 v1 v2 := by
  rcases h with h | ⟨c, h1, h2, h3⟩
  · exact .inl (q9JA0_keep hX hK hn h)
  · obtain ⟨c', n1, n2⟩ := hn
    rw [h1] at n1
    cases n1
    refine .inr ⟨c, h1, h2, h3.keep hX hK fun y hy => n2 y ?_⟩
    (rewrite [q9jKc_oq]; unfold q9jKc_o)
    rw [if_pos h2]
    exact hy
/-- a fact of the lines or the shots -/
theorem q9JA.old {G : q9GH} {ws : va_W} {v0 v1 v2 : Value} {c : Int} (h : q9JA O G ws v0 v1 v2) (h1 : q9nV v0 = some c) (h2 : ¬ c ≤ -100) : q9JA0 G ws v0 v1 v2 := by
  rcases h with h | ⟨c', h3, h4, -⟩
  · exact h
  · rw [h1] at h3
    cases h3
    exact absurd h4 h2
/-- a fact of the puppets -/
theorem q9JA.new {G : q9GH} {ws : va_W} {v0 v1 v2 : Value} {c : Int} (h : q9JA O G ws v0 v1 v2) (h1 : q9nV v0 = some c) (h2 : c ≤ -100) : q9FMP O c G ws v1 v2 := by
  rcases h with ⟨q, a, n, fs, M, c', b, z, nn, -, -, -, h3, -, -, -, h4⟩ | ⟨c', h3, -, h4⟩
  · rw [h1] at h3
    cases h3
    exact (q9JP_no h2 h4).elim
  · rw [h1] at h3
    cases h3
    exact h4
/-- which numbers of the puppets the facts speak of: where its places begin, the field, the reference's field, its kind -/
noncomputable def q9pqC_o (c : Int) : Option (Nat × Nat × Nat × Nat) := if c = -102 then some (1000, 10, 10, 175) else if c = -103 then some (2000, 0, 2, 167) else none
noncomputable def q9pqC (c : Int) : Option (Nat × Nat × Nat × Nat) := bif q9de9 (c) (-102) then some (1000, 10, 10, 175) else bif q9de9 (c) (-103) then some (2000, 0, 2, 167) else none
theorem q9pqC_oq : @q9pqC = @q9pqC_o := by
  delta q9pqC q9pqC_o
  simp only [q9ge9_eq, q9fi9_eq, q9an9_eq, q9al9_eq, q9flt9_eq, q9el9_eq, q9set9_eq, q9ln9_eq, q9gD9_eq, q9ap9_eq, q9eq9_N, q9eq9_I, q9eq9_A, q9eq9_E, q9eq9_OI, q9eq9_ON, q9eq9_OA, q9eq9_L, q9eq9_S, q9de9_N, q9de9_I, q9de9_A, q9le9_N, q9le9_I, q9lt9_N, q9lt9_I, q9de9_E, q9de9_OI, q9de9_ON, q9de9_OA, q9de9_L, q9nd9_eq, q9or9_eq, Bool.cond_decide]
theorem q9pqC_le {c : Int} {q : Nat × Nat × Nat × Nat} (h : q9pqC c = some q) : c ≤ -100 := by
  (rewrite [q9pqC_oq] at h; unfold q9pqC_o at h)
  split at h
  · omega
  · split at h
    · omega
    · cases h
theorem q9pqC_ok {c : Int} {s cj rj rk : Nat} (h : q9pqC c = some (s, cj, rj, rk)) : c ≤ -100 ∧ ∀ (G : q9GH) (ws : va_W) (v1 v2 : Value), q9FMP O c G ws v1 v2 = q9PEQ s cj rj rk G ws v1 v2 := by
  (rewrite [q9pqC_oq] at h; unfold q9pqC_o at h)
  split at h
  · rename_i hc
    cases h
    subst hc
    exact ⟨by decide, fun _ _ _ _ => by unfold q9FMP; rw [if_pos (by decide)]; rfl⟩
  · split at h
    · rename_i hc
      cases h
      subst hc
      exact ⟨by decide, fun _ _ _ _ => by unfold q9FMP; rw [if_pos (by decide)]; rfl⟩
    · cases h
theorem q9FMP_pq {G : q9GH} {ws : va_W} {v1 v2 : Value} : q9FMP O (-157) G ws v1 v2 = q9PNQ G ws v1 v2 := by rw [q9FMP_5 (by decide)]; rfl
theorem q9FMP_pf {G : q9GH} {ws : va_W} {v1 v2 : Value} : q9FMP O (-159) G ws v1 v2 = q9PNF G ws v1 v2 := by rw [q9FMP_5 (by decide)]; rfl
theorem q9FMP_af {c : Int} (h : q9afK c ≠ []) {G : q9GH} {ws : va_W} {v1 v2 : Value} : q9FMP O c G ws v1 v2 = q9AFM O c G ws v1 v2 := by
  unfold q9afK at h
  split at h
  · rename_i hc
    rcases hc with rfl | rfl | rfl <;> (rw [q9FMP_5 (by decide)]; rfl)
  · split at h
    · rename_i hc
      rcases hc with rfl | rfl | rfl | rfl <;> (rw [q9FMP_5 (by decide)]; rfl)
    · exact absurd rfl h
noncomputable def q9pqS_o (c : Int) : Option (Nat × Nat × Nat × Nat) := if c = -152 then some (1000, 5, 47, 198) else if c = -153 then some (5000, 0, 44, 195) else if c = -155 then some (7000, 3, 45, 196) else none
noncomputable def q9pqS (c : Int) : Option (Nat × Nat × Nat × Nat) := bif q9de9 (c) (-152) then some (1000, 5, 47, 198) else bif q9de9 (c) (-153) then some (5000, 0, 44, 195) else bif q9de9 (c) (-155) then some (7000, 3, 45, 196) else none
theorem q9pqS_oq : @q9pqS = @q9pqS_o := by
  delta q9pqS q9pqS_o
  simp only [q9ge9_eq, q9fi9_eq, q9an9_eq, q9al9_eq, q9flt9_eq, q9el9_eq, q9set9_eq, q9ln9_eq, q9gD9_eq, q9ap9_eq, q9eq9_N, q9eq9_I, q9eq9_A, q9eq9_E, q9eq9_OI, q9eq9_ON, q9eq9_OA, q9eq9_L, q9eq9_S, q9de9_N, q9de9_I, q9de9_A, q9le9_N, q9le9_I, q9lt9_N, q9lt9_I, q9de9_E, q9de9_OI, q9de9_ON, q9de9_OA, q9de9_L, q9nd9_eq, q9or9_eq, Bool.cond_decide]
theorem q9pqS_le {c : Int} {q : Nat × Nat × Nat × Nat} (h : q9pqS c = some q) : c ≤ -100 := by
  (rewrite [q9pqS_oq] at h; unfold q9pqS_o at h)
  split at h
  · omega
  · split at h
    · omega
    · split at h
      · omega
      · cases h
theorem q9FMP_nb {G : q9GH} {ws : va_W} {v1 v2 : Value} : q9FMP O (-150) G ws v1 v2 = q9SNB G ws v1 v2 := by rw [q9FMP_5 (by decide)]; rfl
theorem q9FMP_fs {G : q9GH} {ws : va_W} {v1 v2 : Value} : q9FMP O (-151) G ws v1 v2 = q9SFR G ws v1 v2 := by rw [q9FMP_5 (by decide)]; rfl
theorem q9pqS_ok {c : Int} {s cj rj rk : Nat} (h : q9pqS c = some (s, cj, rj, rk)) : c ≤ -100 ∧ ∀ (G : q9GH) (ws : va_W) (v1 v2 : Value), q9FMP O c G ws v1 v2 = q9SEQ s cj rj rk G ws v1 v2 := by
  (rewrite [q9pqS_oq] at h; unfold q9pqS_o at h)
  split at h
  · rename_i hc
    subst hc
    cases h
    exact ⟨by decide, fun G ws v1 v2 => by rw [q9FMP_5 (by decide)]; rfl⟩
  · split at h
    · rename_i hc
      subst hc
      cases h
      exact ⟨by decide, fun G ws v1 v2 => by rw [q9FMP_5 (by decide)]; rfl⟩
    · split at h
      · rename_i hc
        subst hc
        cases h
        exact ⟨by decide, fun G ws v1 v2 => by rw [q9FMP_5 (by decide)]; rfl⟩
      · cases h
theorem q9FMP_na {G : q9GH} {ws : va_W} {v1 v2 : Value} : q9FMP O (-100) G ws v1 v2 = q9PNA G ws v1 v2 := by unfold q9FMP; rw [if_pos (by decide)]; rfl
theorem q9FMP_fr {G : q9GH} {ws : va_W} {v1 v2 : Value} : q9FMP O (-101) G ws v1 v2 = q9PFR G ws v1 v2 := by unfold q9FMP; rw [if_pos (by decide)]; rfl
theorem q9puA.one {G : q9GH} {ws : va_W} {A : Nat → Prop} (hD : va_D A ws) {a : Nat} {f f' : Nat → Option Nat} (h1 : q9puA G ws a f) (h2 : q9puA G ws a f') : f = f' := by
  obtain ⟨q, k, n, cA, -, w1⟩ := h1
  obtain ⟨q', k', n', cA', -, w2⟩ := h2
  have hq : q = q' := hD.1 q q' _ _ w1 w2 rfl
  subst hq
  rw [w1] at w2
  cases w2
  rfl
theorem q9inA.one {G : q9GH} {ws : va_W} {A : Nat → Prop} (hD : va_D A ws) {a cd cd' : Nat} {f f' : Nat → Int32} (h1 : q9inA G ws a cd f) (h2 : q9inA G ws a cd' f') : f = f' := by
  obtain ⟨q, k, n, cA, -, w1⟩ := h1
  obtain ⟨q', k', n', cA', -, w2⟩ := h2
  have hq : q = q' := hD.1 q q' _ _ w1 w2 rfl
  subst hq
  rw [w1] at w2
  cases w2
  rfl
theorem q9obA.one {G : q9GH} {ws : va_W} {A : Nat → Prop} (hD : va_D A ws) {a cd cd' ci ci' : Nat} {f f' : List Value} (h1 : q9obA G ws a cd ci f) (h2 : q9obA G ws a cd' ci' f') : f = f' ∧ ci = ci' := by
  obtain ⟨q, n, -, w1⟩ := h1
  obtain ⟨q', n', -, w2⟩ := h2
  have hq : q = q' := hD.1 q q' _ _ w1 w2 rfl
  subst hq
  rw [w1] at w2
  cases w2
  exact ⟨rfl, rfl⟩
/-- another cell is written -/
theorem q9puA.set {G : q9GH} {ws : va_W} {a qi b : Nat} {e e9 : va_E} {f : Nat → Option Nat} (h9 : ws[qi]? = some (b, e9)) (hne : a = b → ∃ x, e9 = .inr x) (h : q9puA G ws a f) : q9puA G (ws.set qi (b, e)) a f := by
  obtain ⟨q, k, n, cA, h1, h2⟩ := h
  refine ⟨q, k, n, cA, h1, ?_⟩
  rw [List.getElem?_set_ne]
  · exact h2
  · rintro rfl
    rw [h2] at h9
    cases h9
    obtain ⟨x, hx⟩ := hne rfl
    cases hx
theorem q9inA.set {G : q9GH} {ws : va_W} {a cd qi b : Nat} {e e9 : va_E} {f : Nat → Int32} (h9 : ws[qi]? = some (b, e9)) (hne : a = b → ∃ x, e9 = .inr x) (h : q9inA G ws a cd f) : q9inA G (ws.set qi (b, e)) a cd f := by
  obtain ⟨q, k, n, cA, h1, h2⟩ := h
  refine ⟨q, k, n, cA, h1, ?_⟩
  rw [List.getElem?_set_ne]
  · exact h2
  · rintro rfl
    rw [h2] at h9
    cases h9
    obtain ⟨x, hx⟩ := hne rfl
    cases hx
theorem q9obA.set {G : q9GH} {ws : va_W} {a cd ci qi b : Nat} {e e9 : va_E} {fs : List Value} (h9 : ws[qi]? = some (b, e9)) (hne : a = b → ∃ x, e9 = .inl x) (h : q9obA G ws a cd ci fs) : q9obA G (ws.set qi (b, e)) a cd ci fs := by
  obtain ⟨q, n, h1, h2⟩ := h
  refine ⟨q, n, h1, ?_⟩
  rw [List.getElem?_set_ne]
  · exact h2
  · rintro rfl
    rw [h2] at h9
    cases h9
    obtain ⟨x, hx⟩ := hne rfl
    cases hx
theorem q9JA_nV {G : q9GH} {ws : va_W} {v0 v1 v2 : Value} (h : q9JA O G ws v0 v1 v2) : ∃ c : Int, q9nV v0 = some c := by
  rcases h with ⟨q, a, n, fs, M, c, b, z, nn, -, -, -, h3, -⟩ | ⟨c, h3, -⟩
  · exact ⟨c, h3⟩
  · exact ⟨c, h3⟩
/-- a kind of object that none of these is of gets its name -/
theorem q9FMP4.re {G G' : q9GH} {ws : va_W} {N : Nat} (hN : N ≠ 152 ∧ N ≠ 12 ∧ N ≠ 5 ∧ N ≠ 167 ∧ N ≠ 175) (hk : ∀ (i : Nat) (y : Nat × Nat × Nat), G[i]? = some y → y.2.1 ≠ N → G'[i]? = some y) {c : Int} {v1 v2 : Value} (h : q9FMP4 c G ws v1 v2) : q9FMP4 c G' ws v1 v2 := by
  have hp : ∀ (a : Nat) (f : Nat → Option Nat), q9puA G ws a f → q9puA G' ws a f := fun a f ⟨q, k, n, cA, h1, h2⟩ => ⟨q, k, n, cA, hk _ _ h1 (by show 152 ≠ N; omega), h2⟩
  have hi : ∀ (a cd : Nat) (M : Nat → Int32), cd ≠ N → q9inA G ws a cd M → q9inA G' ws a cd M := fun a cd M hc ⟨q, k, n, cA, h1, h2⟩ => ⟨q, k, n, cA, hk _ _ h1 hc, h2⟩
  have ho : ∀ (a cd ci : Nat) (fs : List Value), cd ≠ N → q9obA G ws a cd ci fs → q9obA G' ws a cd ci fs := fun a cd ci fs hc ⟨q, n, h1, h2⟩ => ⟨q, n, hk _ _ h1 hc, h2⟩
  have he : ∀ s cj rj rk : Nat, rk ≠ N → q9PEQ s cj rj rk G ws v1 v2 → q9PEQ s cj rj rk G' ws v1 v2 := by
    rintro s cj rj rk hr ⟨a, p, f, m, fs, b, M, e1, e2, e3, e4, e5, e6, e7⟩
    refine ⟨a, p, f, m, fs, b, M, e1, e2, hp _ _ e3, ho _ _ _ _ (fun h => hN.2.1 h.symm) e4, e5, hi _ _ _ hr e6, fun i h1 h2 => ⟨(e7 i h1 h2).1, fun o h3 => ?_⟩⟩
    obtain ⟨gs, g1, g2⟩ := (e7 i h1 h2).2 o h3
    exact ⟨gs, ho _ _ _ _ (fun h => hN.2.2.1 h.symm) g1, g2⟩
  unfold q9FMP4 at h ⊢
  split
  · rename_i hc
    rw [if_pos hc] at h
    obtain ⟨a, n, f, e1, e2, e3, e4⟩ := h
    exact ⟨a, n, f, e1, e2, hp _ _ e3, e4⟩
  · rename_i hc
    rw [if_neg hc] at h
    split
    · rename_i hc2
      rw [if_pos hc2] at h
      obtain ⟨o, a, f, e1, e2, e3, e4⟩ := h
      exact ⟨o, a, f, e1, e2, hp _ _ e3, e4⟩
    · rename_i hc2
      rw [if_neg hc2] at h
      split
      · rename_i hc3
        rw [if_pos hc3] at h
        exact he _ _ _ _ (fun h => hN.2.2.2.2 h.symm) h
      · rename_i hc3
        rw [if_neg hc3] at h
        split
        · rename_i hc4
          rw [if_pos hc4] at h
          exact he _ _ _ _ (fun h => hN.2.2.2.1 h.symm) h
        · rename_i hc4
          rw [if_neg hc4] at h
          exact h
theorem q9FM5.re {G G' : q9GH} {ws : va_W} {N : Nat} (hN : ((20 ≤ N ∧ N < 100) ∨ 249 < N) ∧ N ≠ 250) (hk : ∀ (i : Nat) (y : Nat × Nat × Nat), G[i]? = some y → y.2.1 ≠ N → G'[i]? = some y) {c : Int} {v1 v2 : Value} (h : q9FM5 O c G ws v1 v2) : q9FM5 O c G' ws v1 v2 := by
  have hi : ∀ (a cd : Nat) (M : Nat → Int32), cd ≠ N → q9inA G ws a cd M → q9inA G' ws a cd M := fun a cd M hc ⟨q, k, n, cA, h1, h2⟩ => ⟨q, k, n, cA, hk _ _ h1 hc, h2⟩
  have ho : ∀ (a cd ci : Nat) (fs : List Value), cd ≠ N → q9obA G ws a cd ci fs → q9obA G' ws a cd ci fs := fun a cd ci fs hc ⟨q, n, h1, h2⟩ => ⟨q, n, hk _ _ h1 hc, h2⟩
  have hr : ∀ (a cd : Nat) (e : va_E), cd ≠ N → q9arA G ws a cd e → q9arA G' ws a cd e := fun a cd e hc ⟨q, k, h1, h2, h3⟩ => ⟨q, k, hk _ _ h1 hc, h2, h3⟩
  have hp : ∀ (a : Nat) (f : Nat → Option Nat), q9puA G ws a f → q9puA G' ws a f := fun a f ⟨q, k, n, cA, h1, h2⟩ => ⟨q, k, n, cA, hk _ _ h1 (by show 152 ≠ N; omega), h2⟩
  have hl : ∀ (a : Nat) (f : Nat → Option Nat), q9rfA G ws a f → q9rfA G' ws a f := fun a f ⟨q, k, n, cA, h1, h2⟩ => ⟨q, k, n, cA, hk _ _ h1 (by show 136 ≠ N; omega), h2⟩
  unfold q9FM5 at h ⊢
  cases hs : q9famS c with
  | some q =>
    obtain ⟨m, cds, op, fin⟩ := q
    rw [hs] at h
    obtain ⟨a, cd, n, M, e1, e2, e3, e4, e5⟩ := h
    refine ⟨a, cd, n, M, e1, e2, e3, hi _ _ _ ?_ e4, e5⟩
    have hb : ∀ k ∈ cds, 165 ≤ k ∧ k ≤ 179 := by
      (rewrite [q9famS_oq] at hs; unfold q9famS_o at hs)
      repeat' split at hs
      all_goals first
        | cases hs; decide
        | cases hs
    have := hb _ e3
    omega
  | none =>
    rw [hs] at h
    dsimp only at h ⊢
    cases hd : q9famD c with
    | some q =>
      obtain ⟨cd, op, lo, lv⟩ := q
      rw [hd] at h
      obtain ⟨a, p, e, e1, e2, e3, e4⟩ := h
      refine ⟨a, p, e, e1, e2, hr _ _ _ ?_ e3, e4⟩
      have hb : 140 ≤ cd ∧ cd ≤ 142 := by
        (rewrite [q9famD_oq] at hd; unfold q9famD_o at hd)
        repeat' split at hd
        all_goals first
          | cases hd; decide
          | cases hd
      omega
    | none =>
      rw [hd] at h
      dsimp only at h ⊢
      cases hz : q9famZ c with
      | some q =>
        obtain ⟨sz, op⟩ := q
        rw [hz] at h
        obtain ⟨a, p, M, e1, e2, e3, e4⟩ := h
        exact ⟨a, p, M, e1, e2, hi _ _ _ (by omega) e3, e4⟩
      | none =>
        rw [hz] at h
        dsimp only at h ⊢
        split
        · rename_i hc
          rw [if_pos hc] at h
          obtain ⟨a, f, e1, e2, e3⟩ := h
          refine ⟨a, f, e1, hp _ _ e2, fun i hi o hoo => ?_⟩
          obtain ⟨gs, u, g1, g2⟩ := e3 i hi o hoo
          exact ⟨gs, u, ho _ _ _ _ (by omega) g1, g2⟩
        · rename_i hc
          rw [if_neg hc] at h
          split
          · rename_i hc2
            rw [if_pos hc2] at h
            obtain ⟨a, z, f, e1, e2, e3, e4⟩ := h
            refine ⟨a, z, f, e1, e2, hl _ _ e3, fun i hi hk9 => ?_⟩
            obtain ⟨o, gs, u, g0, g1, g2⟩ := e4 i hi hk9
            exact ⟨o, gs, u, g0, ho _ _ _ _ (by omega) g1, g2⟩
          · rename_i hc2
            rw [if_neg hc2] at h
            split
            · rename_i hc4
              rw [if_pos hc4] at h
              obtain ⟨o, a, f, e1, e2, ⟨q, k, n, cA, h1, h2⟩, e4⟩ := h
              exact ⟨o, a, f, e1, e2, ⟨q, k, n, cA, hk _ _ h1 (by show 250 ≠ N; omega), h2⟩, e4⟩
            · rename_i hc4
              rw [if_neg hc4] at h
              split
              · rename_i hc3
                rw [if_pos hc3] at h
                obtain ⟨a, f, e1, e2, e3⟩ := h
                exact ⟨a, f, e1, hl _ _ e2, e3⟩
              · rename_i hc3
                rw [if_neg hc3] at h
                have hs : ∀ (a : Nat) (f : Nat → Option Nat), q9shA G ws a f → q9shA G' ws a f := fun a f ⟨q, k, n', cA, h1, h2⟩ => ⟨q, k, n', cA, hk _ _ h1 (by show 153 ≠ N; omega), h2⟩
                split
                · rename_i hc6
                  rw [if_pos hc6] at h
                  obtain ⟨a, n, f, e1, e2, e3, e4⟩ := h
                  exact ⟨a, n, f, e1, e2, hs _ _ e3, e4⟩
                · rename_i hc6
                  rw [if_neg hc6] at h
                  split
                  · rename_i hc7
                    rw [if_pos hc7] at h
                    obtain ⟨o, a, f, e1, e2, e3, e4⟩ := h
                    exact ⟨o, a, f, e1, e2, hs _ _ e3, e4⟩
                  · rename_i hc7
                    rw [if_neg hc7] at h
                    split
                    · rename_i hc8
                      rw [if_pos hc8] at h
                      obtain ⟨a, p, f, m, fs, b, M, e1, e2, e3, e4, e5, e6, e7⟩ := h
                      refine ⟨a, p, f, m, fs, b, M, e1, e2, hs _ _ e3, ho _ _ _ _ (by omega) e4, e5, hi _ _ _ (by omega) e6, fun i h1 h2 => ⟨(e7 i h1 h2).1, fun o h3 => ?_⟩⟩
                      obtain ⟨gs, u9, g1, g2, g9⟩ := (e7 i h1 h2).2 o h3
                      exact ⟨gs, u9, ho _ _ _ _ (by omega) g1, g2, g9⟩
                    · rename_i hc8
                      rw [if_neg hc8] at h
                      split
                      · rename_i hc10
                        rw [if_pos hc10] at h
                        obtain ⟨a, p, f, m, fs, b, M, e1, e2, e3, e4, e5, e6, e7⟩ := h
                        refine ⟨a, p, f, m, fs, b, M, e1, e2, hs _ _ e3, ho _ _ _ _ (by omega) e4, e5, hi _ _ _ (by omega) e6, fun i h1 h2 => ⟨(e7 i h1 h2).1, fun o h3 => ?_⟩⟩
                        obtain ⟨gs, u9, g1, g2, g9⟩ := (e7 i h1 h2).2 o h3
                        exact ⟨gs, u9, ho _ _ _ _ (by omega) g1, g2, g9⟩
                      · rename_i hc10
                        rw [if_neg hc10] at h
                        split
                        · rename_i hc11
                          rw [if_pos hc11] at h
                          obtain ⟨a, p, f, m, fs, b, M, e1, e2, e3, e4, e5, e6, e7⟩ := h
                          refine ⟨a, p, f, m, fs, b, M, e1, e2, hs _ _ e3, ho _ _ _ _ (by omega) e4, e5, hi _ _ _ (by omega) e6, fun i h1 h2 => ⟨(e7 i h1 h2).1, fun o h3 => ?_⟩⟩
                          obtain ⟨gs, u9, g1, g2, g9⟩ := (e7 i h1 h2).2 o h3
                          exact ⟨gs, u9, ho _ _ _ _ (by omega) g1, g2, g9⟩
                        · rename_i hc11
                          rw [if_neg hc11] at h
                          exact q9FM9.re hN hk h
theorem q9FMP.re {G G' : q9GH} {ws : va_W} {N : Nat} (hN : ((20 ≤ N ∧ N < 100) ∨ 249 < N) ∧ N ≠ 250) (hk : ∀ (i : Nat) (y : Nat × Nat × Nat), G[i]? = some y → y.2.1 ≠ N → G'[i]? = some y) {c : Int} {v1 v2 : Value} (h : q9FMP O c G ws v1 v2) : q9FMP O c G' ws v1 v2 := by
  unfold q9FMP at h ⊢
  split
  · rename_i hc
    rw [if_pos hc] at h
    exact q9FMP4.re (by omega) hk h
  · rename_i hc
    rw [if_neg hc] at h
    exact q9FM5.re hN hk h
/-- which of them a number's type tells -/
noncomputable def q9famT_o (t : q9ET) : Option Int := if t.1 ≤ 1 then (if 0 ≤ t.2.1 then some 0 else if t.2.1 = -7 ∧ t.2.2 = -7 then some (-7) else if t.2.1 = -8 ∧ t.2.2 = -8 then some (-8) else if t.2.1 ≤ -100 ∧ t.2.2 = t.2.1 then some t.2.1 else none) else none
noncomputable def q9famT (t : q9ET) : Option Int := bif q9le9 (t.1) (1) then (bif q9le9 (0) (t.2.1) then some 0 else if t.2.1 = -7 ∧ t.2.2 = -7 then some (-7) else if t.2.1 = -8 ∧ t.2.2 = -8 then some (-8) else if t.2.1 ≤ -100 ∧ t.2.2 = t.2.1 then some t.2.1 else none) else none
theorem q9famT_oq : @q9famT = @q9famT_o := by
  delta q9famT q9famT_o
  simp only [q9ge9_eq, q9fi9_eq, q9an9_eq, q9al9_eq, q9flt9_eq, q9el9_eq, q9set9_eq, q9ln9_eq, q9gD9_eq, q9ap9_eq, q9eq9_N, q9eq9_I, q9eq9_A, q9eq9_E, q9eq9_OI, q9eq9_ON, q9eq9_OA, q9eq9_L, q9eq9_S, q9de9_N, q9de9_I, q9de9_A, q9le9_N, q9le9_I, q9lt9_N, q9lt9_I, q9de9_E, q9de9_OI, q9de9_ON, q9de9_OA, q9de9_L, q9nd9_eq, q9or9_eq, Bool.cond_decide]
theorem q9famT_ok {G : q9GH} {t : q9ET} {v : Value} {c : Int} (h : q9famT t = some c) (hv : q9tyV G t v) : ∃ c' : Int, q9nV v = some c' ∧ q9jKc c' = q9jKc c ∧ q9jFc c' = q9jFc c ∧ (c = 0 → 0 ≤ c') ∧ (c ≠ 0 → c' = c) ∧ (c = 0 ∨ c = -7 ∨ c = -8 ∨ c ≤ -100) := by
  obtain ⟨k, lo, hi⟩ := t
  (rewrite [q9famT_oq] at h; unfold q9famT_o at h)
  split at h
  · rename_i hk
    have hk : k ≤ 1 := hk
    have key : ∃ c' : Int, q9nV v = some c' ∧ lo ≤ c' ∧ c' ≤ hi := by
      match k, hk, hv with
      | 0, _, ⟨x, e, a1, a2⟩ => exact ⟨x.toInt, by rw [e]; rfl, a1, a2⟩
      | 1, _, ⟨x, e, a1, a2⟩ => exact ⟨x.toInt, by rw [e]; rfl, a1, a2⟩
    obtain ⟨c', e1, e2, e3⟩ := key
    dsimp only at h
    refine ⟨c', e1, ?_⟩
    split at h
    · cases h
      have h0 : 0 ≤ c' := by omega
      refine ⟨?_, ?_, fun _ => h0, fun h9 => absurd rfl h9, .inl rfl⟩
      · rw [q9jKc_pos h0, q9jKc_pos (Int.le_refl 0)]
      · rw [q9jFc_pos h0, q9jFc_pos (Int.le_refl 0)]
    · split at h
      · cases h
        have h0 : c' = -7 := by omega
        exact ⟨by rw [h0], by rw [h0], fun h9 => by omega, fun _ => h0, .inr (.inl rfl)⟩
      · split at h
        · cases h
          have h0 : c' = -8 := by omega
          exact ⟨by rw [h0], by rw [h0], fun h9 => by omega, fun _ => h0, .inr (.inr (.inl rfl))⟩
        · split at h
          · rename_i hq
            have hc9 : lo = c := Option.some.inj h
            have h0 : c' = c := by omega
            exact ⟨by rw [h0], by rw [h0], fun h9 => by omega, fun _ => h0, .inr (.inr (.inr (by omega)))⟩
          · cases h
  · cases h
/-- of a symbol that is a number, from a state that is q9left -/
noncomputable def q9jB_o (Wr : List Nat) (E : List q9ET) (k : Nat) : Bool := match E[k]? with
  | some t => (match q9famT t with
    | some c => (q9jKc c).all (fun z => !(Wr.elem z))
    | none => false)
  | none => false
noncomputable def q9jB (Wr : List Nat) (E : List q9ET) (k : Nat) : Bool := match (q9ge9 E (k)) with
  | some t => (match q9famT t with
    | some c => q9al9 (q9jKc c) (fun z => !(q9el9 Wr z))
    | none => false)
  | none => false
theorem q9jB_oq : @q9jB = @q9jB_o := by
  delta q9jB q9jB_o
  simp only [q9ge9_eq, q9fi9_eq, q9an9_eq, q9al9_eq, q9flt9_eq, q9el9_eq, q9set9_eq, q9ln9_eq, q9gD9_eq, q9ap9_eq, q9eq9_N, q9eq9_I, q9eq9_A, q9eq9_E, q9eq9_OI, q9eq9_ON, q9eq9_OA, q9eq9_L, q9eq9_S, q9de9_N, q9de9_I, q9de9_A, q9le9_N, q9le9_I, q9lt9_N, q9lt9_I, q9de9_E, q9de9_OI, q9de9_ON, q9de9_OA, q9de9_L, q9nd9_eq, q9or9_eq, Bool.cond_decide]
theorem q9jB_ok {G : q9GH} {Wr : List Nat} {E : List q9ET} {r : Nat → Value} (hS : q9SAT G E r) {k : Nat} (h : q9jB Wr E k = true) : ∃ c : Int, q9nV (r k) = some c ∧ ∀ z ∈ q9jKc c, z ∉ Wr := by
  (rewrite [q9jB_oq] at h; unfold q9jB_o at h)
  split at h
  · rename_i t ht
    split at h
    · rename_i c hc
      obtain ⟨c', e1, e2, -⟩ := q9famT_ok hc (hS k t ht)
      refine ⟨c', e1, fun z hz hw => ?_⟩
      rw [e2] at hz
      have := List.all_eq_true.mp h z hz
      rw [List.elem_iff.mpr hw] at this
      cases this
    · cases h
  · cases h
