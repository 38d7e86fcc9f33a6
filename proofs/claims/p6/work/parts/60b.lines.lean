/-! what is known of the reference's lines, as far as they are read: ranges; how many frames a stretch of them tells; how much of a shot is shot -/
abbrev q9LM : Type := Nat → Nat → Int32
noncomputable def q9lnOK (M : q9LM) (ac : Int) (i : Nat) : Prop :=
  ((M 22 i).toInt = 0 → 1 ≤ (M 23 i).toInt ∧ (M 23 i).toInt ≤ 200) ∧
  ((M 22 i).toInt = 1 → 1 ≤ (M 23 i).toInt ∧ (M 23 i).toInt ≤ 200 ∧ 0 ≤ (M 27 i).toInt ∧ 0 ≤ (M 28 i).toInt ∧ (M 27 i).toInt + (M 28 i).toInt ≤ ac) ∧
  ((M 22 i).toInt = 2 → 0 ≤ (M 25 i).toInt ∧ (M 25 i).toInt ≤ 7 ∧ 0 ≤ (M 26 i).toInt ∧ (M 26 i).toInt ≤ 400 ∧ 0 ≤ (M 28 i).toInt ∧ (M 28 i).toInt ≤ 20 ∧ 0 ≤ (M 27 i).toInt ∧ (M 27 i).toInt + (M 28 i).toInt ≤ 400) ∧
  ((M 22 i).toInt = 6 → 0 ≤ (M 25 i).toInt ∧ (M 25 i).toInt ≤ 2 ∧ 1 ≤ (M 23 i).toInt ∧ (M 23 i).toInt ≤ 400) ∧
  ((M 22 i).toInt = 7 → 1 ≤ (M 23 i).toInt ∧ (M 23 i).toInt ≤ 20)
noncomputable def q9acOK (M : q9LM) (i : Nat) : Prop := 0 ≤ (M 30 i).toInt ∧ (M 30 i).toInt ≤ 7 ∧ 0 ≤ (M 31 i).toInt ∧ (M 31 i).toInt ≤ 11
noncomputable def q9LINES (M : q9LM) (u w : Int) : Prop := (∀ i : Nat, (i : Int) < u → q9lnOK M w i) ∧ ∀ i : Nat, (i : Int) < w → q9acOK M i
theorem q9LINES.fr {M M' : q9LM} {u w : Int} (h : q9LINES M u w) (h1 : ∀ i : Nat, (i : Int) < u → ∀ k ∈ [22, 23, 25, 26, 27, 28], M' k i = M k i) (h2 : ∀ i : Nat, (i : Int) < w → ∀ k ∈ [30, 31], M' k i = M k i) : q9LINES M' u w := by
  refine ⟨fun i hi => ?_, fun i hi => ?_⟩
  · have h3 := h.1 i hi
    have e := h1 i hi
    unfold q9lnOK at h3 ⊢
    rw [e 22 (by decide), e 23 (by decide), e 25 (by decide), e 26 (by decide), e 27 (by decide), e 28 (by decide)]
    exact h3
  · have h3 := h.2 i hi
    have e := h2 i hi
    unfold q9acOK at h3 ⊢
    rw [e 30 (by decide), e 31 (by decide)]
    exact h3
/-- the place behind a line and what it repeats -/
noncomputable def q9enN (M : q9LM) (i : Nat) : Nat := (M 29 i).toInt.toNat
/-- the frames of a line; d: how deep repeats may stand in q9one another -/
noncomputable def q9lnP (M : q9LM) (P : Nat → Nat → Nat → Int → Prop) (d b : Nat) (z : Int) : Prop :=
  (((M 22 b).toInt = 0 ∨ (M 22 b).toInt = 1) ∧ 1 ≤ (M 23 b).toInt ∧ (M 23 b).toInt ≤ 200 ∧ z = (M 23 b).toInt) ∨
  (((M 22 b).toInt = 7 ∧ 1 ≤ (M 23 b).toInt ∧ (M 23 b).toInt ≤ 20 ∧ ∃ (d' : Nat) (i : Int), d = d' + 1 ∧ P d' (b + 1) (q9enN M b) i ∧ z = (M 23 b).toInt * i) ∨
  ((M 22 b).toInt ≠ 0 ∧ (M 22 b).toInt ≠ 1 ∧ (M 22 b).toInt ≠ 7 ∧ z = 0))
theorem q9lnP.mono {M : q9LM} {P P' : Nat → Nat → Nat → Int → Prop} (h : ∀ d b e c, P d b e c → P' d b e c) {d b : Nat} {z : Int} (hz : q9lnP M P d b z) : q9lnP M P' d b z := by
  rcases hz with hz | ⟨h1, h2, h3, d', i, h4, h5, h6⟩ | hz
  · exact .inl hz
  · exact .inr (.inl ⟨h1, h2, h3, d', i, h4, h _ _ _ _ h5, h6⟩)
  · exact .inr (.inr hz)
/-- the frames of a stretch of lines -/
noncomputable def q9cnF (M : q9LM) : Nat → Nat → Nat → Nat → Int → Prop
  | 0, _, b, e, c => b = e ∧ c = 0
  | n + 1, d, b, e, c => (b = e ∧ c = 0) ∨ ∃ z c' : Int, b < q9enN M b ∧ q9enN M b ≤ e ∧ c = z + c' ∧ q9cnF M n d (q9enN M b) e c' ∧ q9lnP M (q9cnF M n) d b z
theorem q9cnF_up {M : q9LM} : ∀ (n d b e : Nat) (c : Int), q9cnF M n d b e c → q9cnF M (n + 1) d b e c := by
  intro n
  induction n with
  | zero => intro d b e c h; exact .inl h
  | succ n ih =>
    intro d b e c h
    rcases h with h | ⟨z, c', h1, h2, h3, h4, h5⟩
    · exact .inl h
    · exact .inr ⟨z, c', h1, h2, h3, ih _ _ _ _ h4, h5.mono ih⟩
theorem q9cnF_add {M : q9LM} {n d b e : Nat} {c : Int} (h : q9cnF M n d b e c) : ∀ k : Nat, q9cnF M (n + k) d b e c
  | 0 => h
  | k + 1 => q9cnF_up _ _ _ _ _ (q9cnF_add h k)
noncomputable def q9CNT (M : q9LM) (d b e : Nat) (c : Int) : Prop := ∃ n, q9cnF M n d b e c
theorem q9CNT.nil {M : q9LM} {d b : Nat} : q9CNT M d b b 0 := ⟨0, rfl, rfl⟩
theorem q9CNT.cons {M : q9LM} {d b e : Nat} {z c' : Int} (h1 : b < q9enN M b) (h2 : q9enN M b ≤ e) (hc : q9CNT M d (q9enN M b) e c') (hz : q9lnP M (q9CNT M) d b z) : q9CNT M d b e (z + c') := by
  obtain ⟨n, hn⟩ := hc
  rcases hz with hz | ⟨k1, k2, k3, d', i, k4, ⟨k, k5⟩, k6⟩ | hz
  · exact ⟨n + 1, .inr ⟨z, c', h1, h2, rfl, hn, .inl hz⟩⟩
  · exact ⟨n + k + 1, .inr ⟨z, c', h1, h2, rfl, q9cnF_add hn k, .inr (.inl ⟨k1, k2, k3, d', i, k4, by rw [Nat.add_comm]; exact q9cnF_add k5 n, k6⟩)⟩⟩
  · exact ⟨n + 1, .inr ⟨z, c', h1, h2, rfl, hn, .inr (.inr hz)⟩⟩
theorem q9CNT.cut {M : q9LM} {d b e : Nat} {c : Int} (h : q9CNT M d b e c) : (b = e ∧ c = 0) ∨ ∃ z c' : Int, b < q9enN M b ∧ q9enN M b ≤ e ∧ c = z + c' ∧ q9CNT M d (q9enN M b) e c' ∧ q9lnP M (q9CNT M) d b z := by
  obtain ⟨n, h⟩ := h
  cases n with
  | zero => exact .inl h
  | succ n =>
    rcases h with h | ⟨z, c', h1, h2, h3, h4, h5⟩
    · exact .inl h
    · exact .inr ⟨z, c', h1, h2, h3, ⟨n, h4⟩, h5.mono fun _ _ _ _ y => ⟨n, y⟩⟩
theorem q9cnF_snoc {M : q9LM} {s : Nat} {z : Int} (hs : s < q9enN M s) : ∀ (n d b : Nat) (c : Int), q9cnF M n d b s c → q9lnP M (q9CNT M) d s z → q9CNT M d b (q9enN M s) (c + z) := by
  intro n
  have base : ∀ (d b : Nat) (c : Int), b = s ∧ c = 0 → q9lnP M (q9CNT M) d s z → q9CNT M d b (q9enN M s) (c + z) := by
    rintro d b c ⟨rfl, rfl⟩ hz
    have h := q9CNT.cons hs (Nat.le_refl _) q9CNT.nil hz
    rw [show (0 : Int) + z = z + 0 by omega]
    exact h
  induction n with
  | zero => intro d b c h hz; exact base d b c h hz
  | succ n ih =>
    intro d b c h hz
    rcases h with h | ⟨z', c', h1, h2, h3, h4, h5⟩
    · exact base d b c h hz
    · have h6 := q9CNT.cons h1 (Nat.le_trans h2 (Nat.le_of_lt hs)) (ih _ _ _ h4 hz) (h5.mono fun _ _ _ _ y => ⟨n, y⟩)
      rw [h3, Int.add_assoc]
      exact h6
theorem q9CNT.snoc {M : q9LM} {d b s : Nat} {c z : Int} (h : q9CNT M d b s c) (hs : s < q9enN M s) (hz : q9lnP M (q9CNT M) d s z) : q9CNT M d b (q9enN M s) (c + z) := by
  obtain ⟨n, h⟩ := h
  exact q9cnF_snoc hs n _ _ _ h hz
theorem q9cnF_le {M : q9LM} : ∀ (n d b e : Nat) (c : Int), q9cnF M n d b e c → b ≤ e := by
  intro n
  induction n with
  | zero => intro d b e c h; exact Nat.le_of_eq h.1
  | succ n ih =>
    intro d b e c h
    rcases h with h | ⟨z, c', h1, h2, h3, h4, h5⟩
    · exact Nat.le_of_eq h.1
    · exact Nat.le_trans (Nat.le_of_lt h1) h2
theorem q9CNT.le {M : q9LM} {d b e : Nat} {c : Int} (h : q9CNT M d b e c) : b ≤ e := by
  obtain ⟨n, h⟩ := h
  exact q9cnF_le n _ _ _ _ h
/-- what a line may tell at the most -/
noncomputable def q9cnB : Nat → Int
  | 0 => 200
  | d + 1 => 1220 * q9cnB d
theorem q9cnB_pos : ∀ d : Nat, 200 ≤ q9cnB d
  | 0 => by decide
  | d + 1 => by have := q9cnB_pos d; show 200 ≤ 1220 * q9cnB d; omega
theorem q9cnF_bd {M : q9LM} : ∀ (n d b e : Nat) (c : Int), q9cnF M n d b e c → e ≤ 60 → 0 ≤ c ∧ c ≤ ((e : Int) - b) * q9cnB d := by
  intro n
  induction n with
  | zero =>
    rintro d b e c ⟨rfl, rfl⟩ -
    rw [Int.sub_self, Int.zero_mul]
    omega
  | succ n ih =>
    intro d b e c h he
    rcases h with ⟨rfl, rfl⟩ | ⟨z, c', h1, h2, h3, h4, h5⟩
    · rw [Int.sub_self, Int.zero_mul]
      omega
    · obtain ⟨i1, i2⟩ := ih _ _ _ _ h4 he
      have hB := q9cnB_pos d
      have hz : 0 ≤ z ∧ z ≤ q9cnB d := by
        rcases h5 with ⟨-, k2, k3, k4⟩ | ⟨-, k2, k3, d', i, k4, k5, k6⟩ | ⟨-, -, -, k4⟩
        · omega
        · obtain ⟨j1, j2⟩ := ih _ _ _ _ k5 (Nat.le_trans h2 he)
          have hB' := q9cnB_pos d'
          have j3 : i ≤ 60 * q9cnB d' := Int.le_trans j2 (Int.mul_le_mul_of_nonneg_right (by omega) (by omega))
          have j4 : (M 23 b).toInt * i ≤ 20 * (60 * q9cnB d') := Int.mul_le_mul k3 j3 j1 (by omega)
          have j5 : 0 ≤ (M 23 b).toInt * i := Int.mul_nonneg (by omega) j1
          rw [k4, k6]
          show _ ∧ _ ≤ 1220 * q9cnB d'
          omega
        · omega
      have h6 : ((e : Int) - (q9enN M b : Nat) + 1) * q9cnB d ≤ ((e : Int) - b) * q9cnB d := Int.mul_le_mul_of_nonneg_right (by omega) (by omega)
      rw [Int.add_mul, Int.one_mul] at h6
      omega
theorem q9CNT.bd4 {M : q9LM} {d b e : Nat} {c : Int} (h : q9CNT M d b e c) (he : e ≤ 60) (hd : d ≤ 4) : 0 ≤ c ∧ c ≤ 26584014720000000 := by
  obtain ⟨n, h⟩ := h
  obtain ⟨h1, h2⟩ := q9cnF_bd n _ _ _ _ h he
  refine ⟨h1, Int.le_trans h2 ?_⟩
  have h3 : q9cnB d ≤ 443066912000000 := match d, hd with
    | 0, _ => by decide
    | 1, _ => by decide
    | 2, _ => by decide
    | 3, _ => by decide
    | 4, _ => by decide
  have h4 : ((e : Int) - b) * q9cnB d ≤ 60 * 443066912000000 := Int.mul_le_mul (by omega) h3 (by have := q9cnB_pos d; omega) (by omega)
  omega
theorem q9cnF_fr {M M' : q9LM} : ∀ (n d b e : Nat) (c : Int), q9cnF M n d b e c → (∀ i : Nat, b ≤ i → i < e → ∀ k ∈ [22, 23, 29], M' k i = M k i) → q9cnF M' n d b e c := by
  intro n
  induction n with
  | zero => intro d b e c h _; exact h
  | succ n ih =>
    intro d b e c h hM
    rcases h with h | ⟨z, c', h1, h2, h3, h4, h5⟩
    · exact .inl h
    · have hb : b < e := Nat.lt_of_lt_of_le h1 h2
      have e1 := hM b (Nat.le_refl _) hb 22 (by decide)
      have e2 := hM b (Nat.le_refl _) hb 23 (by decide)
      have e3 : q9enN M' b = q9enN M b := by unfold q9enN; rw [hM b (Nat.le_refl _) hb 29 (by decide)]
      refine .inr ⟨z, c', by rw [e3]; exact h1, by rw [e3]; exact h2, h3, by rw [e3]; exact ih _ _ _ _ h4 (fun j hj1 hj2 => hM j (by omega) hj2), ?_⟩
      unfold q9lnP at h5 ⊢
      rw [e1, e2, e3]
      rcases h5 with h5 | ⟨k1, k2, k3, d', i, k4, k5, k6⟩ | h5
      · exact .inl h5
      · exact .inr (.inl ⟨k1, k2, k3, d', i, k4, ih _ _ _ _ k5 (fun j hj1 hj2 => hM j (by omega) (by omega)), k6⟩)
      · exact .inr (.inr h5)
theorem q9CNT.fr {M M' : q9LM} {d b e : Nat} {c : Int} (h : q9CNT M d b e c) (hM : ∀ i : Nat, b ≤ i → i < e → ∀ k ∈ [22, 23, 29], M' k i = M k i) : q9CNT M' d b e c := by
  obtain ⟨n, h⟩ := h
  exact ⟨n, q9cnF_fr n _ _ _ _ h hM⟩
/-- the frames of q9one turn of a line, and what is q9left of it after k turns -/
noncomputable def q9TRN (M : q9LM) (d s : Nat) (i : Int) : Prop := (((M 22 s).toInt = 0 ∨ (M 22 s).toInt = 1) ∧ i = 1) ∨ ((M 22 s).toInt = 7 ∧ ∃ d' : Nat, d = d' + 1 ∧ q9CNT M d' (s + 1) (q9enN M s) i)
noncomputable def q9RLN (M : q9LM) (d s k : Nat) (c : Int) : Prop := (k : Int) ≤ (M 23 s).toInt ∧ ∃ i : Int, 0 ≤ i ∧ q9TRN M d s i ∧ c = ((M 23 s).toInt - k) * i
/-- repeats that are being read, q9one within another: where they stand (6 bits each of c), what stands ahead of each and in the last of them; b of them -/
noncomputable def q9STK (M : q9LM) : Nat → Nat → Nat → Prop
  | 0, _, e => ∃ c' : Int, q9CNT M 4 0 e c'
  | b + 1, c, e => q9STK M b (c / 64) (c % 64) ∧ b < 4 ∧ ∃ c' : Int, q9CNT M (3 - b) (c % 64 + 1) e c'
theorem q9STK.fr {M M' : q9LM} : ∀ (b c e : Nat), q9STK M b c e → (∀ i : Nat, i < e → ∀ k ∈ [22, 23, 29], M' k i = M k i) → q9STK M' b c e
  | 0, c, e, ⟨c', h⟩, hM => ⟨c', h.fr fun i _ hi => hM i hi⟩
  | b + 1, c, e, ⟨h1, h2, c', h3⟩, hM => by
    have := h3.le
    exact ⟨q9STK.fr b _ _ h1 (fun i hi => hM i (by omega)), h2, c', h3.fr fun i _ hi => hM i hi⟩
/-- no shot is shot farther than it goes (1; 2: as it is kept); what isn't told yet has no frames (3) -/
noncomputable def q9PRA (M : q9LM) (n b k : Int) : Prop := ∀ i : Nat, (i : Int) < k → (i : Int) ≠ b % 1000 - 1 → if b / 1000 = 3 then (n ≤ i → (M 44 i).toInt = 0) else (M (if b / 1000 = 1 then 48 else 108) i).toInt ≤ (M 44 i).toInt
noncomputable def q9JP (M : q9LM) (n c b z : Int) : Prop :=
  if 0 ≤ c then (if z < 1000 then q9LINES M b z else 0 ≤ b ∧ (if z < 7000 then q9CNT M (z.toNat / 1000 - 1) b.toNat (z.toNat % 1000) c else if z < 13000 then ∃ c' : Int, q9CNT M (z.toNat / 1000 - 7) b.toNat (z.toNat % 1000) c' else if z < 19000 then q9RLN M (z.toNat / 1000 - 13) b.toNat (z.toNat % 1000) c else q9STK M b.toNat c.toNat (z - 19000).toNat))
  else if c = -7 then q9PRA M n b z else q9PRA M z b 12
theorem q9JP_lines {M : q9LM} {n c b z : Int} (h : 0 ≤ c) (hz : z < 1000) : q9JP M n c b z = q9LINES M b z := by
  unfold q9JP
  rw [if_pos h, if_pos hz]
theorem q9JP_cnt {M : q9LM} {n c b z : Int} (h : 0 ≤ c) (hz : 1000 ≤ z) (hz' : z < 7000) : q9JP M n c b z = (0 ≤ b ∧ q9CNT M (z.toNat / 1000 - 1) b.toNat (z.toNat % 1000) c) := by
  unfold q9JP
  rw [if_pos h, if_neg (by omega), if_pos hz']
theorem q9JP_wn {M : q9LM} {n c b z : Int} (h : 0 ≤ c) (hz : 7000 ≤ z) (hz' : z < 13000) : q9JP M n c b z = (0 ≤ b ∧ ∃ c' : Int, q9CNT M (z.toNat / 1000 - 7) b.toNat (z.toNat % 1000) c') := by
  unfold q9JP
  rw [if_pos h, if_neg (by omega), if_neg (by omega), if_pos hz']
theorem q9JP_rl {M : q9LM} {n c b z : Int} (h : 0 ≤ c) (hz : 13000 ≤ z) (hz' : z < 19000) : q9JP M n c b z = (0 ≤ b ∧ q9RLN M (z.toNat / 1000 - 13) b.toNat (z.toNat % 1000) c) := by
  unfold q9JP
  rw [if_pos h, if_neg (by omega), if_neg (by omega), if_neg (by omega), if_pos hz']
theorem q9JP_st {M : q9LM} {n c b z : Int} (h : 0 ≤ c) (hz : 19000 ≤ z) : q9JP M n c b z = (0 ≤ b ∧ q9STK M b.toNat c.toNat (z - 19000).toNat) := by
  unfold q9JP
  rw [if_pos h, if_neg (by omega), if_neg (by omega), if_neg (by omega), if_neg (by omega)]
theorem q9JP_pr {M : q9LM} {n b z : Int} : q9JP M n (-7) b z = q9PRA M n b z := by
  unfold q9JP
  rw [if_neg (by omega), if_pos rfl]
theorem q9JP_px {M : q9LM} {n b z : Int} : q9JP M n (-8) b z = q9PRA M z b 12 := by
  unfold q9JP
  rw [if_neg (by omega), if_neg (by omega)]
/-- the reference's fields that these lie in, their codes -/
noncomputable def q9jF1 : List (Nat × Nat) := [(22, 178), (23, 179), (25, 181), (26, 182), (27, 183), (28, 184), (29, 185), (30, 186), (31, 187)]
noncomputable def q9jF2 : List (Nat × Nat) := [(44, 195), (48, 199), (108, 247)]
noncomputable def q9jF : List (Nat × Nat) := q9jF1 ++ q9jF2
noncomputable def q9jFc (c : Int) : List (Nat × Nat) := if 0 ≤ c then q9jF1 else q9jF2
theorem q9jFc_in {c : Int} {y : Nat × Nat} (h : y ∈ q9jFc c) : y ∈ q9jF := by
  unfold q9jFc at h
  split at h
  · exact List.mem_append_left _ h
  · exact List.mem_append_right _ h
noncomputable def q9jKc (c : Int) : List Nat := if c = -7 then (768 + 38) :: (q9jFc c).flatMap fun q => [768 + q.1, 100000 + q.2] else (q9jFc c).flatMap fun q => [768 + q.1, 100000 + q.2]
theorem q9jFc_pos {c : Int} (h : 0 ≤ c) : q9jFc c = q9jF1 := if_pos h
theorem q9jKc_pos {c : Int} (h : 0 ≤ c) : q9jKc c = q9jF1.flatMap fun q => [768 + q.1, 100000 + q.2] := by
  have h7 : ¬ c = -7 := by omega
  unfold q9jKc
  rw [if_neg h7, q9jFc_pos h]
noncomputable def q9nV (v : Value) : Option Int := match v with
  | .int x => some x.toInt
  | .long x => some x.toInt
  | _ => none
noncomputable def q9JA (G : q9GH) (ws : va_W) (v0 v1 v2 : Value) : Prop :=
  ∃ (q a n : Nat) (fs : List Value) (M : q9LM) (c : Int) (b z : Int32) (nn : Int), G[q]? = some (a, 12, n) ∧ ws[q]? = some (a, .inr (12, fs)) ∧ (∀ y ∈ q9jFc c, ∃ (i b k n' : Nat) (cA : ClassId), fs[y.1]? = some (.ref b) ∧ G[i]? = some (b, y.2, k) ∧ ws[i]? = some (b, .inl (cA, n', .inl (M y.1)))) ∧
    q9nV v0 = some c ∧ v1 = .int b ∧ v2 = .int z ∧ (c = -7 → ∃ u : Int32, fs[38]? = some (.int u) ∧ nn = u.toInt) ∧ q9JP M nn c b.toInt z.toInt
theorem q9JA_ref {G : q9GH} {ws : va_W} {a : Nat} {v1 v2 : Value} (h : q9JA G ws (.ref a) v1 v2) : False := by
  obtain ⟨q, a, n, fs, M, c, b, z, nn, -, -, -, h, -⟩ := h
  cases h
theorem q9JA_keep {Wr : List Nat} {G G' : q9GH} {ws ws' : va_W} (hX : q9extG G G') (hK : q9keepW Wr G ws ws') {v0 v1 v2 : Value} (hn : ∃ c : Int, q9nV v0 = some c ∧ ∀ y ∈ q9jKc c, y ∉ Wr) (h : q9JA G ws v0 v1 v2) : q9JA G' ws' v0 v1 v2 := by
  obtain ⟨q, a, n, fs, M, c, bb, z, nn, h1, h2, h3, h4, h5, h6, h7, h8⟩ := h
  obtain ⟨c9, n1, n2⟩ := hn
  rw [h4] at n1
  cases n1
  have n3 : ∀ y ∈ q9jFc c, 768 + y.1 ∉ Wr ∧ 100000 + y.2 ∉ Wr := fun y hy => by
    have e1 : 768 + y.1 ∈ (q9jFc c).flatMap (fun q => [768 + q.1, 100000 + q.2]) := List.mem_flatMap.mpr ⟨y, hy, List.mem_cons_self⟩
    have e2 : 100000 + y.2 ∈ (q9jFc c).flatMap (fun q => [768 + q.1, 100000 + q.2]) := List.mem_flatMap.mpr ⟨y, hy, List.mem_cons_of_mem _ List.mem_cons_self⟩
    refine ⟨n2 _ ?_, n2 _ ?_⟩
    · unfold q9jKc
      split
      · exact List.mem_cons_of_mem _ e1
      · exact e1
    · unfold q9jKc
      split
      · exact List.mem_cons_of_mem _ e2
      · exact e2
  obtain ⟨e', f1, f2⟩ := hK q a 12 n _ h1 h2
  match e', f2 with
  | .inr (c', fs'), ⟨g1, g2, g3⟩ =>
    subst g1
    refine ⟨q, a, n, fs', M, c, bb, z, nn, hX.at h1, f1, fun y hy => ?_, h4, h5, h6, fun hc => ?_, h8⟩
    · obtain ⟨i, b, k, n', cA, k1, k2, k3⟩ := h3 y hy
      obtain ⟨e2, m1, m2⟩ := hK i b y.2 k _ k2 k3
      have hn1 : 64 * 12 + y.1 ∉ Wr := (n3 y hy).1
      have hn2 : 100000 + y.2 ∉ Wr := (n3 y hy).2
      match e2, m2 with
      | .inl y2, m2 =>
        have m2 := m2 hn2
        subst m2
        exact ⟨i, b, k, n', cA, by rw [g3 _ hn1]; exact k1, hX.at k2, m1⟩
    · obtain ⟨u, u1, u2⟩ := h7 hc
      have hn1 : 64 * 12 + 38 ∉ Wr := n2 _ (by
        unfold q9jKc
        rw [if_pos hc]
        exact List.mem_cons_self)
      exact ⟨u, by rw [g3 _ hn1]; exact u1, u2⟩
/-- which of them a number's type tells -/
noncomputable def q9famT (t : q9ET) : Option Int := if t.1 ≤ 1 then (if 0 ≤ t.2.1 then some 0 else if t.2.1 = -7 ∧ t.2.2 = -7 then some (-7) else if t.2.1 = -8 ∧ t.2.2 = -8 then some (-8) else none) else none
theorem q9famT_ok {G : q9GH} {t : q9ET} {v : Value} {c : Int} (h : q9famT t = some c) (hv : q9tyV G t v) : ∃ c' : Int, q9nV v = some c' ∧ q9jKc c' = q9jKc c ∧ q9jFc c' = q9jFc c ∧ (c = 0 → 0 ≤ c') ∧ (c ≠ 0 → c' = c) ∧ (c = 0 ∨ c = -7 ∨ c = -8) := by
  obtain ⟨k, lo, hi⟩ := t
  unfold q9famT at h
  split at h
  · rename_i hk
    have hk : k ≤ 1 := hk
    have key : ∃ c' : Int, q9nV v = some c' ∧ lo ≤ c' ∧ c' ≤ hi := by
      match k, hk, hv with
      | 0, _, ⟨x, e, a1, a2⟩ => exact ⟨x.toInt, by rw [e]; rfl, a1, a2⟩
      | 1, _, ⟨x, e, a1, a2⟩ => exact ⟨x.toInt, by rw [e]; rfl, a1, a2⟩
    obtain ⟨c', e1, e2, e3⟩ := key
    dsimp only at h
    refine ⟨c', e1, ?_⟩
    split at h
    · cases h
      have h0 : 0 ≤ c' := by omega
      refine ⟨?_, ?_, fun _ => h0, fun h9 => absurd rfl h9, .inl rfl⟩
      · rw [q9jKc_pos h0, q9jKc_pos (Int.le_refl 0)]
      · rw [q9jFc_pos h0, q9jFc_pos (Int.le_refl 0)]
    · split at h
      · cases h
        have h0 : c' = -7 := by omega
        exact ⟨by rw [h0], by rw [h0], fun h9 => by omega, fun _ => h0, .inr (.inl rfl)⟩
      · split at h
        · cases h
          have h0 : c' = -8 := by omega
          exact ⟨by rw [h0], by rw [h0], fun h9 => by omega, fun _ => h0, .inr (.inr rfl)⟩
        · cases h
  · cases h
/-- of a symbol that is a number, from a state that is q9left -/
noncomputable def q9jB (Wr : List Nat) (E : List q9ET) (k : Nat) : Bool := match E[k]? with
  | some t => (match q9famT t with
    | some c => (q9jKc c).all (fun z => !(Wr.elem z))
    | none => false)
  | none => false
theorem q9jB_ok {G : q9GH} {Wr : List Nat} {E : List q9ET} {r : Nat → Value} (hS : q9SAT G E r) {k : Nat} (h : q9jB Wr E k = true) : ∃ c : Int, q9nV (r k) = some c ∧ ∀ z ∈ q9jKc c, z ∉ Wr := by
  unfold q9jB at h
  split at h
  · rename_i t ht
    split at h
    · rename_i c hc
      obtain ⟨c', e1, e2, -⟩ := q9famT_ok hc (hS k t ht)
      refine ⟨c', e1, fun z hz hw => ?_⟩
      rw [e2] at hz
      have := List.all_eq_true.mp h z hz
      rw [List.elem_iff.mpr hw] at this
      cases this
    · cases h
  · cases h
