/-! what the calls on a new object answer -/
def th_sound (a b : Int32) : Int32 := if wi a 0 25 = 1 then (if wi b 1 9 = 1 then 0 else 1) else 1
def vl_sound (a : Int32) : Int32 := nI (a.toNatClampNeg % 9 + 1)
def th_shot (n : Int32) : Int32 := if wi n 0 0 = 1 then 0 else 1
def th_set (w k v : Int32) : Int32 := if w = 0 then (if wi k 0 2 = 1 then (if wi v 1 100 = 1 then 0 else 1) else 1) else if w = 1 then (if wi k 0 7 = 1 then (if wi v 0 20 = 1 then 0 else 1) else 1) else 1
def vl_set (w : Int32) : Int32 := if w = 0 then 10 else 1
def th_wait (h : Int32) : Int32 := if wi h 0 1000 = 1 then 0 else 1
def th_anim (h : Int32) : Int32 := if wi h 0 14 = 1 then 0 else 1
def th_stat (u a : Int32) : Int32 := if wi u 0 2 = 1 then (if wi a (-1) (-1) = 1 then 0 else 2) else 1
def th_floor (h : Int32) : Int32 := if wi h 0 100 = 1 then 0 else 1
def th_on (u w : Int32) : Int32 := if wi u 0 2 = 1 then (if w = 0 then 0 else if w = 1 then 0 else if w = 2 then 0 else if w = 3 then 0 else 2) else 1
def vl_on (w : Int32) : Int32 := if w = 2 then 0 else -1
def th_stands (s : Int32) : Int32 := if wi s 0 7 = 1 then 0 else 1
def vl_count (w : Int32) : Int32 := if w = 0 then 0 else if w = 1 then 0 else if w = 2 then 0 else if w = 3 then 0 else if w = 4 then 0 else if w = 5 then 0 else -1
theorem wi_00 {n : Int32} (h : 1 = wi n 0 0) : n = 0 := by
  have g := wi_in (v := n) (lo := 0) (hi := 0) (by rw [← h]; decide)
  exact Int32.le_antisymm g.2 g.1
theorem ent_out {f : Nat → Int32} {n : Nat} {i w : Int32} (h : ∀ k, k < n → f k = w) (hn : n < 2147483648) : ent f n i w = w := by
  unfold ent
  split
  · rename_i g
    have e0 : (0 : Int32).toInt = 0 := rfl
    have e1 : (nI n).toInt = n := nI_toInt hn
    have g1 := g.1
    have g2 := g.2
    rw [Int32.le_iff_toInt_le, e0] at g1
    rw [Int32.lt_iff_toInt_lt, e1] at g2
    have e2 : i.toNatClampNeg = i.toInt.toNat := rfl
    exact h _ (by omega)
  · rfl
theorem wi_lt {i : Int32} {n : Nat} {hi : Int32} (hh : hi.toInt + 1 = n) (h : 1 = wi i 0 hi) : i.toNatClampNeg < n := by
  have g := wi_in (v := i) (lo := 0) (hi := hi) (by rw [← h]; decide)
  have e0 : (0 : Int32).toInt = 0 := rfl
  have g1 := g.1
  have g2 := g.2
  rw [Int32.le_iff_toInt_le, e0] at g1
  rw [Int32.le_iff_toInt_le] at g2
  have e2 : i.toNatClampNeg = i.toInt.toNat := rfl
  omega
theorem wi_vin {i : Int32} {n : Nat} {hi : Int32} (hh : hi.toInt + 1 = n) (h : 1 = wi i 0 hi) : vp_in i n := by
  have g := wi_in (v := i) (lo := 0) (hi := hi) (by rw [← h]; decide)
  have k := wi_lt hh h
  rintro (q | q)
  · exact i_nle q g.1
  · omega
theorem ent_in {f : Nat → Int32} {n : Nat} {i w hi : Int32} (hn : n < 2147483648) (hh : hi.toInt + 1 = n) (h : 1 = wi i 0 hi) : ent f n i w = f i.toNatClampNeg := by
  have g := wi_in (v := i) (lo := 0) (hi := hi) (by rw [← h]; decide)
  refine if_pos ⟨g.1, ?_⟩
  have g2 := g.2
  rw [Int32.le_iff_toInt_le] at g2
  rw [Int32.lt_iff_toInt_lt, nI_toInt hn]
  omega
theorem wi03 {w : Int32} (h : 1 = wi w 0 3) : w = 0 ∨ w = 1 ∨ w = 2 ∨ w = 3 := by
  have g := wi_in (v := w) (lo := 0) (hi := 3) (by rw [← h]; decide)
  have g1 := g.1
  have g2 := g.2
  rw [Int32.le_iff_toInt_le] at g1 g2
  have e0 : (0 : Int32).toInt = 0 := rfl
  have e3 : (3 : Int32).toInt = 3 := rfl
  rw [e0] at g1
  rw [e3] at g2
  have : w.toInt = 0 ∨ w.toInt = 1 ∨ w.toInt = 2 ∨ w.toInt = 3 := by omega
  rcases this with q | q | q | q
  · exact Or.inl (Int32.toInt_inj.mp q)
  · exact Or.inr (Or.inl (Int32.toInt_inj.mp q))
  · exact Or.inr (Or.inr (Or.inl (Int32.toInt_inj.mp q)))
  · exact Or.inr (Or.inr (Or.inr (Int32.toInt_inj.mp q)))
theorem wi03n {w : Int32} (h : 0 = wi w 0 3) : ¬ w = 0 ∧ ¬ w = 1 ∧ ¬ w = 2 ∧ ¬ w = 3 := by
  refine ⟨?_, ?_, ?_, ?_⟩ <;> (rintro rfl; exact absurd h (by decide))
theorem gt_nle {x y : Int32} (h : x < y) : ¬ y ≤ x := i_nle h
theorem upd_z {k : Nat} : upd (fun _ => 0) k 0 = (fun _ => 0) := by
  funext j
  unfold upd
  split <;> rfl
theorem vin_n {i : Int32} {n : Nat} (h : vp_in i n) : i.toNatClampNeg < n := by
  unfold vp_in at h
  omega
theorem pos1 {x : Int32} (h : ¬ x ≤ 0) : 1 ≤ x := by
  have e0 : (0 : Int32).toInt = 0 := rfl
  have e1 : (1 : Int32).toInt = 1 := rfl
  rw [Int32.le_iff_toInt_le, e0] at h
  rw [Int32.le_iff_toInt_le, e1]
  omega
theorem cpy_all {f g : Nat → Int32} {n m : Nat} {v : Int32} (h : ∀ k, k < n → f k = v) (hm : m = n) : ∀ k, k < n → va_cpy f g (Int32.toNatClampNeg 0) (Int32.toNatClampNeg 0) m k = v := by
  subst hm
  intro k hk
  show va_cpy f g 0 0 m k = v
  unfold va_cpy
  rw [if_pos ⟨Nat.zero_le _, by omega⟩]
  exact h _ (by omega)
