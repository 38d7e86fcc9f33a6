theorem wi_nat {p hi : Int32} (h : 1 = wi p 0 hi) : ∃ N : Nat, p = nI N ∧ N ≤ hi.toInt.toNat := by
  have g := wi_in (v := p) (lo := 0) (hi := hi) (by rw [← h]; decide)
  have e0 : (0 : Int32).toInt = 0 := rfl
  have g1 := g.1
  have g2 := g.2
  rw [Int32.le_iff_toInt_le, e0] at g1
  rw [Int32.le_iff_toInt_le] at g2
  have hb : p.toInt < 2 ^ 31 := Int32.toInt_lt p
  refine ⟨p.toInt.toNat, ?_, by omega⟩
  apply Int32.toInt_inj.mp
  rw [nI_toInt (by omega)]
  omega
