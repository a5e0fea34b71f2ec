
/-! the reference: counts -/
def cntV (f : Nat → Nat) (v : Nat) : Nat → Nat
  | 0 => 0
  | k + 1 => cntV f v k + if f k = v then 1 else 0
theorem cntV_le (f : Nat → Nat) (v : Nat) : ∀ k, cntV f v k ≤ k
  | 0 => Nat.le_refl _
  | k + 1 => by
    have := cntV_le f v k
    unfold cntV
    split <;> omega
theorem pop_and {x k : Nat} (hx : x < 2 ^ k) : x &&& (x - 1) < 2 ^ k := Nat.lt_of_le_of_lt Nat.and_le_left hx
theorem and_lt {x : Nat} (h : 0 < x) : x &&& (x - 1) < x := Nat.lt_of_le_of_lt Nat.and_le_right (by omega)
