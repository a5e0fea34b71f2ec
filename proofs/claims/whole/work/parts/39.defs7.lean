
/-! counting bits -/
theorem nI_and (a b : Nat) : nI a &&& nI b = nI (a &&& b) := by
  refine Int32.toBitVec_inj.mp ?_
  rw [Int32.toBitVec_and]
  show BitVec.ofNat 32 a &&& BitVec.ofNat 32 b = BitVec.ofNat 32 (a &&& b)
  exact BitVec.ofNat_and.symm
def bn1 (v : Nat) : Nat := v - (v / 2 ^ 1 &&& 1431655765)
def bn2 (v : Nat) : Nat := (bn1 v &&& 858993459) + (bn1 v / 2 ^ 2 &&& 858993459)
def bn3 (v : Nat) : Nat := (bn2 v + bn2 v / 2 ^ 4) &&& 252645135
def bn4 (v : Nat) : Nat := bn3 v + bn3 v / 2 ^ 8
def bn5 (v : Nat) : Nat := bn4 v + bn4 v / 2 ^ 16
def bcN (v : Nat) : Nat := bn5 v &&& 63
theorem bn1_lt {v : Nat} (h : v < 268435456) : bn1 v < 268435456 := Nat.lt_of_le_of_lt (Nat.sub_le _ _) h
theorem bn2_lt {v : Nat} (h : v < 268435456) : bn2 v < 536870912 := by
  have h1 := bn1_lt h
  have h2 : bn1 v &&& 858993459 ≤ bn1 v := Nat.and_le_left
  have h3 : bn1 v / 2 ^ 2 &&& 858993459 ≤ bn1 v / 2 ^ 2 := Nat.and_le_left
  unfold bn2
  omega
theorem bn3_lt (v : Nat) : bn3 v ≤ 252645135 := Nat.and_le_right
theorem bn4_lt (v : Nat) : bn4 v < 268435456 := by
  have := bn3_lt v
  unfold bn4
  omega
def plainQ (f : Nat → Nat) : Nat → Bool
  | 0 => true
  | k + 1 => plainQ f k && decide (bcN (f k) = 1)
theorem plainQ_f {f : Nat → Nat} {i : Nat} (h : bcN (f i) ≠ 1) : ∀ {n : Nat}, i < n → plainQ f n = false
  | 0, hn => absurd hn (Nat.not_lt_zero _)
  | n + 1, hn => by
    show (plainQ f n && _) = false
    by_cases hi : i = n
    · subst hi; rw [decide_eq_false h, Bool.and_false]
    · rw [plainQ_f h (show i < n by omega), Bool.false_and]
theorem plainQ_s {f : Nat → Nat} {i : Nat} (h : plainQ f i = true) (h2 : bcN (f i) = 1) : plainQ f (i + 1) = true := by
  show (plainQ f i && _) = true
  rw [h, decide_eq_true h2]
  rfl
