/-! the count of bits, two ways -/
def popN : Nat → Nat → Nat
  | 0, _ => 0
  | k + 1, v => v % 2 + popN k (v / 2)
theorem and_split {x y m M : Nat} (hx : x < 256) (hm : m < 256) : (x + 256 * y) &&& (m + 256 * M) = (x &&& m) + 256 * (y &&& M) := by
  have hxm : x &&& m < 2 ^ 8 := Nat.lt_of_le_of_lt Nat.and_le_left hx
  rw [Nat.add_comm x, Nat.add_comm m, Nat.add_comm (x &&& m)]
  refine Nat.eq_of_testBit_eq (fun i => ?_)
  rw [Nat.testBit_and, show 256 * y = 2 ^ 8 * y from rfl, show 256 * M = 2 ^ 8 * M from rfl, show 256 * (y &&& M) = 2 ^ 8 * (y &&& M) from rfl, Nat.testBit_two_pow_mul_add _ hx, Nat.testBit_two_pow_mul_add _ hm, Nat.testBit_two_pow_mul_add _ hxm]
  by_cases h : i < 8
  · rw [if_pos h, if_pos h, if_pos h, Nat.testBit_and]
  · rw [if_neg h, if_neg h, if_neg h, Nat.testBit_and]
def F1 (M v : Nat) : Nat := v - (v / 2 &&& M)
def F2 (M v : Nat) : Nat := (v &&& M) + (v / 4 &&& M)
def F3 (M v : Nat) : Nat := (v + v / 16) &&& M
theorem m85 : ∀ a, a < 128 → ∀ b, b < 2 → (a + 128 * b) &&& 85 = a &&& 85 := by decide +kernel
theorem m51 : ∀ a, a < 64 → ∀ b, b < 4 → (a + 64 * b) &&& 51 = a &&& 51 := by decide +kernel
theorem F1_s {x y M : Nat} (hx : x < 256) : F1 (85 + 256 * M) (x + 256 * y) = F1 85 x + 256 * F1 M y := by
  have e : (x + 256 * y) / 2 = (x / 2 + 128 * (y % 2)) + 256 * (y / 2) := by omega
  unfold F1
  rw [e, and_split (by omega) (by decide), m85 _ (by omega) _ (by omega)]
  have h1 : x / 2 &&& 85 ≤ x / 2 := Nat.and_le_left
  have h2 : y / 2 &&& M ≤ y / 2 := Nat.and_le_left
  omega
theorem F2_s {x y M : Nat} (hx : x < 256) : F2 (51 + 256 * M) (x + 256 * y) = F2 51 x + 256 * F2 M y := by
  have e : (x + 256 * y) / 4 = (x / 4 + 64 * (y % 4)) + 256 * (y / 4) := by omega
  unfold F2
  rw [e, and_split hx (by decide), and_split (by omega) (by decide), m51 _ (by omega) _ (by omega)]
  omega
theorem F3_s {x y M : Nat} (hx : x ≤ 68) (hy : y % 16 ≤ 4) : F3 (15 + 256 * M) (x + 256 * y) = F3 15 x + 256 * F3 M y := by
  have e : x + 256 * y + (x + 256 * y) / 16 = (x + x / 16 + 16 * (y % 16)) + 256 * (y + y / 16) := by omega
  unfold F3
  rw [e, and_split (by omega) (by decide), show (15 : Nat) = 2 ^ 4 - 1 from rfl, Nat.and_two_pow_sub_one_eq_mod, Nat.and_two_pow_sub_one_eq_mod]
  omega
theorem byte_ok : ∀ a, a < 256 → F1 85 a < 256 ∧ F2 51 (F1 85 a) ≤ 68 ∧ F2 51 (F1 85 a) % 16 ≤ 4 ∧ F3 15 (F2 51 (F1 85 a)) = popN 8 a ∧ popN 8 a ≤ 8 := by decide +kernel
theorem popN_8 : ∀ k v, popN (8 + k) v = popN 8 (v % 256) + popN k (v / 256) := by
  intro k v
  rw [show 8 + k = k + 1 + 1 + 1 + 1 + 1 + 1 + 1 + 1 from by omega]
  simp only [popN, Nat.div_div_eq_div_mul, Nat.reduceMul]
  have e : ∀ j, j ∣ 128 → v % 256 / j % 2 = v / j % 2 := fun j hj => by
    obtain ⟨c, hc⟩ := hj
    have hj0 : 0 < j := by
      rcases Nat.eq_zero_or_pos j with h | h
      · subst h; omega
      · exact h
    rw [show (256 : Nat) = j * (c * 2) from by rw [← Nat.mul_assoc, ← hc], Nat.mod_mul_right_div_self, Nat.mod_mul_left_mod]
  have e1 := e 2 ⟨64, rfl⟩
  have e2 := e 4 ⟨32, rfl⟩
  have e3 := e 8 ⟨16, rfl⟩
  have e4 := e 16 ⟨8, rfl⟩
  have e5 := e 32 ⟨4, rfl⟩
  have e6 := e 64 ⟨2, rfl⟩
  have e7 := e 128 ⟨1, rfl⟩
  omega
theorem popN_more : ∀ {k v : Nat}, v < 2 ^ k → ∀ j, popN (k + j) v = popN k v
  | 0, v, h, j => by
    obtain rfl : v = 0 := by omega
    show popN (0 + j) 0 = 0
    rw [Nat.zero_add]
    induction j with
    | zero => rfl
    | succ j ih => show 0 % 2 + popN j (0 / 2) = 0; rw [show 0 / 2 = 0 from rfl, ih]
  | k + 1, v, h, j => by
    rw [show k + 1 + j = (k + j) + 1 from by omega]
    show v % 2 + popN (k + j) (v / 2) = v % 2 + popN k (v / 2)
    rw [popN_more (show v / 2 < 2 ^ k by rw [Nat.pow_succ] at h; omega)]
theorem fin_sum {p0 p1 p2 p3 : Nat} (h0 : p0 ≤ 8) (h1 : p1 ≤ 8) (h2 : p2 ≤ 8) (h3 : p3 ≤ 8) {z w u : Nat} (hz : z = p0 + 256 * (p1 + 256 * (p2 + 256 * p3))) (hw : w = z + z / 2 ^ 8) (hu : u = w + w / 2 ^ 16) : u % 2 ^ 6 = p0 + (p1 + (p2 + p3)) := by
  have e1 : z / 2 ^ 8 = p1 + 256 * (p2 + 256 * p3) := by omega
  have e2 : w = (p0 + p1) + 256 * ((p1 + p2) + 256 * ((p2 + p3) + 256 * p3)) := by omega
  have e3 : w / 2 ^ 16 = (p2 + p3) + 256 * p3 := by omega
  have e4 : u = (p0 + (p1 + (p2 + p3))) + 64 * (4 * ((p1 + p2) + 256 * ((p2 + p3) + 256 * p3) + p3)) := by omega
  rw [e4, show (2 : Nat) ^ 6 = 64 from rfl, Nat.add_mul_mod_self_left]
  omega
theorem bcN_pop {v : Nat} (h : v < 268435456) : bcN v = popN 32 v := by
  obtain ⟨a0, a1, a2, a3, h0, h1, h2, h3, rfl⟩ : ∃ a0 a1 a2 a3, a0 < 256 ∧ a1 < 256 ∧ a2 < 256 ∧ a3 < 256 ∧ v = a0 + 256 * (a1 + 256 * (a2 + 256 * a3)) := ⟨v % 256, v / 256 % 256, v / 65536 % 256, v / 16777216, by omega, by omega, by omega, by omega, by omega⟩
  obtain ⟨b0, c0, d0, e0, f0⟩ := byte_ok a0 h0
  obtain ⟨b1, c1, d1, e1, f1⟩ := byte_ok a1 h1
  obtain ⟨b2, c2, d2, e2, f2⟩ := byte_ok a2 h2
  obtain ⟨b3, c3, d3, e3, f3⟩ := byte_ok a3 h3
  have g1 : bn1 (a0 + 256 * (a1 + 256 * (a2 + 256 * a3))) = F1 85 a0 + 256 * (F1 85 a1 + 256 * (F1 85 a2 + 256 * F1 85 a3)) := by
    show F1 (85 + 256 * (85 + 256 * (85 + 256 * 85))) _ = _
    rw [F1_s h0, F1_s h1, F1_s h2]
  have g2 : bn2 (a0 + 256 * (a1 + 256 * (a2 + 256 * a3))) = F2 51 (F1 85 a0) + 256 * (F2 51 (F1 85 a1) + 256 * (F2 51 (F1 85 a2) + 256 * F2 51 (F1 85 a3))) := by
    show F2 (51 + 256 * (51 + 256 * (51 + 256 * 51))) (bn1 _) = _
    rw [g1, F2_s b0, F2_s b1, F2_s b2]
  have g3 : bn3 (a0 + 256 * (a1 + 256 * (a2 + 256 * a3))) = popN 8 a0 + 256 * (popN 8 a1 + 256 * (popN 8 a2 + 256 * popN 8 a3)) := by
    show F3 (15 + 256 * (15 + 256 * (15 + 256 * 15))) (bn2 _) = _
    rw [g2, F3_s c0 (by omega), F3_s c1 (by omega), F3_s c2 d3, e0, e1, e2, e3]
  have g4 : popN 32 (a0 + 256 * (a1 + 256 * (a2 + 256 * a3))) = popN 8 a0 + (popN 8 a1 + (popN 8 a2 + popN 8 a3)) := by
    rw [show (32 : Nat) = 8 + (8 + (8 + 8)) from rfl, popN_8, popN_8, popN_8]
    congr 1
    · congr 1; omega
    · congr 1
      · congr 1; omega
      · congr 1
        · congr 1; omega
        · congr 1; omega
  rw [g4]
  unfold bcN
  rw [show (63 : Nat) = 2 ^ 6 - 1 from rfl, Nat.and_two_pow_sub_one_eq_mod]
  exact fin_sum f0 f1 f2 f3 g3 rfl rfl
/-- one bit less -/
theorem pop_drop : ∀ (k : Nat) {x : Nat}, 0 < x → x < 2 ^ k → popN k (x &&& (x - 1)) + 1 = popN k x
  | 0, x, h0, h => absurd h (by omega)
  | k + 1, x, h0, h => by
    have hk : x / 2 < 2 ^ k := by rw [Nat.pow_succ] at h; omega
    have ha : (x &&& (x - 1)) / 2 = x / 2 &&& (x - 1) / 2 := Nat.and_div_two
    have hm : (x &&& (x - 1)) % 2 = 0 := by
      have := Nat.and_mod_two_pow (a := x) (b := x - 1) (n := 1)
      rw [show 2 ^ 1 = 2 from rfl] at this
      rw [this]
      rcases Nat.mod_two_eq_zero_or_one x with h1 | h1
      · rw [h1, Nat.zero_and]
      · rw [show (x - 1) % 2 = 0 by omega, Nat.and_zero]
    show (x &&& (x - 1)) % 2 + popN k ((x &&& (x - 1)) / 2) + 1 = x % 2 + popN k (x / 2)
    rw [ha, hm]
    rcases Nat.mod_two_eq_zero_or_one x with h1 | h1
    · rw [show (x - 1) / 2 = x / 2 - 1 by omega, h1]
      have := pop_drop k (x := x / 2) (by omega) hk
      omega
    · rw [show (x - 1) / 2 = x / 2 by omega, h1, Nat.and_self]
      omega
theorem popN_0 : ∀ k, popN k 0 = 0
  | 0 => rfl
  | k + 1 => by show 0 % 2 + popN k (0 / 2) = 0; rw [show 0 / 2 = 0 from rfl, popN_0 k]
theorem popN_le : ∀ k v, popN k v ≤ k
  | 0, _ => Nat.le_refl _
  | k + 1, v => by
    have := popN_le k (v / 2)
    show v % 2 + popN k (v / 2) ≤ k + 1
    omega
