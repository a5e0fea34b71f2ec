/-! bits of columns -/
def lbit (x : Int64) (i : Nat) : Bool := x.toBitVec.getLsbD i
theorem lbit_or (x y : Int64) (i : Nat) : lbit (x ||| y) i = (lbit x i || lbit y i) := by
  unfold lbit
  rw [Int64.toBitVec_or, BitVec.getLsbD_or]
theorem lbit_and (x y : Int64) (i : Nat) : lbit (x &&& y) i = (lbit x i && lbit y i) := by
  unfold lbit
  rw [Int64.toBitVec_and, BitVec.getLsbD_and]
theorem lbit_shl1 (x : Int64) {i : Nat} (hi : i < 64) : lbit (x <<< ((nI 1).toInt64 &&& 63)) i = (decide (0 < i) && lbit x (i - 1)) := by
  unfold lbit
  rw [Int64.toBitVec_shiftLeft, show (((nI 1).toInt64 &&& 63).toBitVec.smod 64) = 1#64 from by decide +kernel, BitVec.shiftLeft_eq', BitVec.getLsbD_shiftLeft]
  have : (1#64).toNat = 1 := by decide
  rw [this]
  simp only [hi, decide_true, Bool.true_and]
  cases i with
  | zero => simp
  | succ k => simp
theorem lbit_ushr (x : Int64) {k : Nat} (hk : k < 64) (i : Nat) : lbit ((x.toUInt64 >>> ((nI k).toInt64.toUInt64 &&& Int64.toUInt64 63)).toInt64) i = lbit x (k + i) := by
  unfold lbit
  have h : ∀ k, k < 64 → (((nI k).toInt64.toUInt64 &&& Int64.toUInt64 63).toBitVec % 64).toNat = k := by decide +kernel
  show ((x.toUInt64 >>> ((nI k).toInt64.toUInt64 &&& Int64.toUInt64 63)).toBitVec).getLsbD i = _
  rw [UInt64.toBitVec_shiftRight, BitVec.ushiftRight_eq', BitVec.getLsbD_ushiftRight, h k hk]
  rfl
theorem lbit_ofNat {n i : Nat} (hi : i < 64) : lbit (lN n) i = n.testBit i := by
  unfold lbit
  show (BitVec.ofNat 64 n).getLsbD i = _
  rw [BitVec.getLsbD_ofNat]
  simp [hi]
theorem lbit_ext {x y : Int64} (h : ∀ i, i < 64 → lbit x i = lbit y i) : x = y := by
  have : x.toBitVec = y.toBitVec := BitVec.eq_of_getLsbD_eq (fun i hi => h i hi)
  exact Int64.toBitVec_inj.mp this
theorem lbit_0 {i : Nat} (hi : i < 64) : lbit (lN 0) i = false := by rw [lbit_ofNat hi, Nat.zero_testBit]
theorem lbit_1 {i : Nat} (hi : i < 64) : lbit (lN 1) i = decide (i = 0) := by
  rw [lbit_ofNat hi]
  cases i with
  | zero => rfl
  | succ k => rw [Nat.testBit_succ]; simp
def mskL (m : Nat) : Int64 := ((2 : Int64) <<< ((nI m).toInt64 &&& 63)) - lN 1
theorem mskL_N : ∀ m, m < 61 → mskL m = lN (2 ^ (m + 1) - 1) := by decide +kernel
theorem lbit_msk {m i : Nat} (hm : m ≤ 60) (hi : i < 64) : lbit (mskL m) i = decide (i ≤ m) := by
  rw [mskL_N m (by omega), lbit_ofNat hi, Nat.testBit_two_pow_sub_one]
  exact decide_eq_decide.mpr (by omega)
theorem colO_s : ∀ j, j < 5 → (lN (2 ^ (j + 1) - 1) <<< ((nI 1).toInt64 &&& 63)) ||| lN 1 = lN (2 ^ (j + 1 + 1) - 1) := by decide +kernel
/-- the columns tell who is reached with at most so many slips -/
def colOK (cols : Nat → Int64) (d : Nat → Nat) (m k : Nat) : Prop := ∀ j, j ≤ k → ∀ i, i < 64 → lbit (cols j) i = decide (i ≤ m ∧ d i ≤ j)
theorem colOK_open {cols : Nat → Int64} {m k : Nat} (hm : m ≤ 60) (hk : k ≤ 4) (h : ∀ j, j ≤ k → cols j = lN (2 ^ (j + 1) - 1) &&& mskL m) {tk : Nat → Nat → Bool} {mb : Nat → Bool} : colOK cols (dcol tk mb 0) m k := by
  intro j hj i hi
  rw [h j hj, lbit_and, lbit_msk hm hi, lbit_ofNat hi, Nat.testBit_two_pow_sub_one, dcol_0, ← Bool.decide_and]
  exact decide_eq_decide.mpr (by omega)
/-- one column's step -/
theorem col_step {tk : Nat → Nat → Bool} {mb : Nat → Bool} {e m j : Nat} {be taking fb fn bg : Int64} (hm : m ≤ 60)
    (hbe : ∀ i, i < 64 → lbit be i = decide (i ≤ m ∧ dcol tk mb e i ≤ j))
    (hta : ∀ i, i < 60 → lbit taking i = tk i e)
    (hfb : ∀ i, i < 64 → lbit fb i = decide (0 < j ∧ i ≤ m ∧ dcol tk mb e i ≤ j - 1))
    (hfn : ∀ i, i < 64 → lbit fn i = decide (0 < j ∧ i ≤ m ∧ dcol tk mb (e + 1) i ≤ j - 1))
    (hbg : bg = if mb (e + 1) = true then lN 1 else lN 0) :
    ∀ i, i < 64 → lbit (((((bg ||| ((be &&& taking) <<< ((nI 1).toInt64 &&& 63))) ||| (fb <<< ((nI 1).toInt64 &&& 63))) ||| fb) ||| (fn <<< ((nI 1).toInt64 &&& 63))) &&& mskL m) i = decide (i ≤ m ∧ dcol tk mb (e + 1) i ≤ j) := by
  intro i hi
  rw [lbit_and, lbit_or, lbit_or, lbit_or, lbit_or, lbit_shl1 _ hi, lbit_shl1 _ hi, lbit_shl1 _ hi, lbit_msk hm hi, lbit_and]
  have hb : lbit bg i = decide (i = 0 ∧ mb (e + 1) = true) := by
    rw [hbg]
    by_cases h : mb (e + 1) = true
    · rw [if_pos h, lbit_1 hi]; simp [h]
    · rw [if_neg h, lbit_0 hi]; simp [h]
  rw [hb, hfb i hi]
  cases i with
  | zero =>
    rw [dcol_s0]
    by_cases h : mb (e + 1) = true
    · simp [h]
    · simp only [h, and_false, decide_false, Nat.lt_irrefl, Bool.false_and, Bool.or_false, Bool.false_or, if_neg, Nat.zero_le, true_and, decide_true, Bool.and_true]
      simp only [Bool.false_eq_true, if_false, ite_false]
      exact decide_eq_decide.mpr (by omega)
  | succ k =>
    simp only [Nat.add_sub_cancel]
    rw [hbe k (by omega), hfb k (by omega), hfn k (by omega), dcol_ss]
    simp only [ Nat.succ_pos, decide_true, Bool.true_and, Nat.succ_ne_zero, false_and, decide_false, Bool.false_or]
    by_cases hkm : k + 1 ≤ m
    · rw [hta k (by omega)]
      have hk2 : k ≤ m := by omega
      by_cases ht : tk k e = true
      · simp only [hkm, hk2, ht, true_and, decide_true, Bool.and_true, if_true, Nat.add_zero]
        simp only [← Bool.decide_or]
        exact decide_eq_decide.mpr (by omega)
      · simp only [hkm, hk2, ht, true_and, decide_true, Bool.and_true, Bool.and_false, Bool.false_or, if_false]
        simp only [← Bool.decide_or]
        exact decide_eq_decide.mpr (by simp only [Bool.false_eq_true, if_false]; omega)
    · simp [hkm]
