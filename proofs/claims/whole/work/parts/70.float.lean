/-! floats by their bits -/
def fb (m : Nat) : UInt32 := UInt32.ofNat m
theorem fb_nat {m : Nat} (h : m < 2 ^ 32) : (fb m).toNat = m := by
  unfold fb
  rw [UInt32.toNat_ofNat']
  exact Nat.mod_eq_of_lt h
theorem fb_of (f : UInt32) : fb f.toNat = f := UInt32.ofNat_toNat
theorem fb_val {m : Nat} (h1 : 8388608 ≤ m) (h2 : m < 2139095040) : FP.Core.val32 (fb m) = .fin false (8388608 + m % 8388608) (((m / 8388608 : Nat) : Int) - 150) := by
  unfold FP.Core.val32
  rw [fb_nat (by omega)]
  have e1 : FP.Core.fieldE FP.Core.b32 m = m / 8388608 := by
    show m / 8388608 % 256 = m / 8388608
    omega
  have e2 : FP.Core.fieldS FP.Core.b32 m = false := by
    show (m / 8388608 / 256 % 2 == 1) = false
    rw [show m / 8388608 / 256 % 2 = 0 by omega]
    rfl
  have e3 : FP.Core.fieldT FP.Core.b32 m = m % 8388608 := rfl
  unfold FP.Core.decode
  rw [e1, e2, e3]
  rw [if_neg (show ¬ m / 8388608 = FP.Core.b32.exps - 1 from fun z => by
    have z2 : m / 8388608 = 255 := z
    omega), if_neg (show ¬ m / 8388608 = 0 by omega)]
  show FP.Core.Datum.fin false (8388608 + m % 8388608) (-149 + (((m / 8388608 : Nat) : Int) - 1)) = _
  congr 1
  omega
theorem fb_nn {m : Nat} (h2 : m < 2139095040) : FP.Core.val32 (fb m) ≠ .nan := by
  rw [FP.Core.ne_nan32, fb_nat (by omega)]
  omega
theorem fb_fin {m : Nat} (h2 : m < 2139095040) : FP.Core.FFin (fb m) := by
  rw [FP.Core.fin_bits32, fb_nat (by omega)]
  omega
theorem c2_val : FP.Core.val32 FP.fconst2 = .fin false 8388608 (-22) := by decide +kernel
theorem c1_val : FP.Core.val32 FP.fconst1 = .fin false 8388608 (-23) := by decide +kernel
theorem c23_val : FP.Core.val32 (1258291200 : UInt32) = .fin false 8388608 0 := by decide +kernel
theorem fb_mul2 {m : Nat} (h1 : 8388608 ≤ m) (h2 : m < 2130706432) : FP.fmul (fb m) FP.fconst2 = fb (m + 8388608) := by
  refine (FP.Core.val32_inj (fb_nn (by omega)) ?_).symm
  show _ = FP.Core.val32 (FP.Core.fmul (fb m) FP.fconst2)
  rw [FP.Core.val32_fmul, fb_val h1 (by omega), c2_val, fb_val (by omega) (by omega)]
  refine (FP.Core.roundRatio_exact FP.Core.good_b32 (s := false) (A := (8388608 + m % 8388608) * 8388608) (B := 1) (e := ((m / 8388608 : Nat) : Int) - 150 + -22) (by decide) (c := 8388608 + (m + 8388608) % 8388608) (q := (((m + 8388608) / 8388608 : Nat) : Int) - 150) ⟨?_, ?_, ?_, ?_⟩ ?_).symm
  · show 8388608 + (m + 8388608) % 8388608 < 16777216
    omega
  · show (-149 : Int) ≤ _
    omega
  · show _ ≤ (104 : Int)
    omega
  · exact Or.inr (Nat.le_add_right _ _)
  · rw [show (((m / 8388608 : Nat) : Int) - 150 + -22 - ((((m + 8388608) / 8388608 : Nat) : Int) - 150)).toNat = 0 by omega, show ((((m + 8388608) / 8388608 : Nat) : Int) - 150 - (((m / 8388608 : Nat) : Int) - 150 + -22)).toNat = 23 by omega, show (m + 8388608) % 8388608 = m % 8388608 by omega]
    omega
theorem fb_cmp1 {m : Nat} (h2 : m < 2139095040) : (m < 1065353216 → FP.fcmp (fb m) FP.fconst1 = some .lt) ∧ (m = 1065353216 → FP.fcmp (fb m) FP.fconst1 = some .eq) ∧ (1065353216 < m → FP.fcmp (fb m) FP.fconst1 = some .gt) := by
  have h3 : FP.fcmp (fb m) FP.fconst1 = some (compare (FP.Core.fkey (fb m)) (FP.Core.fkey FP.fconst1)) := FP.Core.fcmp_key (fb_nn h2) (by rw [c1_val]; exact FP.Core.Datum.noConfusion)
  have h4 : FP.Core.fkey (fb m) = (m : Int) := by
    unfold FP.Core.fkey
    rw [fb_nat (by omega), if_neg (by omega)]
  have h5 : FP.Core.fkey FP.fconst1 = 1065353216 := by decide +kernel
  rw [h3, h4, h5]
  refine ⟨fun h => ?_, fun h => ?_, fun h => ?_⟩
  · rw [(FP.Core.compare_lt_iff _ _).mpr (by omega)]
  · rw [(FP.Core.compare_eq_iff _ _).mpr (by omega)]
  · rw [(FP.Core.compare_gt_iff _ _).mpr (by omega)]
theorem fb_cmp0 {m : Nat} (h2 : m < 2139095040) : (m = 0 → FP.fcmp (fb m) FP.fconst0 = some .eq) ∧ (0 < m → FP.fcmp (fb m) FP.fconst0 = some .gt) := by
  have h3 : FP.fcmp (fb m) FP.fconst0 = some (compare (FP.Core.fkey (fb m)) (FP.Core.fkey FP.fconst0)) := FP.Core.fcmp_key (fb_nn h2) (by decide +kernel)
  have h4 : FP.Core.fkey (fb m) = (m : Int) := by
    unfold FP.Core.fkey
    rw [fb_nat (by omega), if_neg (by omega)]
  have h5 : FP.Core.fkey FP.fconst0 = 0 := by decide +kernel
  rw [h3, h4, h5]
  refine ⟨fun h => ?_, fun h => ?_⟩
  · rw [(FP.Core.compare_eq_iff _ _).mpr (by omega)]
  · rw [(FP.Core.compare_gt_iff _ _).mpr (by omega)]
/-- the digits behind the point -/
theorem sub_sum {c t : Nat} (h : c = 8388608 + t) : FP.Core.exactSum (.fin false c (-23)) (FP.Core.negate (.fin false 8388608 (-23))) = .fin false t (-23) := by
  have e1 : FP.Core.sumUnits false c (-23) true 8388608 (-23) (-23) = (t : Int) := by
    unfold FP.Core.sumUnits FP.Core.inUnits FP.Core.signed
    rw [show ((-23 : Int) - -23).toNat = 0 from rfl, Nat.pow_zero, Nat.mul_one, Nat.mul_one, if_neg (by decide), if_pos rfl]
    omega
  have e2 : FP.Core.sumSign false true (t : Int) = false := by
    unfold FP.Core.sumSign
    split
    · rfl
    · exact decide_eq_false (by omega)
  have e3 : FP.Core.exactSum (.fin false c (-23)) (.fin true 8388608 (-23)) = .fin (FP.Core.sumSign false true (FP.Core.sumUnits false c (-23) true 8388608 (-23) (min (-23) (-23)))) (FP.Core.sumUnits false c (-23) true 8388608 (-23) (min (-23) (-23))).natAbs (min (-23) (-23)) := rfl
  rw [Int.min_self, e1, e2, Int.natAbs_natCast] at e3
  exact e3
theorem fb_sub1 {m : Nat} (h1 : 1065353216 ≤ m) (h2 : m < 1073741824) : FP.Core.val32 (FP.fsub (fb m) FP.fconst1) = FP.Core.round FP.Core.b32 (.fin false (m - 1065353216) (-23)) := by
  show FP.Core.val32 (FP.Core.fsub (fb m) FP.fconst1) = _
  rw [FP.Core.val32_fsub, fb_val (by omega) (by omega), c1_val, show ((m / 8388608 : Nat) : Int) - 150 = -23 by omega, sub_sum (t := m - 1065353216) (by omega)]
theorem pw_cut {c t a b : Nat} (h : c * 2 ^ (a + b) = t * 2 ^ b) : c * 2 ^ a = t := by
  rw [Nat.pow_add, ← Nat.mul_assoc] at h
  exact Nat.eq_of_mul_eq_mul_right (Nat.two_pow_pos b) h
theorem fb_frac {m : Nat} (h1 : 1065353216 ≤ m) (h2 : m < 1073741824) : FP.Core.fIsNaN (FP.fsub (fb m) FP.fconst1) = false ∧ FP.Core.fIsNaN (FP.fmul (FP.fsub (fb m) FP.fconst1) 1258291200) = false ∧ FP.f2i (FP.fmul (FP.fsub (fb m) FP.fconst1) 1258291200) = nI (m - 1065353216) := by
  obtain ⟨t, ht⟩ : ∃ t, t = m - 1065353216 := ⟨_, rfl⟩
  have hy := fb_sub1 h1 h2
  rw [← ht] at hy ⊢
  have ht2 : t < 8388608 := by omega
  obtain ⟨c', q', e1, e2⟩ := FP.Core.round_exact FP.Core.good_b32 false (c := t) (q := -23) (show t < 16777216 by omega) (show (-149 : Int) ≤ -23 by decide) (show (-23 : Int) ≤ 104 by decide)
  have hq : (-149 : Int) ≤ q' := by
    have := FP.Core.val32_fits (FP.fsub (fb m) FP.fconst1)
    rw [hy, e1] at this
    exact this.2.1
  have e3 : c' * 2 ^ (q' + 149).toNat = t * 2 ^ 126 := e2
  have hf1 : FP.Core.FFin (FP.fsub (fb m) FP.fconst1) := ⟨_, _, _, hy.trans e1⟩
  have hf2 : FP.Core.FFin (1258291200 : UInt32) := ⟨_, _, _, c23_val⟩
  refine ⟨hf1.notNaN, FP.Core.fmul_out hf1 hf2, ?_⟩
  have hz : FP.Core.val32 (FP.fmul (FP.fsub (fb m) FP.fconst1) 1258291200) = FP.Core.round FP.Core.b32 (.fin false t 0) := by
    show FP.Core.val32 (FP.Core.fmul _ _) = _
    rw [FP.Core.val32_fmul, hy, e1, c23_val]
    show FP.Core.roundRatio FP.Core.b32 false (c' * 8388608) 1 (q' + 0) = FP.Core.roundRatio FP.Core.b32 false t 1 0
    refine FP.Core.roundRatio_congr (by decide) (by decide) ?_
    rw [Int.add_zero, Int.sub_zero, Nat.mul_one, Nat.mul_one]
    by_cases hs : 0 ≤ q'
    · rw [show (0 - q').toNat = 0 by omega, Nat.pow_zero, Nat.mul_one, Nat.mul_assoc, show 8388608 = 2 ^ 23 from rfl, ← Nat.pow_add]
      refine pw_cut (b := 126) ?_
      rw [show 23 + q'.toNat + 126 = (q' + 149).toNat by omega]
      exact e3
    · rw [show q'.toNat = 0 by omega, Nat.pow_zero, Nat.mul_one]
      have e4 : c' * 2 ^ (23 + (q' + 149).toNat) = t * 2 ^ (0 - q').toNat * 2 ^ (q' + 149).toNat := by
        rw [Nat.mul_assoc, ← Nat.pow_add, show (0 - q').toNat + (q' + 149).toNat = 23 + 126 by omega, Nat.add_comm 23, Nat.pow_add, ← Nat.mul_assoc, e3, Nat.mul_assoc, ← Nat.pow_add]
      exact pw_cut (a := 23) e4
  obtain ⟨c2, q2, g1, g2⟩ := FP.Core.round_exact FP.Core.good_b32 false (c := t) (q := 0) (show t < 16777216 by omega) (show (-149 : Int) ≤ 0 by decide) (show (0 : Int) ≤ 104 by decide)
  rw [g1] at hz
  show FP.Core.toI (FP.Core.val32 _) = _
  rw [hz]
  unfold FP.Core.toI
  rw [FP.Core.toInt_zmag FP.Core.good_b32 (by rw [← hz]; exact FP.Core.val32_fits _) FP.Core.Datum.noConfusion (by decide +kernel) (by decide +kernel) (by decide)]
  have g3 : FP.Core.zmag FP.Core.b32 (.fin false c2 q2) = t * 2 ^ 149 := g2
  rw [g3, show (-FP.Core.b32.qmin).toNat = 149 from by decide, Nat.mul_div_cancel _ (Nat.two_pow_pos _)]
  show Int32.ofInt (max (-2 ^ 31) (min (2 ^ 31 - 1) (t : Int))) = nI t
  rw [Int.min_eq_right (by omega), Int.max_eq_right (by omega)]
  rfl
