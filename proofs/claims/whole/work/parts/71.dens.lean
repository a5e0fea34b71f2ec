/-! how dense ends are: the float's bits -/
abbrev z64 (a : UInt64) : Nat := FP.Core.zmag FP.Core.b64 (FP.Core.val64 a)
def pos64 (a : UInt64) : Prop := ∃ c q, FP.Core.val64 a = .fin false c q
theorem pos_zval {a : UInt64} (h : pos64 a) : FP.Core.zval FP.Core.b64 (FP.Core.val64 a) = (z64 a : Int) := by
  obtain ⟨c, q, h⟩ := h
  unfold FP.Core.zval z64
  rw [h]
  rfl
theorem pos_of {a : UInt64} (h1 : FP.Core.DFin a) (h2 : FP.Core.sgn (FP.Core.val64 a) = false) : pos64 a := by
  obtain ⟨s, c, q, h⟩ := h1
  rw [h] at h2
  exact ⟨c, q, by rw [h, show s = false from h2]⟩
theorem share_z : ∀ k, k < 5 → FP.Core.sgn (FP.Core.val64 (share k)) = false ∧ 2 ^ 1071 ≤ z64 (share k) ∧ z64 (share k) ≤ 2 ^ 1074 := by decide +kernel
theorem i2d_z : ∀ k, k < 123 → FP.Core.sgn (FP.Core.val64 (FP.i2d (nI k))) = false ∧ z64 (FP.i2d (nI k)) = k * 2 ^ 1074 := by decide +kernel
theorem zero_z (g : Nat → Nat) : FP.Core.val64 (shS g 0) = .fin false 0 (-1074) := by
  show FP.Core.val64 FP.dconst0 = _
  decide +kernel
theorem i2d_pos {k : Nat} (h : k < 123) : pos64 (FP.i2d (nI k)) := pos_of (FP.Core.i2d_fin _) (i2d_z k h).1
theorem share_pos {k : Nat} (h : k ≤ 4) : pos64 (share k) := pos_of (share_fin h) (share_z k (by omega)).1
/-- an eighth -/
abbrev e8 : FP.Core.Datum := .fin false 4503599627370496 (-55)
theorem fits64 {q : Int} (h1 : -1074 ≤ q) (h2 : q ≤ 971) : FP.Core.fits FP.Core.b64 (.fin false 4503599627370496 q) := ⟨show 4503599627370496 < 2 ^ 53 by decide, h1, h2, Or.inr (Nat.le_refl _)⟩
theorem fits32 {q : Int} (h1 : -149 ≤ q) (h2 : q ≤ 104) : FP.Core.fits FP.Core.b32 (.fin false 8388608 q) := ⟨show 8388608 < 2 ^ 24 by decide, h1, h2, Or.inr (Nat.le_refl _)⟩
theorem e8_fits : FP.Core.fits FP.Core.b64 e8 := fits64 (by decide) (by decide)
theorem e8_z : FP.Core.zval FP.Core.b64 e8 = ((2 ^ 1071 : Nat) : Int) := by decide +kernel
theorem top_z : FP.Core.b64.tails * 2 ^ (FP.Core.b64.exps - 2) = 2 ^ 2098 := by decide +kernel
theorem sum_z {a b : UInt64} {n : Nat} (ha : pos64 a) (hb : pos64 b) (hn : n < 122) (h1 : z64 a ≤ n * 2 ^ 1074) (h2 : z64 b ≤ 2 ^ 1074) (h3 : 2 ^ 1071 ≤ z64 b) : pos64 (FP.dadd a b) ∧ z64 (FP.dadd a b) ≤ (n + 1) * 2 ^ 1074 ∧ 2 ^ 1071 ≤ z64 (FP.dadd a b) := by
  have za := pos_zval ha
  have zb := pos_zval hb
  obtain ⟨c, q, hc⟩ := ha
  obtain ⟨d, r, hd⟩ := hb
  have fa := FP.Core.val64_fits a
  have fb := FP.Core.val64_fits b
  rw [hc] at fa
  rw [hd] at fb
  obtain ⟨sg, k, e, e1, e2, e3⟩ := FP.Core.sum_units fa fb
  rw [← hc, ← hd, za, zb] at e3
  rw [← hc, ← hd] at e1
  have hv : FP.Core.val64 (FP.dadd a b) = FP.Core.round FP.Core.b64 (.fin sg k e) := by
    show FP.Core.val64 (FP.Core.dadd a b) = _
    rw [FP.Core.val64_dadd, e1]
  have p71 : 0 < 2 ^ 1071 := Nat.two_pow_pos _
  have hsg : sg = false := by
    cases sg with
    | false => rfl
    | true =>
      have : -((FP.Core.inUnits k e FP.Core.b64.qmin : Nat) : Int) = (z64 a : Int) + (z64 b : Int) := e3
      omega
  subst hsg
  have hV := i2d_pos (k := n + 1) (by omega)
  have zV := (i2d_z (n + 1) (by omega)).2
  have zV2 := pos_zval hV
  have hle := FP.Core.zval_round_le FP.Core.good_b64 (s := false) (c := k) (q := e) (e0 := FP.Core.b64.qmin) (V := FP.Core.val64 (FP.i2d (nI (n + 1)))) (FP.Core.val64_fits _) (by obtain ⟨c9, q9, h9⟩ := hV; rw [h9]; exact FP.Core.Datum.noConfusion) (Int.le_refl _) e2 (by
    rw [e3, zV2, zV, Int.sub_self]
    show _ ≤ _ * ((1 : Nat) : Int)
    rw [Nat.succ_mul]
    generalize n * 2 ^ 1074 = P at h1 ⊢
    generalize 2 ^ 1074 = Q at h2 ⊢
    omega)
  have hge := FP.Core.zval_round_ge FP.Core.good_b64 (s := false) (c := k) (q := e) (e0 := FP.Core.b64.qmin) (V := e8) e8_fits FP.Core.Datum.noConfusion (Int.le_refl _) e2 (by
    rw [e3, e8_z, Int.sub_self]
    show _ * ((1 : Nat) : Int) ≤ _
    generalize 2 ^ 1071 = Q at h3 ⊢
    omega)
  rw [← hv, zV2, zV] at hle
  rw [← hv, e8_z] at hge
  have hs : FP.Core.sgn (FP.Core.val64 (FP.dadd a b)) = false := by rw [hv]; exact FP.Core.sgn_roundRatio _ _ _ _ _
  have hz : FP.Core.zval FP.Core.b64 (FP.Core.val64 (FP.dadd a b)) = (z64 (FP.dadd a b) : Int) := by
    unfold FP.Core.zval
    rw [hs]
    rfl
  rw [hz] at hle hge
  have hle2 : z64 (FP.dadd a b) ≤ (n + 1) * 2 ^ 1074 := Int.ofNat_le.mp hle
  refine ⟨?_, hle2, Int.ofNat_le.mp hge⟩
  rcases FP.Core.roundRatio_cases FP.Core.b64 false k 1 e with ⟨c9, q9, h9⟩ | h9
  · exact ⟨c9, q9, hv.trans h9⟩
  · have h8 : z64 (FP.dadd a b) = 2 ^ 2098 := by
      unfold z64
      rw [hv, show FP.Core.round FP.Core.b64 (.fin false k e) = .inf false from h9]
      exact top_z
    rw [h8] at hle2
    have h7 : (n + 1) * 2 ^ 1074 ≤ 2 ^ 7 * 2 ^ 1074 := Nat.mul_le_mul_right _ (by omega)
    rw [← Nat.pow_add] at h7
    exact absurd (Nat.le_trans hle2 h7) (Nat.not_le.mpr (Nat.pow_lt_pow_right (by decide) (by decide)))
theorem shS_z {g : Nat → Nat} (hg : ∀ r, g r ≤ 4) : ∀ n, n < 122 → pos64 (shS g n) ∧ z64 (shS g n) ≤ n * 2 ^ 1074 ∧ (0 < n → 2 ^ 1071 ≤ z64 (shS g n))
  | 0, _ => ⟨⟨_, _, zero_z g⟩, by unfold z64; rw [zero_z g]; exact Nat.zero_le _, fun h => absurd h (Nat.lt_irrefl _)⟩
  | n + 1, hn => by
    obtain ⟨h1, h2, h3⟩ := shS_z hg n (by omega)
    obtain ⟨k1, k2, k3⟩ := share_z (g n) (by have := hg n; omega)
    obtain ⟨j1, j2, j3⟩ := sum_z h1 (share_pos (hg n)) (by omega) h2 k3 k2
    exact ⟨j1, j2, fun _ => j3⟩
/-- the quotient, in units -/
theorem quo_u {c d : Nat} {q r : Int} (hq : -1074 ≤ q) (hr : -1074 ≤ r) : FP.Core.inUnits c (q - r) (-1074 - ((r + 1074).toNat : Int)) = FP.Core.inUnits c q (-1074) * 2 ^ 1074 := by
  unfold FP.Core.inUnits
  rw [Nat.mul_assoc, ← Nat.pow_add]
  congr 2
  omega
theorem div_z {a b : UInt64} {n L : Nat} (ha : pos64 a) (hb : pos64 b) (h1 : z64 a ≤ n * 2 ^ 1074) (h3 : 2 ^ 1071 ≤ z64 a) (hz : z64 b = L * 2 ^ 1074) (hL : 0 < L) (hL2 : L < 128) (hn : n ≤ L) : pos64 (FP.ddiv a b) ∧ z64 (FP.ddiv a b) ≤ 2 ^ 1074 ∧ 2 ^ 1064 ≤ z64 (FP.ddiv a b) := by
  obtain ⟨c, q, hc⟩ := ha
  obtain ⟨d, r, hd⟩ := hb
  have fa := FP.Core.val64_fits a
  have fb := FP.Core.val64_fits b
  rw [hc] at fa
  rw [hd] at fb
  have hq : -1074 ≤ q := fa.2.1
  have hr : -1074 ≤ r := fb.2.1
  have za : z64 a = FP.Core.inUnits c q (-1074) := by unfold z64; rw [hc]; rfl
  have zb : z64 b = d * 2 ^ (r + 1074).toNat := by
    unfold z64
    rw [hd]
    rfl
  have p74 : 0 < 2 ^ 1074 := Nat.two_pow_pos _
  have hd0 : d ≠ 0 := fun z => by
    rw [z, Nat.zero_mul] at zb
    have := Nat.mul_pos hL p74
    omega
  have hv : FP.Core.val64 (FP.ddiv a b) = FP.Core.roundRatio FP.Core.b64 false c d (q - r) := by
    show FP.Core.val64 (FP.Core.ddiv a b) = _
    rw [FP.Core.val64_ddiv, hc, hd]
    show (if d = 0 then _ else _) = _
    rw [if_neg hd0]
    rfl
  have hab : z64 a ≤ z64 b := by
    rw [hz]
    exact Nat.le_trans h1 (Nat.mul_le_mul_right _ hn)
  have e0 : (FP.Core.b64.qmin - (-1074 - ((r + 1074).toNat : Int))).toNat = (r + 1074).toNat := by
    show (-1074 - (-1074 - ((r + 1074).toNat : Int))).toNat = _
    omega
  have hle := FP.Core.zmag_roundRatio_le FP.Core.good_b64 (s := false) (A := c) (B := d) (e := q - r) (e0 := -1074 - ((r + 1074).toNat : Int)) (V := .fin false 4503599627370496 (-52)) (by omega) (fits64 (by decide) (by decide)) FP.Core.Datum.noConfusion (by show _ ≤ (-1074 : Int); omega) (by omega) (by
    rw [quo_u (d := d) hq hr, ← za, e0, show FP.Core.zmag FP.Core.b64 (.fin false 4503599627370496 (-52)) = 2 ^ 1074 from by decide +kernel, Nat.mul_assoc, Nat.mul_comm (2 ^ (r + 1074).toNat) d, ← zb, Nat.mul_comm]
    exact Nat.mul_le_mul_left _ hab)
  have hge := FP.Core.zmag_roundRatio_ge FP.Core.good_b64 (s := false) (A := c) (B := d) (e := q - r) (e0 := -1074 - ((r + 1074).toNat : Int)) (V := .fin false 4503599627370496 (-62)) (by omega) (fits64 (by decide) (by decide)) (by show _ ≤ (-1074 : Int); omega) (by omega) (by
    rw [quo_u (d := d) hq hr, ← za, e0, show FP.Core.zmag FP.Core.b64 (.fin false 4503599627370496 (-62)) = 2 ^ 1064 from by decide +kernel, Nat.mul_assoc, Nat.mul_comm (2 ^ (r + 1074).toNat) d, ← zb, hz]
    have g1 : L * 2 ^ 1074 ≤ 2 ^ 7 * 2 ^ 1074 := Nat.mul_le_mul_right _ (by omega)
    refine Nat.le_trans (Nat.mul_le_mul_left _ g1) ?_
    rw [← Nat.mul_assoc, ← Nat.pow_add]
    exact Nat.mul_le_mul_right _ h3)
  rw [← hv, show FP.Core.zmag FP.Core.b64 (.fin false 4503599627370496 (-52)) = 2 ^ 1074 from by decide +kernel] at hle
  rw [← hv, show FP.Core.zmag FP.Core.b64 (.fin false 4503599627370496 (-62)) = 2 ^ 1064 from by decide +kernel] at hge
  refine ⟨?_, hle, hge⟩
  rcases FP.Core.roundRatio_cases FP.Core.b64 false c d (q - r) with ⟨c9, q9, h9⟩ | h9
  · exact ⟨c9, q9, hv.trans h9⟩
  · have h8 : z64 (FP.ddiv a b) = 2 ^ 2098 := by
      unfold z64
      rw [hv, h9]
      exact top_z
    have hle2 : z64 (FP.ddiv a b) ≤ 2 ^ 1074 := hle
    rw [h8] at hle2
    exact absurd hle2 (Nat.not_le.mpr (Nat.pow_lt_pow_right (by decide) (by decide)))
theorem flt_z {a : UInt64} (ha : pos64 a) (h1 : z64 a ≤ 2 ^ 1074) (h2 : 2 ^ 1064 ≤ z64 a) : 981467136 ≤ (FP.Core.d2f a).toNat ∧ (FP.Core.d2f a).toNat ≤ 1065353216 := by
  obtain ⟨c, q, hc⟩ := ha
  have fa := FP.Core.val64_fits a
  rw [hc] at fa
  have hq : -1074 ≤ q := fa.2.1
  have za : z64 a = FP.Core.inUnits c q (-1074) := by unfold z64; rw [hc]; rfl
  have hv : FP.Core.val32 (FP.Core.d2f a) = FP.Core.roundRatio FP.Core.b32 false c 1 q := by
    rw [FP.Core.val32_d2f, hc]
    rfl
  have hle := FP.Core.zmag_roundRatio_le FP.Core.good_b32 (s := false) (A := c) (B := 1) (e := q) (e0 := -1074) (V := .fin false 8388608 (-23)) (by decide) (fits32 (by decide) (by decide)) FP.Core.Datum.noConfusion (by decide) hq (by
    rw [← za, show FP.Core.zmag FP.Core.b32 (.fin false 8388608 (-23)) * 2 ^ (FP.Core.b32.qmin - -1074).toNat * 1 = 2 ^ 1074 from by decide +kernel]
    exact h1)
  have hge := FP.Core.zmag_roundRatio_ge FP.Core.good_b32 (s := false) (A := c) (B := 1) (e := q) (e0 := -1074) (V := .fin false 8388608 (-33)) (by decide) (fits32 (by decide) (by decide)) (by decide) hq (by
    rw [← za, show FP.Core.zmag FP.Core.b32 (.fin false 8388608 (-33)) * 2 ^ (FP.Core.b32.qmin - -1074).toNat * 1 = 2 ^ 1064 from by decide +kernel]
    exact h2)
  have hnn : FP.Core.val32 (FP.Core.d2f a) ≠ .nan := by rw [hv]; exact FP.Core.roundRatio_ne_nan _ _ _ _ _
  rw [← hv, FP.Core.zmag_toNat32 hnn, show FP.Core.zmag FP.Core.b32 (.fin false 8388608 (-23)) = FP.Core.unitsOf FP.Core.b32 1065353216 from by decide +kernel, FP.Core.unitsOf_le_iff] at hle
  rw [← hv, FP.Core.zmag_toNat32 hnn, show FP.Core.zmag FP.Core.b32 (.fin false 8388608 (-33)) = FP.Core.unitsOf FP.Core.b32 981467136 from by decide +kernel, FP.Core.unitsOf_le_iff] at hge
  have hs : FP.Core.sgn (FP.Core.val32 (FP.Core.d2f a)) = false := by rw [hv]; exact FP.Core.sgn_roundRatio _ _ _ _ _
  rw [FP.Core.sgn_bits32 hnn] at hs
  have hs2 := of_decide_eq_false hs
  omega
theorem dens_0 : ∀ L, L < 122 → 0 < L → FP.d2f (FP.ddiv FP.dconst0 (FP.i2d (nI L))) = 0 := by decide +kernel
/-- the bits of what is dense: none, or an ordinary float up to 1 -/
theorem dens_bits {g : Nat → Nat} (hg : ∀ r, g r ≤ 4) {n L : Nat} (hn : n ≤ L) (hL : 0 < L) (hL2 : L < 122) : ∃ m, FP.d2f (FP.ddiv (shS g n) (FP.i2d (nI L))) = fb m ∧ (m = 0 ∨ (981467136 ≤ m ∧ m ≤ 1065353216)) := by
  cases n with
  | zero => exact ⟨0, (dens_0 L hL2 hL).trans rfl, Or.inl rfl⟩
  | succ n =>
    obtain ⟨h1, h2, h3⟩ := shS_z hg (n + 1) (by omega)
    obtain ⟨k1, k2, k3⟩ := div_z h1 (i2d_pos (by omega)) h2 (h3 (by omega)) (i2d_z L (by omega)).2 hL (by omega) hn
    have hz := flt_z k1 k2 k3
    have hnn : FP.dIsNaN (FP.ddiv (shS g (n + 1)) (FP.i2d (nI L))) = false := by
      obtain ⟨c, q, hc⟩ := k1
      exact (FP.Core.DFin.notNaN ⟨_, _, _, hc⟩)
    rw [FP.d2f_core hnn]
    exact ⟨_, (fb_of _).symm, Or.inr hz⟩
