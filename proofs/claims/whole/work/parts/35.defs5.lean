
/-! shares -/
theorem vf64_of {r : UInt64} (h : FP.Core.dIsNaN r = false) : vf_n64 r := by
  unfold vf_n64
  have h2 : ¬ 9218868437227405312 < r.toNat % 2 ^ 63 := fun z => by
    have := (FP.Core.isNaN_bits r).mpr z
    rw [h] at this
    exact absurd this (by decide)
  rw [UInt64.le_iff_toNat_le, UInt64.toNat_and, show (0x7fffffffffffffff : UInt64).toNat = 2 ^ 63 - 1 from by decide +kernel, Nat.and_two_pow_sub_one_eq_mod, show (0x7ff0000000000000 : UInt64).toNat = 9218868437227405312 from by decide +kernel]
  omega
theorem vf32_of {r : UInt32} (h : FP.Core.fIsNaN r = false) : vf_n32 r := by
  unfold vf_n32
  have h2 : ¬ 2139095040 < r.toNat % 2 ^ 31 := fun z => by
    have := (FP.Core.isNaN_bits32 r).mpr z
    rw [h] at this
    exact absurd this (by decide)
  rw [UInt32.le_iff_toNat_le, UInt32.toNat_and, show (0x7fffffff : UInt32).toNat = 2 ^ 31 - 1 from by decide +kernel, Nat.and_two_pow_sub_one_eq_mod, show (0x7f800000 : UInt32).toNat = 2139095040 from by decide +kernel]
  omega
def share (k : Nat) : UInt64 := FP.ddiv FP.dconst1 (FP.i2d (nI (1 + k)))
theorem share_bits : ∀ k, k < 5 → (share k).toNat % 2 ^ 63 < 9218868437227405312 := by decide +kernel
theorem share_fin {k : Nat} (h : k ≤ 4) : FP.Core.DFin (share k) := (FP.Core.fin_bits _).mpr (share_bits k (by omega))
theorem share_ok {k : Nat} (h : k ≤ 4) : FP.Core.dIsNaN (share k) = false := by
  cases hz : FP.Core.dIsNaN (share k) with
  | false => rfl
  | true =>
    have h1 := (FP.Core.isNaN_bits _).mp hz
    have h2 := share_bits k (by omega)
    omega
def shS (g : Nat → Nat) : Nat → UInt64
  | 0 => FP.dconst0
  | k + 1 => FP.dadd (shS g k) (share (g k))
theorem shS_ok {g : Nat → Nat} (hg : ∀ r, g r ≤ 4) : ∀ k, FP.Core.dIsNaN (shS g k) = false
  | 0 => by
    show FP.Core.dIsNaN FP.dconst0 = false
    decide +kernel
  | k + 1 => FP.Core.dadd_out (shS_ok hg k) (share_fin (hg k))
theorem shS_congr {g h : Nat → Nat} : ∀ {n : Nat}, (∀ r, r < n → g r = h r) → shS g n = shS h n
  | 0, _ => rfl
  | n + 1, e => by
    show FP.dadd (shS g n) (share (g n)) = FP.dadd (shS h n) (share (h n))
    rw [shS_congr (n := n) (fun r hr => e r (by omega)), e n (by omega)]
/-- the length with a letter for each part -/
def pS (bg f : Nat → Nat) : Nat → Nat
  | 0 => 0
  | r + 1 => pS bg f r + (f r - bg (f r))
def partsOK (bg f : Nat → Nat) (n L : Nat) : Prop := ∀ r, r < n → bg (f r) ≤ f r ∧ f r ≤ L ∧ (0 < r → f (r - 1) ≤ bg (f r))
theorem pS_le {bg f : Nat → Nat} {n L : Nat} (h : partsOK bg f n L) : ∀ {r : Nat}, r < n → pS bg f (r + 1) ≤ f r
  | 0, hr => by
    show pS bg f 0 + _ ≤ _
    unfold pS
    omega
  | r + 1, hr => by
    have ih := pS_le h (r := r) (by omega)
    obtain ⟨h1, h2, h3⟩ := h (r + 1) hr
    have h4 : f r ≤ bg (f (r + 1)) := h3 (by omega)
    show pS bg f (r + 1) + (f (r + 1) - bg (f (r + 1))) ≤ _
    omega
theorem pS_L {bg f : Nat → Nat} {n L : Nat} (h : partsOK bg f n L) {r : Nat} (hr : r ≤ n) : pS bg f r ≤ L := by
  cases r with
  | zero => exact Nat.zero_le _
  | succ r =>
    have := pS_le h (r := r) (by omega)
    have := (h r (by omega)).2.1
    omega

theorem lwp_eq {L i p q d : Nat} (h1 : p ≤ L) (h2 : q ≤ L) (hq : q = p + d) (h3 : L + i < 2 ^ 30) : nI (L + i - p) + (nI 1 - nI d) = nI (L + (i + 1) - q) := by
  rw [Int32.add_comm, Int32.sub_eq_add_neg, Int32.add_assoc, Int32.add_comm (-nI d), ← Int32.sub_eq_add_neg, pk_sub (show d ≤ L + i - p by omega), nI_add]
  congr 1
  omega

/-- what the text becomes, part by part -/
def cpR (T t : Nat → Nat) (l p : Nat) : Nat → Nat → Nat
  | 0 => t
  | d + 1 => va_up (cpR T t l p d) (l + d) (T (p + d))
def repP (f : Nat → Nat) : Nat → Nat
  | 0 => 0
  | r + 1 => f r
def repL (bg f : Nat → Nat) (r : Nat) : Nat := repP f r + r - pS bg f r
def repT (T : Nat → Nat) (c : Nat) (bg f : Nat → Nat) : Nat → Nat → Nat
  | 0 => T
  | r + 1 => va_up (cpR T (repT T c bg f r) (repL bg f r) (repP f r) (bg (f r) - repP f r)) (repL bg f r + (bg (f r) - repP f r)) c
def repF (T : Nat → Nat) (c : Nat) (bg f : Nat → Nat) (L n : Nat) : Nat → Nat := cpR T (repT T c bg f n) (repL bg f n) (repP f n) (L - repP f n)
theorem repP_le {bg f : Nat → Nat} {n L r : Nat} (h : partsOK bg f n L) (hr : r < n) : repP f r ≤ bg (f r) := by
  cases r with
  | zero => exact Nat.zero_le _
  | succ r => exact (h (r + 1) hr).2.2 (by omega)
theorem repP_L {bg f : Nat → Nat} {n L r : Nat} (h : partsOK bg f n L) (hr : r ≤ n) : repP f r ≤ L := by
  cases r with
  | zero => exact Nat.zero_le _
  | succ r => exact (h r (by omega)).2.1
theorem pS_P {bg f : Nat → Nat} {n L r : Nat} (h : partsOK bg f n L) (hr : r ≤ n) : pS bg f r ≤ repP f r := by
  cases r with
  | zero => exact Nat.le_refl _
  | succ r => exact pS_le h (by omega)
theorem repL_s {bg f : Nat → Nat} {n L r : Nat} (h : partsOK bg f n L) (hr : r < n) : repL bg f (r + 1) = repL bg f r + (bg (f r) - repP f r) + 1 := by
  have h1 := repP_le h hr
  have h2 := pS_P h (Nat.le_of_lt hr)
  have h3 := (h r hr).1
  show f r + (r + 1) - (pS bg f r + (f r - bg (f r))) = repP f r + r - pS bg f r + (bg (f r) - repP f r) + 1
  omega
theorem repL_m {bg f : Nat → Nat} {n L : Nat} (h : partsOK bg f n L) {r : Nat} : ∀ {d : Nat}, r + d ≤ n → repL bg f r + d ≤ repL bg f (r + d)
  | 0, _ => Nat.le_refl _
  | d + 1, hd => by
    have ih := repL_m h (r := r) (d := d) (by omega)
    have h2 := repL_s h (r := r + d) (by omega)
    show repL bg f r + (d + 1) ≤ repL bg f (r + d + 1)
    omega
theorem repL_F {bg f : Nat → Nat} {n L : Nat} (h : partsOK bg f n L) : repL bg f n + (L - repP f n) = L + n - pS bg f n := by
  have h1 := repP_L h (Nat.le_refl n)
  have h2 := pS_P h (Nat.le_refl n)
  unfold repL
  omega
theorem va_cpy_0 {f g : Nat → Nat} {k : Nat} (h : k < 120) : va_cpy f g 0 0 120 k = f k := by
  unfold va_cpy
  rw [if_pos ⟨Nat.zero_le _, by omega⟩, Nat.sub_zero, Nat.zero_add]
