
/-! the reference: its cells -/
theorem lgc_lt {a b : Int64} : lg_cmp a b < 0 ↔ a.toInt < b.toInt := by
  unfold lg_cmp
  rw [← Int64.lt_iff_toInt_lt]
  by_cases h1 : b < a
  · rw [if_pos h1]
    rw [Int64.lt_iff_toInt_lt] at h1
    rw [Int64.lt_iff_toInt_lt]
    exact ⟨fun z => absurd z (by decide), fun z => absurd z (by omega)⟩
  · rw [if_neg h1]
    by_cases h2 : a = b
    · subst h2
      rw [if_pos rfl]
      exact ⟨fun z => absurd z (by decide), fun z => absurd z h1⟩
    · rw [if_neg h2]
      refine ⟨fun _ => ?_, fun _ => by decide⟩
      rw [Int64.lt_iff_toInt_lt] at h1 ⊢
      have h3 : a.toInt ≠ b.toInt := fun z => h2 (Int64.toInt_inj.mp z)
      omega
theorem lgc_gt {a b : Int64} : 0 < lg_cmp a b ↔ b.toInt < a.toInt := by
  unfold lg_cmp
  rw [← Int64.lt_iff_toInt_lt]
  by_cases h1 : b < a
  · rw [if_pos h1]
    exact ⟨fun _ => h1, fun _ => by decide⟩
  · rw [if_neg h1]
    by_cases h2 : a = b
    · rw [if_pos h2]
      exact ⟨fun z => absurd z (by decide), fun z => absurd z h1⟩
    · rw [if_neg h2]
      exact ⟨fun z => absurd z (by decide), fun z => absurd z h1⟩
def inL (x lo hi : Int64) : Bool := decide (lo.toInt ≤ x.toInt ∧ x.toInt ≤ hi.toInt)
theorem inL_n {a b c : Nat} (ha : a < 2 ^ 31) (hb : b < 2 ^ 31) (hc : c < 2 ^ 31) : inL (lN a) (lN b) (lN c) = decide (b ≤ a ∧ a ≤ c) := by
  unfold inL
  rw [lN_toInt ha, lN_toInt hb, lN_toInt hc]
  exact decide_eq_decide.mpr (by omega)
abbrev aLen (a : Nat → Nat) : Nat := a 0
abbrev aPc (a : Nat → Nat) : Nat := a 1
abbrev aMost (a : Nat → Nat) : Nat := a 2
def aTx (a : Nat → Nat) (i : Nat) : Nat := a (3 + i)
def aPl (a : Nat → Nat) (p : Nat) : Nat := a (123 + 62 * p)
def aBd (a : Nat → Nat) (p : Nat) : Nat := a (124 + 62 * p)
def aTk (a : Nat → Nat) (p j : Nat) : Nat := a (125 + 62 * p + j)
def aMb (a : Nat → Nat) (p e : Nat) : Bool := decide (aBd a p = 0 ∨ e = 0 ∨ aTx a (e - 1) = 26)
def aTt (a : Nat → Nat) (p j e : Nat) : Bool := (aTk a p j).testBit (aTx a e)

theorem shr_k : ∀ k, k < 31 → ((nI k &&& 31).toBitVec.smod 32).toNat = k := by decide +kernel
theorem shr_var {n k : Nat} (hn : n < 2 ^ 31) (hk : k < 31) : nI n >>> (nI k &&& 31) = nI (n / 2 ^ k) := pk_shrN hn _ k (shr_k k hk)

def cellK (f : Nat → Nat) (g : Nat → Int32) (i k : Nat) : Prop := f i = k / 128 ∧ g i = nI (127 - k % 128)
def cellO (f : Nat → Nat) (g : Nat → Int32) (i : Nat) : Option Nat → Prop
  | none => f i = 1000 ∧ g i = (-5)
  | some k => cellK f g i k
def optMin : Option Nat → Nat → Nat
  | none, k => k
  | some j, k => min j k
theorem nI_leN {a b : Nat} (ha : a < 2 ^ 31) (hb : b < 2 ^ 31) : nI a ≤ nI b ↔ a ≤ b := by
  rw [Int32.le_iff_toInt_le, nI_toInt ha, nI_toInt hb]
  omega
theorem try_st {f : Nat → Nat} {g : Nat → Int32} {i k : Nat} {ko : Option Nat} (hko : cellO f g i ko) (h : k / 128 < f i ∨ (k / 128 = f i ∧ ¬ nI (127 - k % 128) ≤ g i)) : cellK (va_up f i (k / 128)) (upd g i (nI (127 - k % 128))) i (optMin ko k) := by
  cases ko with
  | none => exact ⟨va_up_self _ _ _, pk_us⟩
  | some j =>
    obtain ⟨h1, h2⟩ := hko
    have h3 : k ≤ j := by
      rw [h1, h2, nI_leN (by omega) (by omega)] at h
      omega
    show cellK _ _ i (min j k)
    rw [Nat.min_eq_right h3]
    exact ⟨va_up_self _ _ _, pk_us⟩
theorem try_no {f : Nat → Nat} {g : Nat → Int32} {i k : Nat} {ko : Option Nat} (hk : k < 100000) (hko : cellO f g i ko) (h : ¬ k / 128 < f i) (h' : k / 128 ≠ f i ∨ nI (127 - k % 128) ≤ g i) : cellK f g i (optMin ko k) := by
  cases ko with
  | none =>
    obtain ⟨h1, h2⟩ := hko
    exact absurd h (by omega)
  | some j =>
    obtain ⟨h1, h2⟩ := hko
    have h3 : j ≤ k := by
      rw [h1, h2, nI_leN (by omega) (by omega)] at h'
      rw [h1] at h
      omega
    show cellK _ _ i (min j k)
    rw [Nat.min_eq_left h3]
    exact ⟨h1, h2⟩

theorem aMb_0 (a : Nat → Nat) (p : Nat) : aMb a p 0 = true := decide_eq_true (Or.inr (Or.inl rfl))
section KFIN
variable {tk : Nat → Nat → Bool} {mb : Nat → Bool} {e i : Nat}
theorem kfA : 127 - 0 = kcol tk mb 0 0 := rfl
theorem kfB (h0 : 0 < e) (h : mb e = true) : min (127 - e) (kcol tk mb (e - 1) 0 + 128) = kcol tk mb e 0 := by
  obtain ⟨e, rfl⟩ : ∃ k, e = k + 1 := ⟨e - 1, by omega⟩
  rw [kcol_s0, if_pos h, Nat.add_sub_cancel]
  omega
theorem kfC (h0 : 0 < e) (h : mb e = false) : kcol tk mb (e - 1) 0 + 128 = kcol tk mb e 0 := by
  obtain ⟨e, rfl⟩ : ∃ k, e = k + 1 := ⟨e - 1, by omega⟩
  rw [kcol_s0, if_neg (by rw [h]; decide), Nat.add_sub_cancel]
theorem kfD (h0 : 0 < i) : kcol tk mb 0 (i - 1) + 128 = kcol tk mb 0 i := by
  rw [kcol_0, kcol_0]
  omega
theorem kfE (h0 : 0 < i) (h1 : 0 < e) : min (min (kcol tk mb (e - 1) i + 128) (kcol tk mb e (i - 1) + 128)) (kcol tk mb (e - 1) (i - 1) + if tk (i - 1) (e - 1) = true then 0 else 128) = kcol tk mb e i := by
  obtain ⟨e, rfl⟩ : ∃ k, e = k + 1 := ⟨e - 1, by omega⟩
  obtain ⟨i, rfl⟩ : ∃ k, i = k + 1 := ⟨i - 1, by omega⟩
  rw [kcol_ss, Nat.add_sub_cancel, Nat.add_sub_cancel]
  omega
end KFIN

theorem optMin_lt {k b : Nat} (h : k < b) : optMin none k < b := h
theorem optMin_lt2 {j k b : Nat} (h : j < b) (h2 : k < b) : optMin (some j) k < b := by
  show min j k < b
  omega
