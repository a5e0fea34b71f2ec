
/-! the reference: the best, shares, ways -/
@[irreducible] def pop31 (x : Nat) : Nat := popN 31 x
theorem pop31_eq (x : Nat) : popN 31 x = pop31 x := by unfold pop31; rfl
theorem pop31_le (x : Nat) : pop31 x ≤ 31 := by unfold pop31; exact popN_le 31 x
def plainM (f : Nat → Nat) : Nat → Bool
  | 0 => true
  | k + 1 => plainM f k && decide (pop31 (f k) = 1)
theorem plainM_t {f : Nat → Nat} {k : Nat} (h : plainM f k = true) (h2 : pop31 (f k) = 1) : plainM f (k + 1) = true := by
  show (plainM f k && _) = true
  rw [h, decide_eq_true h2]
  rfl
theorem plainM_f1 {f : Nat → Nat} {k : Nat} (h2 : ¬ pop31 (f k) = 1) : plainM f (k + 1) = false := by
  show (plainM f k && _) = false
  rw [decide_eq_false h2, Bool.and_false]
theorem plainM_f2 {f : Nat → Nat} {k : Nat} (h : plainM f k = false) : plainM f (k + 1) = false := by
  show (plainM f k && _) = false
  rw [h, Bool.false_and]
def mHl (S : MS) : Nat := if m_hlong S = 4 then 3 else m_hlong S
def mHd (S : MS) : Nat := if m_hlong S = 4 then 1 else 0
def recM (S : MS) (h : Nat → Nat) : Prop := (∀ k i, k < mHl S → i < 496 → h (496 * k + i) = m_hist S (496 * (k + mHd S) + i)) ∧ ∀ i, i < 496 → h (496 * mHl S + i) = m_kept S i
/-- the fewest slips of a part, and how they are put together -/
def dw (tk : Nat → Nat → Bool) (fr e i : Nat) : Nat := wcol tk fr e i / 2097152
theorem dw_0 (tk : Nat → Nat → Bool) (fr i : Nat) (h : i ≤ 60) : dw tk fr 0 i = i := by
  unfold dw
  rw [wcol_0]
  omega
theorem wcol_lo (tk : Nat → Nat → Bool) (fr : Nat) {e i : Nat} (he : e ≤ 120) (hi : i ≤ 60) : ∃ a b c, a + b + c ≤ 120 ∧ wcol tk fr e i = 2097152 * (a + b + c) + 16384 * a + 128 * b + c := by
  obtain ⟨a, b, c, h1, h2⟩ := wcol_way tk fr e i he hi
  exact ⟨a, b, c, by omega, h2⟩
theorem dw_s0 (tk : Nat → Nat → Bool) (fr : Nat) {e : Nat} (he : e ≤ 120) : dw tk fr (e + 1) 0 = dw tk fr e 0 + 1 := by
  obtain ⟨a, b, c, h1, h2⟩ := wcol_lo tk fr (e := e) (i := 0) he (by omega)
  unfold dw
  rw [wcol_s0, h2]
  omega
theorem fof_div (a b : Nat) : fof a b / 2097152 = min (a / 2097152) (b / 2097152) := by
  unfold fof
  split <;> omega
theorem dw_ss (tk : Nat → Nat → Bool) (fr : Nat) {e i : Nat} (he : e < 120) (hi : i < 60) : dw tk fr (e + 1) (i + 1) = min (min (dw tk fr e i + if tk i (fr + e) = true then 0 else 1) (dw tk fr e (i + 1) + 1)) (dw tk fr (e + 1) i + 1) := by
  obtain ⟨a, b, c, h1, h2⟩ := wcol_lo tk fr (e := e) (i := i) (by omega) (by omega)
  obtain ⟨a', b', c', h1', h2'⟩ := wcol_lo tk fr (e := e) (i := i + 1) (by omega) (by omega)
  obtain ⟨a'', b'', c'', h1'', h2''⟩ := wcol_lo tk fr (e := e + 1) (i := i) (by omega) (by omega)
  unfold dw
  rw [wcol_ss, fof_div, fof_div, h2, h2', h2'']
  split <;> omega
theorem dw_le (tk : Nat → Nat → Bool) (fr : Nat) {e i : Nat} (he : e ≤ 120) (hi : i ≤ 60) : dw tk fr e i ≤ 120 := by
  obtain ⟨a, b, c, h1, h2⟩ := wcol_lo tk fr he hi
  unfold dw
  rw [h2]
  omega
def byN (tk : Nat → Nat → Bool) (fr e i : Nat) : Nat := if 0 < i ∧ 0 < e ∧ tk (i - 1) (fr + e - 1) = true then 0 else 1
theorem dw_fin {tk : Nat → Nat → Bool} {fr e i q0 q1 q2 q3 : Nat} (he : e ≤ 120) (hi : i ≤ 60) (h0 : q0 = if i = 0 ∧ e = 0 then 0 else 1000) (h1 : q1 = if 0 < e then min (dw tk fr (e - 1) i + 1) q0 else q0) (h2 : q2 = if 0 < i then min (dw tk fr e (i - 1) + 1) q1 else q1) (h3 : q3 = if 0 < i ∧ 0 < e then min (dw tk fr (e - 1) (i - 1) + byN tk fr e i) q2 else q2) : q3 = dw tk fr e i := by
  cases e with
  | zero =>
    rw [if_neg (by omega)] at h1
    rw [if_neg (by omega)] at h3
    rw [dw_0 tk fr i hi]
    cases i with
    | zero => rw [if_neg (by omega)] at h2; rw [if_pos ⟨rfl, rfl⟩] at h0; omega
    | succ i =>
      rw [if_pos (by omega), Nat.add_sub_cancel, dw_0 tk fr i (by omega)] at h2
      rw [if_neg (by omega)] at h0
      omega
  | succ e =>
    rw [if_pos (by omega), Nat.add_sub_cancel] at h1
    rw [if_neg (by omega)] at h0
    cases i with
    | zero =>
      rw [if_neg (by omega)] at h2
      rw [if_neg (by omega)] at h3
      rw [dw_s0 tk fr (by omega)]
      have := dw_le tk fr (e := e) (i := 0) (by omega) (by omega)
      omega
    | succ i =>
      rw [if_pos (by omega), Nat.add_sub_cancel] at h2
      rw [if_pos (by omega), Nat.add_sub_cancel] at h3
      have hb : byN tk fr (e + 1) (i + 1) = if tk i (fr + e) = true then 0 else 1 := by
        unfold byN
        rw [Nat.add_sub_cancel, ← Nat.add_assoc, Nat.add_sub_cancel]
        cases tk i (fr + e) with
        | true => rw [if_pos ⟨by omega, by omega, rfl⟩, if_pos rfl]
        | false => rw [if_neg (fun z => absurd z.2.2 (by decide)), if_neg (by decide)]
      have := dw_le tk fr (e := e) (i := i + 1) (by omega) (by omega)
      rw [dw_ss tk fr (by omega) (by omega), ← hb]
      omega
/-- a step back -/
theorem back_diag {tk : Nat → Nat → Bool} {fr e i : Nat} (he : e < 120) (hi : i < 60) (h : dw tk fr (e + 1) (i + 1) = dw tk fr e i + if tk i (fr + e) = true then 0 else 1) : wcol tk fr (e + 1) (i + 1) = wcol tk fr e i + if tk i (fr + e) = true then 0 else 2097153 := by
  have h2 := dw_ss tk fr he hi
  obtain ⟨a, b, c, h1, h3⟩ := wcol_lo tk fr (e := e) (i := i) (by omega) (by omega)
  obtain ⟨a', b', c', h1', h3'⟩ := wcol_lo tk fr (e := e) (i := i + 1) (by omega) (by omega)
  obtain ⟨a'', b'', c'', h1'', h3''⟩ := wcol_lo tk fr (e := e + 1) (i := i) (by omega) (by omega)
  rw [h] at h2
  have k1 : dw tk fr e i = a + b + c := by unfold dw; omega
  have k2 : dw tk fr e (i + 1) = a' + b' + c' := by unfold dw; omega
  have k3 : dw tk fr (e + 1) i = a'' + b'' + c'' := by unfold dw; omega
  rw [wcol_ss]
  cases ht : tk i (fr + e) with
  | true =>
    simp only [ht, if_true] at h2 ⊢
    unfold fof
    rw [if_neg (show ¬ (wcol tk fr e (i + 1) + 2113536) / 2097152 < (wcol tk fr e i + 0) / 2097152 by omega), if_neg (by omega)]
  | false =>
    simp only [ht, Bool.false_eq_true, if_false] at h2 ⊢
    unfold fof
    rw [if_neg (show ¬ (wcol tk fr e (i + 1) + 2113536) / 2097152 < (wcol tk fr e i + 2097153) / 2097152 by omega), if_neg (by omega)]
theorem back_put {tk : Nat → Nat → Bool} {fr e i : Nat} (he : e < 120) (hi : i ≤ 60) (hd : 0 < i → dw tk fr (e + 1) i ≠ dw tk fr e (i - 1) + if tk (i - 1) (fr + e) = true then 0 else 1) (h : dw tk fr (e + 1) i = dw tk fr e i + 1) : wcol tk fr (e + 1) i = wcol tk fr e i + 2113536 := by
  cases i with
  | zero => exact wcol_s0 tk fr e
  | succ i =>
    have hd := hd (by omega)
    rw [Nat.add_sub_cancel] at hd
    have h2 := dw_ss tk fr he (show i < 60 by omega)
    obtain ⟨a, b, c, h1, h3⟩ := wcol_lo tk fr (e := e) (i := i) (by omega) (by omega)
    obtain ⟨a', b', c', h1', h3'⟩ := wcol_lo tk fr (e := e) (i := i + 1) (by omega) (by omega)
    obtain ⟨a'', b'', c'', h1'', h3''⟩ := wcol_lo tk fr (e := e + 1) (i := i) (by omega) (by omega)
    have k1 : dw tk fr e i = a + b + c := by unfold dw; omega
    have k2 : dw tk fr e (i + 1) = a' + b' + c' := by unfold dw; omega
    have k3 : dw tk fr (e + 1) i = a'' + b'' + c'' := by unfold dw; omega
    rw [wcol_ss]
    cases ht : tk i (fr + e) with
    | true =>
      simp only [ht, if_true] at h2 hd ⊢
      unfold fof
      rw [if_pos (show (wcol tk fr e (i + 1) + 2113536) / 2097152 < (wcol tk fr e i + 0) / 2097152 by omega), if_neg (by omega)]
    | false =>
      simp only [ht, Bool.false_eq_true, if_false] at h2 hd ⊢
      unfold fof
      rw [if_pos (show (wcol tk fr e (i + 1) + 2113536) / 2097152 < (wcol tk fr e i + 2097153) / 2097152 by omega), if_neg (by omega)]
theorem back_left {tk : Nat → Nat → Bool} {fr e i : Nat} (he : e ≤ 120) (hi : i < 60) (hd : 0 < e → dw tk fr e (i + 1) ≠ dw tk fr (e - 1) i + if tk i (fr + (e - 1)) = true then 0 else 1) (h : 0 < e → dw tk fr e (i + 1) ≠ dw tk fr (e - 1) (i + 1) + 1) : wcol tk fr e (i + 1) = wcol tk fr e i + 2097280 := by
  cases e with
  | zero => rw [wcol_0, wcol_0]; omega
  | succ e =>
    have hd := hd (by omega)
    have h := h (by omega)
    rw [Nat.add_sub_cancel] at hd h
    have h2 := dw_ss tk fr (show e < 120 by omega) hi
    obtain ⟨a, b, c, h1, h3⟩ := wcol_lo tk fr (e := e) (i := i) (by omega) (by omega)
    obtain ⟨a', b', c', h1', h3'⟩ := wcol_lo tk fr (e := e) (i := i + 1) (by omega) (by omega)
    obtain ⟨a'', b'', c'', h1'', h3''⟩ := wcol_lo tk fr (e := e + 1) (i := i) (by omega) (by omega)
    have k1 : dw tk fr e i = a + b + c := by unfold dw; omega
    have k2 : dw tk fr e (i + 1) = a' + b' + c' := by unfold dw; omega
    have k3 : dw tk fr (e + 1) i = a'' + b'' + c'' := by unfold dw; omega
    rw [wcol_ss]
    unfold fof
    rw [if_pos ?_]
    cases ht : tk i (fr + e) with
    | true =>
      simp only [ht, if_true] at h2 hd ⊢
      split <;> omega
    | false =>
      simp only [ht, Bool.false_eq_true, if_false] at h2 hd ⊢
      split <;> omega

theorem dw_pos {tk : Nat → Nat → Bool} {fr e : Nat} (he : e < 120) : dw tk fr (e + 1) 0 = dw tk fr e 0 + 1 := dw_s0 tk fr (by omega)
def wsum (a b c : Nat) : Nat := 2113536 * a + 2097280 * b + 2097153 * c
theorem way_of {tk : Nat → Nat → Bool} {fr D P a b c : Nat} (hD : D ≤ 120) (hP : P ≤ 60) (h : wsum a b c = wcol tk fr D P) : a + b + c = wcol tk fr D P / 2097152 ∧ a = wcol tk fr D P / 16384 % 128 ∧ b = wcol tk fr D P / 128 % 128 ∧ c = wcol tk fr D P % 128 := by
  obtain ⟨a', b', c', h1, h2⟩ := wcol_lo tk fr hD hP
  unfold wsum at h
  omega
