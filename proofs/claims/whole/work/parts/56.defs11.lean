
/-! the reference: the best, shares, ways -/
theorem pop31_bc {x : Nat} (h : x < 268435456) : popN 31 x = bcN x := by
  rw [bcN_pop h]
  exact (popN_more (k := 31) (Nat.lt_trans h (by decide)) 1).symm
theorem plainM_f1 {f : Nat → Nat} {k : Nat} (h2 : ¬ bcN (f k) = 1) : plainQ f (k + 1) = false := by
  show (plainQ f k && _) = false
  rw [decide_eq_false h2, Bool.and_false]
theorem plainM_f2 {f : Nat → Nat} {k : Nat} (h : plainQ f k = false) : plainQ f (k + 1) = false := by
  show (plainQ f k && _) = false
  rw [h, Bool.false_and]
def mHl (S : MS) : Nat := if m_hlong S = 4 then 3 else m_hlong S
def mHd (S : MS) : Nat := if m_hlong S = 4 then 1 else 0
def recM (S : MS) (h : Nat → Nat) : Prop := (∀ k i, k < mHl S → i < 496 → h (496 * k + i) = m_hist S (496 * (k + mHd S) + i)) ∧ ∀ i, i < 496 → h (496 * mHl S + i) = m_kept S i
/-- the fewest slips of a part, and how they are put together -/
def dw (tk : Nat → Nat → Bool) (fr e i : Nat) : Nat := wcol tk fr e i / 2097152
theorem dw_0 (tk : Nat → Nat → Bool) (fr i : Nat) (h : i ≤ 60) : dw tk fr 0 i = i := by
  unfold dw
  rw [wcol_0]
  omega
theorem wcol_lo (tk : Nat → Nat → Bool) (fr : Nat) {e i : Nat} (he : e ≤ 120) (hi : i ≤ 60) : ∃ a b c, a + b + c ≤ 120 ∧ wcol tk fr e i = 2097152 * (a + b + c) + 16384 * a + 128 * b + c := by
  obtain ⟨a, b, c, h1, h2⟩ := wcol_way tk fr e i he hi
  exact ⟨a, b, c, by omega, h2⟩
theorem dq9 {s low w : Nat} (h : w = 2097152 * s + low) (hl : low < 2097152) : w / 2097152 = s := by
  subst h
  rw [Nat.mul_add_div (by decide), Nat.div_eq_of_lt hl, Nat.add_zero]
theorem dwq (tk : Nat → Nat → Bool) (fr : Nat) {e i : Nat} (he : e ≤ 120) (hi : i ≤ 60) : (wcol tk fr e i + 0) / 2097152 = dw tk fr e i ∧ (wcol tk fr e i + 2113536) / 2097152 = dw tk fr e i + 1 ∧ (wcol tk fr e i + 2097280) / 2097152 = dw tk fr e i + 1 ∧ (wcol tk fr e i + 2097153) / 2097152 = dw tk fr e i + 1 := by
  obtain ⟨a, b, c, h1, h2⟩ := wcol_lo tk fr he hi
  have k1 : dw tk fr e i = a + b + c := dq9 (low := 16384 * a + 128 * b + c) (by omega) (by omega)
  rw [k1]
  exact ⟨dq9 (low := 16384 * a + 128 * b + c) (by omega) (by omega), dq9 (low := 16384 * (a + 1) + 128 * b + c) (by omega) (by omega), dq9 (low := 16384 * a + 128 * (b + 1) + c) (by omega) (by omega), dq9 (low := 16384 * a + 128 * b + (c + 1)) (by omega) (by omega)⟩
theorem dw_s0 (tk : Nat → Nat → Bool) (fr : Nat) {e : Nat} (he : e ≤ 120) : dw tk fr (e + 1) 0 = dw tk fr e 0 + 1 := (dwq tk fr (e := e) (i := 0) he (by omega)).2.1
theorem fof_div (a b : Nat) : fof a b / 2097152 = min (a / 2097152) (b / 2097152) := by
  unfold fof
  split <;> omega
theorem fof_l {a b : Nat} (h : a / 2097152 ≤ b / 2097152) : fof a b = a := if_neg (by omega)
theorem fof_r {a b : Nat} (h : b / 2097152 < a / 2097152) : fof a b = b := if_pos h
def ex9 (tk : Nat → Nat → Bool) (i e : Nat) : Nat := if tk i e = true then 0 else 1
def ey9 (tk : Nat → Nat → Bool) (i e : Nat) : Nat := if tk i e = true then 0 else 2097153
theorem dwq9 (tk : Nat → Nat → Bool) (fr : Nat) {e i j k : Nat} (he : e ≤ 120) (hi : i ≤ 60) : (wcol tk fr e i + ey9 tk j k) / 2097152 = dw tk fr e i + ex9 tk j k := by
  have h := dwq tk fr he hi
  unfold ex9 ey9
  by_cases hb : tk j k = true
  · rw [if_pos hb, if_pos hb]; exact h.1
  · rw [if_neg hb, if_neg hb]; exact h.2.2.2
theorem dw_ss (tk : Nat → Nat → Bool) (fr : Nat) {e i : Nat} (he : e < 120) (hi : i < 60) : dw tk fr (e + 1) (i + 1) = min (min (dw tk fr e i + ex9 tk i (fr + e)) (dw tk fr e (i + 1) + 1)) (dw tk fr (e + 1) i + 1) := by
  have h1 := dwq9 tk fr (e := e) (i := i) (j := i) (k := fr + e) (by omega) (by omega)
  have h2 := (dwq tk fr (e := e) (i := i + 1) (by omega) (by omega)).2.1
  have h3 := (dwq tk fr (e := e + 1) (i := i) (by omega) (by omega)).2.2.1
  rw [← h1, ← h2, ← h3, ← fof_div, ← fof_div]
  rfl
theorem dw_le (tk : Nat → Nat → Bool) (fr : Nat) {e i : Nat} (he : e ≤ 120) (hi : i ≤ 60) : dw tk fr e i ≤ 120 := by
  obtain ⟨a, b, c, h1, h2⟩ := wcol_lo tk fr he hi
  unfold dw
  rw [h2]
  omega
def byN (tk : Nat → Nat → Bool) (fr e i : Nat) : Nat := if 0 < i ∧ 0 < e ∧ tk (i - 1) (fr + e - 1) = true then 0 else 1
theorem dw_fin {tk : Nat → Nat → Bool} {fr e i q0 q1 q2 q3 : Nat} (he : e ≤ 120) (hi : i ≤ 60) (h0 : q0 = if i = 0 ∧ e = 0 then 0 else 1000) (h1 : q1 = if 0 < e then min (dw tk fr (e - 1) i + 1) q0 else q0) (h2 : q2 = if 0 < i then min (dw tk fr e (i - 1) + 1) q1 else q1) (h3 : q3 = if 0 < i ∧ 0 < e then min (dw tk fr (e - 1) (i - 1) + byN tk fr e i) q2 else q2) : q3 = dw tk fr e i := by
  cases e with
  | zero =>
    rw [if_neg (by omega)] at h1
    rw [if_neg (by omega)] at h3
    rw [dw_0 tk fr i hi]
    cases i with
    | zero => rw [if_neg (by omega)] at h2; rw [if_pos ⟨rfl, rfl⟩] at h0; omega
    | succ i =>
      rw [if_pos (by omega), Nat.add_sub_cancel, dw_0 tk fr i (by omega)] at h2
      rw [if_neg (by omega)] at h0
      omega
  | succ e =>
    rw [if_pos (by omega), Nat.add_sub_cancel] at h1
    rw [if_neg (by omega)] at h0
    cases i with
    | zero =>
      rw [if_neg (by omega)] at h2
      rw [if_neg (by omega)] at h3
      rw [dw_s0 tk fr (by omega)]
      have := dw_le tk fr (e := e) (i := 0) (by omega) (by omega)
      omega
    | succ i =>
      rw [if_pos (by omega), Nat.add_sub_cancel] at h2
      rw [if_pos (by omega)] at h3
      simp only [Nat.add_sub_cancel] at h3
      have hb : byN tk fr (e + 1) (i + 1) = ex9 tk i (fr + e) := by
        unfold byN ex9
        rw [Nat.add_sub_cancel, ← Nat.add_assoc, Nat.add_sub_cancel]
        cases tk i (fr + e) with
        | true => rw [if_pos ⟨by omega, by omega, rfl⟩, if_pos rfl]
        | false => rw [if_neg (fun z => absurd z.2.2 (by decide)), if_neg (by decide)]
      have := dw_le tk fr (e := e) (i := i + 1) (by omega) (by omega)
      rw [dw_ss tk fr (by omega) (by omega), ← hb]
      omega
/-- a step back -/
theorem back_diag {tk : Nat → Nat → Bool} {fr e i : Nat} (he : e < 120) (hi : i < 60) (h : dw tk fr (e + 1) (i + 1) = dw tk fr e i + ex9 tk i (fr + e)) : wcol tk fr (e + 1) (i + 1) = wcol tk fr e i + ey9 tk i (fr + e) := by
  have h0 := dw_ss tk fr he hi
  have h1 := dwq9 tk fr (e := e) (i := i) (j := i) (k := fr + e) (by omega) (by omega)
  have h2 := (dwq tk fr (e := e) (i := i + 1) (by omega) (by omega)).2.1
  have h3 := (dwq tk fr (e := e + 1) (i := i) (by omega) (by omega)).2.2.1
  show fof (fof (wcol tk fr e i + ey9 tk i (fr + e)) (wcol tk fr e (i + 1) + 2113536)) (wcol tk fr (e + 1) i + 2097280) = _
  rw [fof_l (b := wcol tk fr e (i + 1) + 2113536) (by rw [h1, h2]; omega), fof_l (by rw [h1, h3]; omega)]
theorem back_put {tk : Nat → Nat → Bool} {fr e i : Nat} (he : e < 120) (hi : i ≤ 60) (hd : 0 < i → dw tk fr (e + 1) i ≠ dw tk fr e (i - 1) + ex9 tk (i - 1) (fr + e)) (h : dw tk fr (e + 1) i = dw tk fr e i + 1) : wcol tk fr (e + 1) i = wcol tk fr e i + 2113536 := by
  cases i with
  | zero => exact wcol_s0 tk fr e
  | succ i =>
    have hd := hd (by omega)
    rw [Nat.add_sub_cancel] at hd
    have h0 := dw_ss tk fr he (show i < 60 by omega)
    have h1 := dwq9 tk fr (e := e) (i := i) (j := i) (k := fr + e) (by omega) (by omega)
    have h2 := (dwq tk fr (e := e) (i := i + 1) (by omega) (by omega)).2.1
    have h3 := (dwq tk fr (e := e + 1) (i := i) (by omega) (by omega)).2.2.1
    show fof (fof (wcol tk fr e i + ey9 tk i (fr + e)) (wcol tk fr e (i + 1) + 2113536)) (wcol tk fr (e + 1) i + 2097280) = _
    rw [fof_r (b := wcol tk fr e (i + 1) + 2113536) (by rw [h1, h2]; omega), fof_l (by rw [h2, h3]; omega)]
theorem back_left {tk : Nat → Nat → Bool} {fr e i : Nat} (he : e ≤ 120) (hi : i < 60) (hd : 0 < e → dw tk fr e (i + 1) ≠ dw tk fr (e - 1) i + ex9 tk i (fr + (e - 1))) (h : 0 < e → dw tk fr e (i + 1) ≠ dw tk fr (e - 1) (i + 1) + 1) : wcol tk fr e (i + 1) = wcol tk fr e i + 2097280 := by
  cases e with
  | zero => rw [wcol_0, wcol_0]; omega
  | succ e =>
    have hd := hd (by omega)
    have h := h (by omega)
    rw [Nat.add_sub_cancel] at hd h
    have h0 := dw_ss tk fr (show e < 120 by omega) hi
    have h1 := dwq9 tk fr (e := e) (i := i) (j := i) (k := fr + e) (by omega) (by omega)
    have h2 := (dwq tk fr (e := e) (i := i + 1) (by omega) (by omega)).2.1
    have h3 := (dwq tk fr (e := e + 1) (i := i) (by omega) (by omega)).2.2.1
    show fof (fof (wcol tk fr e i + ey9 tk i (fr + e)) (wcol tk fr e (i + 1) + 2113536)) (wcol tk fr (e + 1) i + 2097280) = _
    refine fof_r ?_
    rw [fof_div, h1, h2, h3]
    omega

theorem dw_pos {tk : Nat → Nat → Bool} {fr e : Nat} (he : e < 120) : dw tk fr (e + 1) 0 = dw tk fr e 0 + 1 := dw_s0 tk fr (by omega)
def wsum (a b c : Nat) : Nat := 2113536 * a + 2097280 * b + 2097153 * c
theorem dq8 {S s lo lo' : Nat} (h : 2097152 * S + lo = 2097152 * s + lo') (hl : lo' < 2097152) : S ≤ s := by omega
theorem dqg {m q r w : Nat} (hm : 0 < m) (h : w = m * q + r) (hl : r < m) : w / m = q := by
  subst h
  rw [Nat.mul_add_div hm, Nat.div_eq_of_lt hl, Nat.add_zero]
theorem dqm {m q r w : Nat} (h : w = m * q + r) (hl : r < m) : w % m = r := by
  subst h
  rw [Nat.mul_add_mod]
  exact Nat.mod_eq_of_lt hl
theorem byN_le (tk : Nat → Nat → Bool) (fr e i : Nat) : byN tk fr e i ≤ 1 := by
  unfold byN
  split <;> decide
theorem way_e1 {W a b c : Nat} (h : 2113536 * a + 2097280 * b + 2097153 * c = W) : W = 2097152 * (a + b + c) + (16384 * a + 128 * b + c) := by omega
theorem way_e2 {W a b c : Nat} (h : 2113536 * a + 2097280 * b + 2097153 * c = W) : W = 16384 * (128 * (a + b + c) + a) + (128 * b + c) := by omega
theorem way_e3 {W a b c : Nat} (h : 2113536 * a + 2097280 * b + 2097153 * c = W) : W = 128 * (128 * (128 * (a + b + c) + a) + b) + c := by omega
theorem way_e4 {W a b c : Nat} (h : W = 2097152 * (a + b + c) + 16384 * a + 128 * b + c) : W = 2097152 * (a + b + c) + (16384 * a + 128 * b + c) := by omega
theorem way_l1 {a b c : Nat} (h : a + b + c ≤ 120) : 16384 * a + 128 * b + c < 2097152 := by omega
theorem way_ar {W a b c a' b' c' : Nat} (h : 2113536 * a + 2097280 * b + 2097153 * c = W) (h1 : a' + b' + c' ≤ 120) (h2 : W = 2097152 * (a' + b' + c') + 16384 * a' + 128 * b' + c') : a + b + c = W / 2097152 ∧ a = W / 16384 % 128 ∧ b = W / 128 % 128 ∧ c = W % 128 := by
  have h3 : a + b + c ≤ a' + b' + c' := dq8 ((way_e1 h).symm.trans (way_e4 h2)) (way_l1 h1)
  have h4 : a + b + c ≤ 120 := Nat.le_trans h3 h1
  have e1 := way_e1 h
  have e2 := way_e2 h
  have e3 := way_e3 h
  clear h h2 h3 h1
  refine ⟨(dq9 e1 (way_l1 h4)).symm, ?_, ?_, ?_⟩
  · clear e1 e3
    rw [dqg (by decide) e2 (by clear e2; omega)]
    exact (dqm rfl (by clear e2; omega)).symm
  · clear e1 e2
    rw [dqg (by decide) e3 (by clear e3; omega)]
    exact (dqm rfl (by clear e3; omega)).symm
  · exact (dqm e3 (by clear e1 e2 e3; omega)).symm
theorem way_of {tk : Nat → Nat → Bool} {fr D P a b c : Nat} (hD : D ≤ 120) (hP : P ≤ 60) (h : wsum a b c = wcol tk fr D P) : a + b + c = wcol tk fr D P / 2097152 ∧ a = wcol tk fr D P / 16384 % 128 ∧ b = wcol tk fr D P / 128 % 128 ∧ c = wcol tk fr D P % 128 := by
  obtain ⟨a', b', c', h1, h2⟩ := wcol_lo tk fr hD hP
  exact way_ar h h1 h2
