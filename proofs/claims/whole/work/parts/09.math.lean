/-! places by ends: keys, ways, chosen places (plain mathematics) -/
def kstep (old : Nat → Nat) (z : Nat) (tke : Nat → Bool) : Nat → Nat
  | 0 => z
  | i + 1 => min (old i + if tke i = true then 0 else 128) (min (old (i + 1) + 128) (kstep old z tke i + 128))
/-- the key of the first i places at the end e: slips times 128, and 127 less the beginning -/
def kcol (tk : Nat → Nat → Bool) (mb : Nat → Bool) : Nat → Nat → Nat
  | 0 => fun i => 127 + 128 * i
  | e + 1 => kstep (kcol tk mb e) (if mb (e + 1) = true then 127 - (e + 1) else kcol tk mb e 0 + 128) (fun i => tk i e)
theorem kcol_0 (tk : Nat → Nat → Bool) (mb : Nat → Bool) (i : Nat) : kcol tk mb 0 i = 127 + 128 * i := rfl
theorem kcol_s0 (tk : Nat → Nat → Bool) (mb : Nat → Bool) (e : Nat) : kcol tk mb (e + 1) 0 = if mb (e + 1) = true then 127 - (e + 1) else kcol tk mb e 0 + 128 := rfl
theorem kcol_ss (tk : Nat → Nat → Bool) (mb : Nat → Bool) (e i : Nat) : kcol tk mb (e + 1) (i + 1) = min (kcol tk mb e i + if tk i e = true then 0 else 128) (min (kcol tk mb e (i + 1) + 128) (kcol tk mb (e + 1) i + 128)) := rfl
theorem kcol_le (tk : Nat → Nat → Bool) (mb : Nat → Bool) : ∀ e i, kcol tk mb e i ≤ 127 + 128 * (i + e)
  | 0, i => by rw [kcol_0]; omega
  | e + 1, 0 => by
    have h := kcol_le tk mb e 0
    rw [kcol_s0]
    split <;> omega
  | e + 1, i + 1 => by
    have h := kcol_le tk mb e (i + 1)
    rw [kcol_ss]
    omega
/-- a key is made of slips and a beginning that is at most e -/
def isKey (e k : Nat) : Prop := ∃ s b, b ≤ e ∧ k = 128 * s + (127 - b)
theorem isKey_up {e k : Nat} (h : isKey e k) : isKey (e + 1) k := by
  obtain ⟨s, b, h1, h2⟩ := h
  exact ⟨s, b, by omega, h2⟩
theorem isKey_add {e k : Nat} (h : isKey e k) : isKey e (k + 128) := by
  obtain ⟨s, b, h1, h2⟩ := h
  exact ⟨s + 1, b, h1, by omega⟩
theorem isKey_min {e k j : Nat} (h : isKey e k) (g : isKey e j) : isKey e (min k j) := by
  rw [Nat.min_def]
  split <;> assumption
theorem kcol_key (tk : Nat → Nat → Bool) (mb : Nat → Bool) : ∀ e i, isKey e (kcol tk mb e i)
  | 0, i => ⟨i, 0, Nat.le_refl 0, by rw [kcol_0]; omega⟩
  | e + 1, 0 => by
    rw [kcol_s0]
    split
    · exact ⟨0, e + 1, Nat.le_refl _, by omega⟩
    · exact isKey_add (isKey_up (kcol_key tk mb e 0))
  | e + 1, i + 1 => by
    rw [kcol_ss]
    refine isKey_min ?_ (isKey_min (isKey_add (isKey_up (kcol_key tk mb e (i + 1)))) (isKey_add (kcol_key tk mb (e + 1) i)))
    split
    · exact isKey_up (kcol_key tk mb e i)
    · exact isKey_add (isKey_up (kcol_key tk mb e i))
theorem kcol_mod {tk : Nat → Nat → Bool} {mb : Nat → Bool} {e i : Nat} (he : e ≤ 127) : 127 - kcol tk mb e i % 128 ≤ e := by
  obtain ⟨s, b, h1, h2⟩ := kcol_key tk mb e i
  omega
/-- slips of the first i places at the end e, and where the part begins -/
def dcol (tk : Nat → Nat → Bool) (mb : Nat → Bool) (e i : Nat) : Nat := kcol tk mb e i / 128
def bcol (tk : Nat → Nat → Bool) (mb : Nat → Bool) (e i : Nat) : Nat := 127 - kcol tk mb e i % 128
theorem min_div (a b : Nat) : min a b / 128 = min (a / 128) (b / 128) := by
  rw [Nat.min_def, Nat.min_def]
  split <;> split <;> omega
theorem dcol_0 (tk : Nat → Nat → Bool) (mb : Nat → Bool) (i : Nat) : dcol tk mb 0 i = i := by unfold dcol; rw [kcol_0]; omega
theorem dcol_s0 (tk : Nat → Nat → Bool) (mb : Nat → Bool) (e : Nat) : dcol tk mb (e + 1) 0 = if mb (e + 1) = true then 0 else dcol tk mb e 0 + 1 := by
  unfold dcol
  rw [kcol_s0]
  split <;> omega
theorem dcol_ss (tk : Nat → Nat → Bool) (mb : Nat → Bool) (e i : Nat) : dcol tk mb (e + 1) (i + 1) = min (dcol tk mb e i + if tk i e = true then 0 else 1) (min (dcol tk mb e (i + 1) + 1) (dcol tk mb (e + 1) i + 1)) := by
  unfold dcol
  rw [kcol_ss, min_div, min_div]
  have h1 : ∀ k, (k + 128) / 128 = k / 128 + 1 := fun k => by omega
  rw [h1, h1]
  congr 1
  split <;> omega
theorem dcol_le (tk : Nat → Nat → Bool) (mb : Nat → Bool) (e i : Nat) : dcol tk mb e i ≤ i + e := by
  have := kcol_le tk mb e i
  unfold dcol
  omega
/-- the ways of the same part: all slips, put in, left out, exchanged, seven bits each -/
def fof (a b : Nat) : Nat := if b / 2097152 < a / 2097152 then b else a
def wstep (old : Nat → Nat) (tke : Nat → Bool) : Nat → Nat
  | 0 => old 0 + 2113536
  | i + 1 => fof (fof (old i + if tke i = true then 0 else 2097153) (old (i + 1) + 2113536)) (wstep old tke i + 2097280)
def wcol (tk : Nat → Nat → Bool) (fr : Nat) : Nat → Nat → Nat
  | 0 => fun i => 2097280 * i
  | e + 1 => wstep (wcol tk fr e) (fun i => tk i (fr + e))
theorem wcol_0 (tk : Nat → Nat → Bool) (fr i : Nat) : wcol tk fr 0 i = 2097280 * i := rfl
theorem wcol_s0 (tk : Nat → Nat → Bool) (fr e : Nat) : wcol tk fr (e + 1) 0 = wcol tk fr e 0 + 2113536 := rfl
theorem wcol_ss (tk : Nat → Nat → Bool) (fr e i : Nat) : wcol tk fr (e + 1) (i + 1) = fof (fof (wcol tk fr e i + if tk i (fr + e) = true then 0 else 2097153) (wcol tk fr e (i + 1) + 2113536)) (wcol tk fr (e + 1) i + 2097280) := rfl
/-- a way's number is made of its counts, which are few -/
def isWay (n w : Nat) : Prop := ∃ a b c, a + b + c ≤ n ∧ w = 2097152 * (a + b + c) + 16384 * a + 128 * b + c
theorem way_q {a b c : Nat} (h : a + b + c ≤ 127) : (2097152 * (a + b + c) + 16384 * a + 128 * b + c) / 2097152 = a + b + c := by
  have h2 : 16384 * a + 128 * b + c < 2097152 := by omega
  rw [show 2097152 * (a + b + c) + 16384 * a + 128 * b + c = (16384 * a + 128 * b + c) + 2097152 * (a + b + c) from by omega, Nat.add_mul_div_left _ _ (by decide), Nat.div_eq_of_lt h2, Nat.zero_add]
theorem fof_way {n m a b : Nat} (ha : isWay n a) (hb : isWay m b) (hn : n ≤ 127) (hm : m ≤ 127) : isWay (min n m) (fof a b) := by
  obtain ⟨a1, a2, a3, h1, rfl⟩ := ha
  obtain ⟨b1, b2, b3, h2, rfl⟩ := hb
  unfold fof
  rw [way_q (by omega), way_q (by omega)]
  split
  · exact ⟨b1, b2, b3, by omega, rfl⟩
  · exact ⟨a1, a2, a3, by omega, rfl⟩
theorem isWay_mono {n m w : Nat} (h : isWay n w) (hm : n ≤ m) : isWay m w := by
  obtain ⟨a1, a2, a3, h1, rfl⟩ := h
  exact ⟨a1, a2, a3, by omega, rfl⟩
theorem isWay_put {n w : Nat} (h : isWay n w) : isWay (n + 1) (w + 2113536) := by
  obtain ⟨a1, a2, a3, h1, rfl⟩ := h
  exact ⟨a1 + 1, a2, a3, by omega, by omega⟩
theorem isWay_left {n w : Nat} (h : isWay n w) : isWay (n + 1) (w + 2097280) := by
  obtain ⟨a1, a2, a3, h1, rfl⟩ := h
  exact ⟨a1, a2 + 1, a3, by omega, by omega⟩
theorem isWay_exch {n w : Nat} (h : isWay n w) : isWay (n + 1) (w + 2097153) := by
  obtain ⟨a1, a2, a3, h1, rfl⟩ := h
  exact ⟨a1, a2, a3 + 1, by omega, by omega⟩
theorem wcol_way (tk : Nat → Nat → Bool) (fr : Nat) : ∀ e i, e ≤ 120 → i ≤ 60 → isWay (max i e) (wcol tk fr e i)
  | 0, i, _, _ => ⟨0, i, 0, by omega, by rw [wcol_0]; omega⟩
  | e + 1, 0, he, _ => by
    rw [wcol_s0]
    exact isWay_mono (isWay_put (wcol_way tk fr e 0 (by omega) (by omega))) (by omega)
  | e + 1, i + 1, he, hi => by
    rw [wcol_ss]
    have h1 := wcol_way tk fr e i (by omega) (by omega)
    have h2 := isWay_put (wcol_way tk fr e (i + 1) (by omega) hi)
    have h3 := isWay_left (wcol_way tk fr (e + 1) i he (by omega))
    have h4 : isWay (max i e + 1) (wcol tk fr e i + if tk i (fr + e) = true then 0 else 2097153) := by
      split
      · exact isWay_mono h1 (by omega)
      · exact isWay_exch h1
    exact isWay_mono (fof_way (fof_way h4 h2 (by omega) (by omega)) h3 (by omega) (by omega)) (by omega)
/-- how many places below k are chosen -/
def cS (sel : Nat → Bool) : Nat → Nat
  | 0 => 0
  | k + 1 => cS sel k + if sel k = true then 1 else 0
theorem cS_le (sel : Nat → Bool) : ∀ k, cS sel k ≤ k
  | 0 => Nat.le_refl 0
  | k + 1 => by
    have := cS_le sel k
    unfold cS
    split <;> omega
theorem cS_mono (sel : Nat → Bool) {j k : Nat} (h : j ≤ k) : cS sel j ≤ cS sel k := by
  induction k with
  | zero => obtain rfl : j = 0 := by omega
            exact Nat.le_refl _
  | succ k ih =>
    rcases Nat.eq_or_lt_of_le h with rfl | h2
    · exact Nat.le_refl _
    · exact Nat.le_trans (ih (by omega)) (Nat.le_add_right _ _)
theorem cS_t {sel : Nat → Bool} {k : Nat} (h : sel k = true) : cS sel (k + 1) = cS sel k + 1 := by
  show cS sel k + _ = _
  rw [if_pos h]
theorem cS_f {sel : Nat → Bool} {k : Nat} (h : sel k = false) : cS sel (k + 1) = cS sel k := by
  show cS sel k + _ = _
  rw [if_neg (by rw [h]; decide), Nat.add_zero]
theorem cS_lt {sel : Nat → Bool} {j k : Nat} (h : j < k) (hs : sel j = true) : cS sel j < cS sel k := by
  have h1 := cS_mono sel (show j + 1 ≤ k from h)
  rw [cS_t hs] at h1
  exact h1
theorem cS_inv {sel : Nat → Bool} : ∀ {k r : Nat}, r < cS sel k → ∃ e, e < k ∧ sel e = true ∧ cS sel e = r
  | 0, r, h => absurd h (Nat.not_lt_zero _)
  | k + 1, r, h => by
    by_cases hs : sel k = true
    · rw [cS_t hs] at h
      rcases Nat.lt_succ_iff_lt_or_eq.mp h with h2 | h2
      · obtain ⟨e, h3, h4⟩ := cS_inv h2
        exact ⟨e, by omega, h4⟩
      · exact ⟨k, Nat.lt_succ_self k, hs, h2.symm⟩
    · rw [cS_f (by simpa using hs)] at h
      obtain ⟨e, h3, h4⟩ := cS_inv h
      exact ⟨e, by omega, h4⟩
theorem cS_congr {s1 s2 : Nat → Bool} : ∀ {k : Nat}, (∀ e, e < k → s1 e = s2 e) → cS s1 k = cS s2 k
  | 0, _ => rfl
  | k + 1, h => by
    show cS s1 k + _ = cS s2 k + _
    rw [cS_congr (fun e he => h e (by omega)), h k (Nat.lt_succ_self k)]
/-- f tells the chosen places below k, by their ranks -/
def LR (f : Nat → Nat) (sel : Nat → Bool) (k : Nat) : Prop := ∀ e, e < k → sel e = true → f (cS sel e) = e
theorem LR_0 {f : Nat → Nat} {sel : Nat → Bool} : LR f sel 0 := fun e he => absurd he (Nat.not_lt_zero _)
theorem LR_t {f : Nat → Nat} {sel : Nat → Bool} {k : Nat} (h : LR f sel k) (hs : sel k = true) : LR (va_up f (cS sel k) k) sel (k + 1) := by
  intro e he hse
  rcases Nat.lt_succ_iff_lt_or_eq.mp he with h2 | rfl
  · rw [va_up_ne _ _ (Nat.ne_of_lt (cS_lt h2 hse))]
    exact h e h2 hse
  · exact va_up_self _ _ _
theorem LR_f {f : Nat → Nat} {sel : Nat → Bool} {k : Nat} (h : LR f sel k) (hs : sel k = false) : LR f sel (k + 1) := by
  intro e he hse
  rcases Nat.lt_succ_iff_lt_or_eq.mp he with h2 | rfl
  · exact h e h2 hse
  · rw [hs] at hse; cases hse
theorem LR_at {f : Nat → Nat} {sel : Nat → Bool} {k r : Nat} (h : LR f sel k) (hr : r < cS sel k) : f r < k ∧ sel (f r) = true ∧ cS sel (f r) = r := by
  obtain ⟨e, h1, h2, h3⟩ := cS_inv hr
  have h4 := h e h1 h2
  rw [h3] at h4
  rw [h4]
  exact ⟨h1, h2, h3⟩
theorem LR_eq {f g : Nat → Nat} {sel : Nat → Bool} {k r : Nat} (h : LR f sel k) (h' : LR g sel k) (hr : r < cS sel k) : f r = g r := by
  obtain ⟨e, h1, h2, rfl⟩ := cS_inv hr
  rw [h e h1 h2, h' e h1 h2]
/-- those that stand alone: how many below k, and the last of them -/
def alS (isE : Nat → Bool) (bg : Nat → Nat) : Nat → Nat × Nat
  | 0 => (0, 0)
  | k + 1 => if isE k = true ∧ (alS isE bg k).2 ≤ bg k then ((alS isE bg k).1 + 1, k) else alS isE bg k
def alE (isE : Nat → Bool) (bg : Nat → Nat) (k : Nat) : Bool := decide (isE k = true ∧ (alS isE bg k).2 ≤ bg k)
theorem alS_c (isE : Nat → Bool) (bg : Nat → Nat) : ∀ k, (alS isE bg k).1 = cS (alE isE bg) k
  | 0 => rfl
  | k + 1 => by
    have h := alS_c isE bg k
    unfold alS cS
    by_cases hc : isE k = true ∧ (alS isE bg k).2 ≤ bg k
    · rw [if_pos hc, if_pos (by simpa [alE] using hc), h]
    · rw [if_neg hc, if_neg (by simpa [alE] using hc), h, Nat.add_zero]
theorem alS_2 (isE : Nat → Bool) (bg : Nat → Nat) : ∀ k, (alS isE bg k).2 ≤ k
  | 0 => Nat.le_refl 0
  | k + 1 => by
    have h := alS_2 isE bg k
    unfold alS
    split
    · exact Nat.le_succ k
    · omega
