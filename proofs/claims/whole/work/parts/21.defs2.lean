
def sgc (c : Nat) : Nat := if c = 32 then 26 else c - 97
theorem sgc_lt {c : Nat} (h : isSgn c = true) : sgc c < 27 := by
  simp only [isSgn, isLet, decide_eq_true_eq] at h
  unfold sgc
  split <;> omega
def tkX (pt : Nat → Int64) (T : Nat → Nat) (i e : Nat) : Bool := lbit (pt (sgc (T e))) i
/-- a text of letters and blanks, whose cells hold characters -/
def okT (T : Nat → Nat) (n : Nat) : Prop := (∀ i, T i < 65536) ∧ ∀ i, i < n → isSgn (T i) = true
theorem lg_ne {x : Int64} : (lg_cmp x (lN 0) = 0) ↔ x = lN 0 := by
  unfold lg_cmp
  constructor
  · intro h
    by_cases h2 : x = lN 0
    · exact h2
    · exfalso
      by_cases h1 : lN 0 < x
      · rw [if_pos h1] at h
        exact absurd h (by decide)
      · rw [if_neg h1, if_neg h2] at h
        exact absurd h (by decide)
  · rintro rfl
    decide +kernel
theorem and1_bit (x : Int64) : (x &&& lN 1 = lN 0) ↔ lbit x 0 = false := by
  constructor
  · intro h
    have h2 : lbit (x &&& lN 1) 0 = false := by rw [h, lbit_0 (by decide)]
    rw [lbit_and, lbit_1 (by decide)] at h2
    simpa using h2
  · intro h
    refine lbit_ext (fun i hi => ?_)
    rw [lbit_and, lbit_1 hi, lbit_0 hi]
    by_cases h0 : i = 0
    · subst h0; simp [h]
    · simp [h0]
/-- what the class tells of an end -/
def slipV (d k : Nat) : Int32 := if d ≤ k then nI d else (-1)
def isEndB (d k : Nat) : Bool := decide (d ≤ k)
theorem slipV_t {d k : Nat} (h : d ≤ k) : slipV d k = nI d := if_pos h
theorem slipV_f {d k : Nat} (h : ¬ d ≤ k) : slipV d k = (-1) := if_neg h

theorem vp_updL_self {f : Nat → Int64} {k : Nat} {x : Int64} : vp_updL f k x k = x := by simp [vp_updL]
theorem vp_updL_ne {f : Nat → Int64} {k j : Nat} {x : Int64} (h : j ≠ k) : vp_updL f k x j = f j := by simp [vp_updL, h]
theorem colBit {x : Int64} {m : Nat} (hm : m ≤ 60) : (lg_cmp ((x.toUInt64 >>> ((nI m).toInt64.toUInt64 &&& Int64.toUInt64 63)).toInt64 &&& lN 1) (lN 0) = 0) ↔ lbit x m = false := by
  rw [lg_ne, and1_bit, lbit_ushr x (show m < 64 by omega), Nat.add_zero]
theorem colNo {x : Int64} {m j : Nat} {d : Nat → Nat} (h : ∀ i, i < 64 → lbit x i = decide (i ≤ m ∧ d i ≤ j)) (hm : m ≤ 60) (hd : j ≤ d m) (hc : lg_cmp ((x.toUInt64 >>> ((nI m).toInt64.toUInt64 &&& Int64.toUInt64 63)).toInt64 &&& lN 1) (lN 0) = 0) : j + 1 ≤ d m := by
  rw [colBit hm, h m (by omega)] at hc
  have := of_decide_eq_false hc
  omega
theorem colYes {x : Int64} {m j : Nat} {d : Nat → Nat} (h : ∀ i, i < 64 → lbit x i = decide (i ≤ m ∧ d i ≤ j)) (hm : m ≤ 60) (hc : ¬ lg_cmp ((x.toUInt64 >>> ((nI m).toInt64.toUInt64 &&& Int64.toUInt64 63)).toInt64 &&& lN 1) (lN 0) = 0) : d m ≤ j := by
  rw [colBit hm, h m (by omega)] at hc
  have h2 : decide (m ≤ m ∧ d m ≤ j) = true := by simpa using hc
  exact (of_decide_eq_true h2).2

theorem nI_min {a b : Nat} (ha : a < 2 ^ 31) (hb : b < 2 ^ 31) : (if nI b < nI a then nI b else nI a) = nI (min a b) := by
  by_cases h : b < a
  · rw [if_pos ((nI_ltI hb ha).mpr h), Nat.min_eq_right (by omega)]
  · rw [if_neg (fun z => h ((nI_ltI hb ha).mp z)), Nat.min_eq_left (by omega)]
theorem slipV_m1 {d k : Nat} (hd : d < 2 ^ 31) : slipV d k = (-1) ↔ ¬ d ≤ k := by
  unfold slipV
  split
  · exact ⟨fun h => absurd h (nI_ne_neg hd (by decide)), fun h => absurd ‹_› h⟩
  · exact ⟨fun _ => ‹_›, fun _ => rfl⟩
def selX (q : PatD) (S : XS) (e : Nat) : Bool := decide (dcol (tkX (pd_ptf q) (st_text (x_now S))) (mayB (pd_bnd q) (st_text (x_now S))) e (pd_cnt q) ≤ st_most (x_now S))

/-- the least of g below n -/
def minG (g : Nat → Nat) : Nat → Nat
  | 0 => 0
  | k + 1 => if k = 0 then g 0 else if g k < minG g k then g k else minG g k
theorem minG_1 (g : Nat → Nat) : minG g (0 + 1) = g 0 := rfl
theorem minG_t {g : Nat → Nat} {k : Nat} (h0 : 0 < k) (h : g k < minG g k) : minG g (k + 1) = g k := by
  show (if k = 0 then g 0 else if g k < minG g k then g k else minG g k) = _
  rw [if_neg (by omega), if_pos h]
theorem minG_f {g : Nat → Nat} {k : Nat} (h0 : 0 < k) (h : ¬ g k < minG g k) : minG g (k + 1) = minG g k := by
  show (if k = 0 then g 0 else if g k < minG g k then g k else minG g k) = _
  rw [if_neg (by omega), if_neg h]
theorem minG_le {g : Nat → Nat} {b : Nat} (h : ∀ r, g r ≤ b) : ∀ k, minG g k ≤ b
  | 0 => Nat.zero_le _
  | k + 1 => by
    have h1 := minG_le h k
    have h2 := h k
    have h3 := h 0
    unfold minG
    split
    · exact h3
    · split <;> omega
theorem minG_at {g : Nat → Nat} : ∀ {k : Nat}, 0 < k → ∃ r, r < k ∧ g r = minG g k ∧ ∀ j, j < k → minG g k ≤ g j
  | 0, h => absurd h (Nat.lt_irrefl 0)
  | 1, _ => ⟨0, by omega, rfl, fun j hj => by obtain rfl : j = 0 := by omega
                                              exact Nat.le_refl _⟩
  | k + 2, _ => by
    obtain ⟨r, h1, h2, h3⟩ := minG_at (g := g) (show 0 < k + 1 by omega)
    by_cases h : g (k + 1) < minG g (k + 1)
    · refine ⟨k + 1, by omega, (minG_t (by omega) h).symm, fun j hj => ?_⟩
      rw [minG_t (by omega) h]
      rcases Nat.lt_succ_iff_lt_or_eq.mp hj with h4 | rfl
      · have := h3 j h4; omega
      · exact Nat.le_refl _
    · refine ⟨r, by omega, by rw [minG_f (by omega) h]; exact h2, fun j hj => ?_⟩
      rw [minG_f (by omega) h]
      rcases Nat.lt_succ_iff_lt_or_eq.mp hj with h4 | rfl
      · exact h3 j h4
      · omega
/-- the first rank with the least -/
def argG (g : Nat → Nat) : Nat → Nat
  | 0 => 0
  | k + 1 => if k = 0 then 0 else if g k < g (argG g k) then k else argG g k
theorem argG_lt (g : Nat → Nat) : ∀ k, 0 < k → argG g k < k
  | 0, h => absurd h (Nat.lt_irrefl 0)
  | k + 1, _ => by
    unfold argG
    split
    · omega
    · have := argG_lt g k (by omega)
      split <;> omega
theorem argG_min (g : Nat → Nat) : ∀ k, 0 < k → g (argG g k) = minG g k
  | 0, h => absurd h (Nat.lt_irrefl 0)
  | 1, _ => rfl
  | k + 2, _ => by
    have ih := argG_min g (k + 1) (by omega)
    by_cases h : g (k + 1) < minG g (k + 1)
    · rw [minG_t (by omega) h]
      show g (if k + 1 = 0 then 0 else if g (k + 1) < g (argG g (k + 1)) then k + 1 else argG g (k + 1)) = _
      rw [if_neg (Nat.succ_ne_zero k), ih, if_pos h]
    · rw [minG_f (by omega) h]
      show g (if k + 1 = 0 then 0 else if g (k + 1) < g (argG g (k + 1)) then k + 1 else argG g (k + 1)) = _
      rw [if_neg (Nat.succ_ne_zero k), ih, if_neg h]
      exact ih
theorem argG_first (g : Nat → Nat) : ∀ k, 0 < k → ∀ j, j < argG g k → g j ≠ minG g k
  | 0, h => absurd h (Nat.lt_irrefl 0)
  | 1, _ => fun j hj => absurd hj (Nat.not_lt_zero _)
  | k + 2, _ => by
    have ih := argG_first g (k + 1) (by omega)
    have h2 := argG_min g (k + 1) (by omega)
    obtain ⟨-, -, -, h3⟩ := minG_at (g := g) (show 0 < k + 1 by omega)
    intro j hj
    by_cases h : g (k + 1) < minG g (k + 1)
    · rw [minG_t (by omega) h]
      have hj2 : j < k + 1 := by
        have := argG_lt g (k + 2) (by omega)
        omega
      have := h3 j hj2
      omega
    · rw [minG_f (by omega) h]
      refine ih j ?_
      have e : argG g (k + 1 + 1) = argG g (k + 1) := by
        show (if k + 1 = 0 then 0 else if g (k + 1) < g (argG g (k + 1)) then k + 1 else argG g (k + 1)) = _
        rw [if_neg (by omega), h2, if_neg h]
      rw [e] at hj
      exact hj

theorem mark_s {f g : Nat → Bool} {h : Nat → Nat} {i e : Nat} (hf : ∀ e, e ≤ 120 → f e = (g e || decide (∃ r, r < i ∧ h r = e))) (he : e ≤ 120) : va_up f (h i) true e = (g e || decide (∃ r, r < i + 1 ∧ h r = e)) := by
  by_cases hh : e = h i
  · subst hh
    rw [va_up_self, decide_eq_true ⟨i, Nat.lt_succ_self i, rfl⟩, Bool.or_true]
  · rw [va_up_ne _ _ hh, hf e he]
    congr 1
    refine decide_eq_decide.mpr ⟨fun ⟨r, h1, h2⟩ => ⟨r, by omega, h2⟩, fun ⟨r, h1, h2⟩ => ⟨r, ?_, h2⟩⟩
    rcases Nat.lt_succ_iff_lt_or_eq.mp h1 with h3 | rfl
    · exact h3
    · exact absurd h2.symm hh

theorem fof_lt {a b n : Nat} (ha : a < n) (hb : b < n) : fof a b < n := by
  unfold fof
  by_cases h : b / 2097152 < a / 2097152
  · rw [if_pos h]; exact hb
  · rw [if_neg h]; exact ha
theorem isWay_lt {n w : Nat} (h : isWay n w) (hn : n ≤ 120) : w < 300000000 := by
  obtain ⟨a, b, c, h1, rfl⟩ := h
  omega
/-- what is told of a way: 0 all, 1 put in, 2 left out, 3 exchanged -/
def wayV (w k : Nat) : Nat := w / 2 ^ ((3 - k) * 7) % 128

theorem shr_way {n k : Nat} (hn : n < 2 ^ 31) (hk : k ≤ 3) : nI n >>> (nI ((3 - k) * 7) &&& 31) = nI (n / 2 ^ ((3 - k) * 7)) := by
  obtain rfl | rfl | rfl | rfl : k = 0 ∨ k = 1 ∨ k = 2 ∨ k = 3 := by omega
  · exact pk_shrN hn _ 21 (by decide +kernel)
  · exact pk_shrN hn _ 14 (by decide +kernel)
  · exact pk_shrN hn _ 7 (by decide +kernel)
  · exact pk_shrN hn _ 0 (by decide +kernel)
theorem and_way {n : Nat} (hn : n < 2 ^ 32) : nI n &&& nI 127 = nI (n % 128) := pk_andN hn 7 (by decide +kernel)
