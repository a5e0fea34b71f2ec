/-! words for what the methods answer -/
theorem bI_t {P : Prop} {i : Decidable P} (h : P) : nI 1 = bI (decide P) := by simp [bI, h]
theorem bI_f {P : Prop} {i : Decidable P} (h : ¬ P) : nI 0 = bI (decide P) := by simp [bI, h]
theorem bI_1 {b : Bool} (h : b = true) : nI 1 = bI b := by simp [bI, h]
theorem bI_0 {b : Bool} (h : b = false) : nI 0 = bI b := by simp [bI, h]
def isLet (c : Nat) : Bool := decide (97 ≤ c ∧ c ≤ 122)
def isSgn (c : Nat) : Bool := decide (isLet c = true ∨ c = 32)
theorem isSgn_of {c : Nat} (h : isLet c = true ∨ c = 32) : isLet c = true ∨ c = 32 := h
def cpF {α : Type} (f g : Nat → α) (i : Nat) : Nat → α := fun x => if x < i then f x else g x
theorem cpF_0 {α : Type} (f g : Nat → α) : cpF f g 0 = g := by funext x; simp [cpF]
theorem cpF_s {α : Type} (f g : Nat → α) (i : Nat) : va_up (cpF f g i) i (f i) = cpF f g (i + 1) := by
  funext x
  unfold va_up cpF
  by_cases h : x = i
  · subst h; simp
  · by_cases h2 : x < i
    · rw [if_neg h, if_pos h2, if_pos (by omega)]
    · rw [if_neg h, if_neg h2, if_neg (by omega)]
def cpSt (d e : StD) : StD := (va_cpy (st_text e) (st_text d) 0 0 120, st_len e, cpF (st_pats e) (st_pats d) 6, st_pcnt e, st_most e)
theorem nA_cpy (f g : Nat → Nat) (a b c : Nat) : va_cpy (fun k9 => nI (f k9)) (fun k9 => nI (g k9)) a b c = fun k9 => nI (va_cpy f g a b c k9) := by
  funext k
  unfold va_cpy
  split <;> rfl
theorem x_pool_u {S : XS} {k : Nat} {d : StD} : x_pool (u_st S k d) = x_pool S := by
  match k with
  | 0 => rfl
  | 1 => rfl
  | k + 2 => rfl
/-- the patterns of a state's row stand in the pool -/
def inPool (S : XS) (f : Nat → Option Nat) : Prop := ∀ i, i < 6 → ∀ a, f i = some a → ∃ (j : Nat) (q : PatD), (x_pool S)[j]? = some q ∧ q.1 = a
def cntB (f : Nat → Nat) : Nat → Nat
  | 0 => 0
  | k + 1 => cntB f k + if f k = 32 then 1 else 0
theorem cntB_t {f : Nat → Nat} {k : Nat} (h : f k = 32) : cntB f (k + 1) = cntB f k + 1 := by
  show cntB f k + _ = _
  rw [if_pos h]
theorem cntB_f {f : Nat → Nat} {k : Nat} (h : f k ≠ 32) : cntB f (k + 1) = cntB f k := by
  show cntB f k + _ = _
  rw [if_neg h, Nat.add_zero]
theorem cntB_le (f : Nat → Nat) : ∀ k, cntB f k ≤ k
  | 0 => Nat.le_refl 0
  | k + 1 => by
    have := cntB_le f k
    unfold cntB
    split <;> omega
def remP (f : Nat → Option Nat) (j n : Nat) : Nat → Option Nat := fun x => if j ≤ x ∧ x < n then f (x + 1) else f x
theorem remP_0 (f : Nat → Option Nat) (j : Nat) : remP f j 0 = f := by funext x; simp [remP]
theorem remP_s {f : Nat → Option Nat} {j n : Nat} (h : j ≤ n) : va_up (remP f j n) n (remP f j n (n + 1)) = remP f j (n + 1) := by
  funext x
  unfold va_up remP
  by_cases h1 : x = n
  · subst h1
    rw [if_pos rfl, if_neg (by omega), if_pos (by omega)]
  · rw [if_neg h1]
    by_cases h2 : j ≤ x ∧ x < n
    · rw [if_pos h2, if_pos (by omega)]
    · rw [if_neg h2, if_neg (by omega)]
theorem remP_k {f : Nat → Option Nat} {j n : Nat} (h : n < j) : remP f j n = remP f j (n + 1) := by
  funext x
  unfold remP
  rw [if_neg (by omega), if_neg (by omega)]
def mayB (bd : Bool) (f : Nat → Nat) (e : Nat) : Bool := decide (bd = false ∨ e = 0 ∨ f (e - 1) = 32)
def canW (f : Nat → Nat) : Nat → Bool
  | 0 => true
  | k + 1 => canW f k && (isLet (f k) || f k == 95)
theorem canW_at {f : Nat → Nat} : ∀ {n : Nat}, canW f n = true → ∀ i, i < n → (isLet (f i) || f i == 95) = true
  | 0, _, i, h => absurd h (Nat.not_lt_zero _)
  | n + 1, h, i, hi => by
    unfold canW at h
    rw [Bool.and_eq_true] at h
    rcases Nat.lt_succ_iff_lt_or_eq.mp hi with h2 | h2
    · exact canW_at h.1 i h2
    · subst h2; exact h.2
def cntW (f : Nat → Nat) : Nat → Nat
  | 0 => 0
  | k + 1 => cntW f k + if f k = 134217727 then 1 else 0
theorem cntW_t {f : Nat → Nat} {k : Nat} (h : f k = 134217727) : cntW f (k + 1) = cntW f k + 1 := by
  show cntW f k + _ = _
  rw [if_pos h]
theorem cntW_f {f : Nat → Nat} {k : Nat} (h : f k ≠ 134217727) : cntW f (k + 1) = cntW f k := by
  show cntW f k + _ = _
  rw [if_neg h, Nat.add_zero]
theorem cntW_le (f : Nat → Nat) : ∀ k, cntW f k ≤ k
  | 0 => Nat.le_refl 0
  | k + 1 => by
    have := cntW_le f k
    unfold cntW
    split <;> omega
