
/-! the reference: what its calls do -/
def okM (S : MS) : Prop := okA (m_all S) ∧ m_hlong S ≤ 4 ∧ (∀ k, k < m_hlong S → okA (fun i => m_hist S (496 * k + i))) ∧ (m_isTaken S = 1 → okA (m_snap S)) ∧ m_isTaken S ≤ 1 ∧ m_padLong S ≤ 60 ∧ ∀ i, m_pad S i < 65536
def samM (S S' : MS) : Prop := m_all S' = m_all S ∧ m_hist S' = m_hist S ∧ m_hlong S' = m_hlong S ∧ m_snap S' = m_snap S ∧ m_isTaken S' = m_isTaken S ∧ m_pad S' = m_pad S ∧ m_padLong S' = m_padLong S
theorem samM_0 (S : MS) : samM S S := ⟨rfl, rfl, rfl, rfl, rfl, rfl, rfl⟩
def actM (S S' : MS) : Prop := m_hlong S' = mHl S + 1 ∧ (∀ k i, k < mHl S → i < 496 → m_hist S' (496 * k + i) = m_hist S (496 * (k + mHd S) + i)) ∧ (∀ i, i < 496 → m_hist S' (496 * mHl S + i) = m_all S i) ∧ m_snap S' = m_snap S ∧ m_isTaken S' = m_isTaken S ∧ m_pad S' = m_pad S ∧ m_padLong S' = m_padLong S
theorem act_of {S S1 : MS} {h : Nat → Nat} (hr : recM S1 h) (h1 : m_hlong S1 = m_hlong S) (h2 : m_hist S1 = m_hist S) (hk : ∀ i, i < 496 → m_kept S1 i = m_all S i) (h3 : m_snap S1 = m_snap S) (h4 : m_isTaken S1 = m_isTaken S) (h5 : m_pad S1 = m_pad S) (h6 : m_padLong S1 = m_padLong S) : actM S (w_hlong (w_hist S1 h) (mHl S1 + 1)) := by
  have e1 : mHl S1 = mHl S := by unfold mHl; rw [h1]
  have e2 : mHd S1 = mHd S := by unfold mHd; rw [h1]
  obtain ⟨a1, a2⟩ := hr
  rw [e1] at a1 a2
  rw [e2, h2] at a1
  exact ⟨congrArg (· + 1) e1, a1, fun i hi => (a2 i hi).trans (hk i hi), h3, h4, h5, h6⟩
theorem okA_congr {a b : Nat → Nat} (h : ∀ i, i < 496 → b i = a i) (H : okA a) : okA b := by
  obtain ⟨h1, h2, h3, h4, h5⟩ := H
  refine ⟨by show b 0 ≤ 120; rw [h 0 (by decide)]; exact h1, by show b 1 ≤ 6; rw [h 1 (by decide)]; exact h2, by show b 2 ≤ 4; rw [h 2 (by decide)]; exact h3, fun i hi => ?_, fun p hp => ?_⟩
  · show b (3 + i) < 27
    rw [h _ (by omega)]
    exact h4 i hi
  · obtain ⟨k1, k2, k3⟩ := h5 p hp
    refine ⟨by show b (123 + 62 * p) ≤ 60; rw [h _ (by omega)]; exact k1, by show b (124 + 62 * p) < 2; rw [h _ (by omega)]; exact k2, fun j hj => ?_⟩
    show b (125 + 62 * p + j) < 134217728
    rw [h _ (by omega)]
    exact k3 j hj
def inC (x : Int32) (lo hi : Nat) : Bool := decide ((lo : Int) ≤ x.toInt ∧ x.toInt ≤ hi)
theorem inL_c {x : Int32} {lo hi : Nat} (h1 : lo < 2 ^ 31) (h2 : hi < 2 ^ 31) : inL x.toInt64 (lN lo) (lN hi) = inC x lo hi := by
  unfold inL inC
  rw [lN_toInt h1, lN_toInt h2, Int32.toInt_toInt64]
theorem inC_t {x : Int32} {lo hi : Nat} (h : inC x lo hi = true) (hh : hi < 2 ^ 31) : ∃ k, lo ≤ k ∧ k ≤ hi ∧ x = nI k := by
  have h1 := of_decide_eq_true h
  refine ⟨x.toInt.toNat, by omega, by omega, Int32.toInt_inj.mp ?_⟩
  rw [nI_toInt (by omega)]
  omega
theorem inC_f {x : Int32} {lo hi : Nat} (h : inC x lo hi = false) : x.toInt < lo ∨ hi < x.toInt := by
  have h1 := of_decide_eq_false h
  omega
def inR (x : Int32) (n : Nat) : Bool := decide (0 ≤ x.toInt ∧ x.toInt < n)
theorem inL_r {x : Int32} {n : Nat} (h1 : n < 2 ^ 31) : inL x.toInt64 (lN 0) (lN n - lN 1) = inR x n := by
  unfold inL inR
  rw [lN_sub1 h1, lN_toInt (show 0 < 2 ^ 31 by decide), Int32.toInt_toInt64]
  exact decide_eq_decide.mpr (by omega)
theorem inR_t {x : Int32} {n : Nat} (h : inR x n = true) (hh : n < 2 ^ 31) : ∃ k, k < n ∧ x = nI k := by
  have h1 := of_decide_eq_true h
  refine ⟨x.toInt.toNat, by omega, Int32.toInt_inj.mp ?_⟩
  rw [nI_toInt (by omega)]
  omega
theorem inR_f {x : Int32} {n : Nat} (h : inR x n = false) : x.toInt < 0 ∨ n ≤ x.toInt := by
  have h1 := of_decide_eq_false h
  omega
def cod (c : Nat) : Nat := if c = 32 then 26 else c - 97
def cod95 (c : Nat) : Nat := if c = 95 then 26 else c - 97
theorem codeI_cases (c : Nat) : (isSgn c = false ∧ codeI c = (-5)) ∨ (isSgn c = true ∧ cod c < 27 ∧ codeI c = nI (cod c)) := by
  unfold codeI cod isSgn
  by_cases h1 : c = 32
  · rw [if_pos h1, if_pos h1]; exact Or.inr ⟨decide_eq_true (Or.inr h1), by decide, rfl⟩
  · rw [if_neg h1, if_neg h1]
    by_cases h2 : isLet c = true
    · rw [if_pos h2]
      have := isLet_ge h2
      exact Or.inr ⟨decide_eq_true (Or.inl h2), by omega, rfl⟩
    · rw [if_neg h2]; exact Or.inl ⟨decide_eq_false (fun z => z.elim h2 h1), rfl⟩
/-- one sign is written -/
def wA (a : Nat → Nat) (v : Nat) : Nat → Nat := va_up (va_up a (3 + aLen a) v) 0 (aLen a + 1)
theorem wA_len (a : Nat → Nat) (v : Nat) : aLen (wA a v) = aLen a + 1 := va_up_self _ _ _
theorem wA_tx (a : Nat → Nat) (v i : Nat) : aTx (wA a v) i = if i = aLen a then v else aTx a i := by
  unfold aTx wA
  rw [va_up_ne _ _ (by omega)]
  by_cases h : i = aLen a
  · rw [if_pos h, h]; exact va_up_self _ _ _
  · rw [if_neg h, va_up_ne _ _ (by omega)]
theorem wA_o {a : Nat → Nat} {v j : Nat} (hl : aLen a < 120) (h : j = 1 ∨ j = 2 ∨ 123 ≤ j) : wA a v j = a j := by
  unfold wA
  have : aLen a = a 0 := rfl
  rw [va_up_ne _ _ (by omega), va_up_ne _ _ (by omega)]
def wrA (a pd : Nat → Nat) : Nat → Nat → Nat
  | 0 => a
  | k + 1 => wA (wrA a pd k) (cod95 (pd k))
theorem wrA_len (a pd : Nat → Nat) : ∀ k, aLen (wrA a pd k) = aLen a + k
  | 0 => rfl
  | k + 1 => by
    show aLen (wA (wrA a pd k) _) = _
    rw [wA_len, wrA_len a pd k]
    rfl
theorem nI_neg (k : Nat) : ∀ (x : Int32), x - nI k = x - nI k := fun _ => rfl
def decod (v : Nat) : Nat := if v = 26 then 32 else 97 + v

def cM (a : Nat → Nat) (p s e : Nat) : Nat → Int64
  | 0 => lN 0
  | i + 1 => cM a p s e i ||| (if dcol (aTt a p) (aMb a p) e (i + 1) ≤ s then lN 1 <<< ((nI i).toInt64 &&& 63) else lN 0)
