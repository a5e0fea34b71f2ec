
/-! the reference: pads that are written, patterns that come and go, what is replaced -/
theorem canP_t {f : Nat → Nat} {k : Nat} {D : Bool} (h : (canW f k && D) = true) (h2 : isLet (f k) = true ∨ f k = 95) : (canW f (k + 1) && D) = true := by
  rw [Bool.and_eq_true] at h
  have h3 : canW f (k + 1) = (canW f k && (isLet (f k) || f k == 95)) := rfl
  rw [h3, h.1, h.2]
  rcases h2 with h2 | h2
  · rw [h2]; rfl
  · rw [h2]; cases isLet 95 <;> rfl
theorem canP_f1 {f : Nat → Nat} {k : Nat} {D : Bool} (h : (canW f k && D) = false) : (canW f (k + 1) && D) = false := by
  have h3 : canW f (k + 1) = (canW f k && (isLet (f k) || f k == 95)) := rfl
  rw [h3]
  revert h
  cases canW f k <;> cases D <;> cases (isLet (f k) || f k == 95) <;> simp
theorem canP_f2 {f : Nat → Nat} {k : Nat} {D : Bool} (h2 : isLet (f k) = false) (h3 : f k ≠ 95) : (canW f (k + 1) && D) = false := by
  have h4 : canW f (k + 1) = (canW f k && (isLet (f k) || f k == 95)) := rfl
  rw [h4, h2, beq_eq_false_iff_ne.mpr h3]
  cases canW f k <;> rfl
theorem canW_let {f : Nat → Nat} {n k : Nat} (h : canW f n = true) (hk : k < n) (h2 : f k ≠ 95) : 97 ≤ f k ∧ f k ≤ 122 := by
  have h3 := canW_at h k hk
  rw [beq_eq_false_iff_ne.mpr h2, Bool.or_false] at h3
  exact isLet_ge h3
def newI (a f : Nat → Nat) (rp : Nat) (rt : Nat → Nat) (bd : Bool) (k : Nat) : Prop := aPl f (aPc a) = rp ∧ aBd f (aPc a) = bN bd ∧ (∀ j, j < k → aTk f (aPc a) j = rt j) ∧ ∀ j, (j < 123 + 62 * aPc a ∨ 125 + 62 * aPc a + k ≤ j) → f j = a j
theorem newI_0 (a : Nat → Nat) (rp : Nat) (rt : Nat → Nat) (bd : Bool) : newI a (va_up (va_up a (123 + 62 * aPc a) rp) (123 + 62 * aPc a + 1) (bN bd)) rp rt bd 0 := by
  refine ⟨?_, ?_, fun j h => absurd h (Nat.not_lt_zero _), fun j h => ?_⟩
  · show va_up _ _ _ (123 + 62 * aPc a) = rp
    rw [va_up_ne _ _ (by omega), va_up_self]
  · show va_up _ _ _ (124 + 62 * aPc a) = bN bd
    rw [show 124 + 62 * aPc a = 123 + 62 * aPc a + 1 by omega, va_up_self]
  · rw [va_up_ne _ _ (by omega), va_up_ne _ _ (by omega)]
theorem newI_s {a f : Nat → Nat} {rp : Nat} {rt : Nat → Nat} {bd : Bool} {k : Nat} (h : newI a f rp rt bd k) : newI a (va_up f (125 + 62 * aPc a + k) (rt k)) rp rt bd (k + 1) := by
  obtain ⟨h1, h2, h3, h4⟩ := h
  refine ⟨?_, ?_, fun j hj => ?_, fun j hj => ?_⟩
  · show va_up f _ _ (123 + 62 * aPc a) = rp
    rw [va_up_ne _ _ (by omega)]; exact h1
  · show va_up f _ _ (124 + 62 * aPc a) = bN bd
    rw [va_up_ne _ _ (by omega)]; exact h2
  · show va_up f _ _ (125 + 62 * aPc a + j) = rt j
    by_cases h : j = k
    · subst h; exact va_up_self _ _ _
    · rw [va_up_ne _ _ (by omega)]; exact h3 j (by omega)
  · rw [va_up_ne _ _ (by omega)]; exact h4 j (by omega)
def newA (a b : Nat → Nat) (rp : Nat) (rt : Nat → Nat) (bd : Bool) : Prop := aPl b (aPc a) = rp ∧ aBd b (aPc a) = bN bd ∧ (∀ j, j < rp → aTk b (aPc a) j = rt j) ∧ b 1 = aPc a + 1 ∧ ∀ j, j ≠ 1 → (j < 123 + 62 * aPc a ∨ 125 + 62 * aPc a + rp ≤ j) → b j = a j
theorem newA_of {a f : Nat → Nat} {rp : Nat} {rt : Nat → Nat} {bd : Bool} (h : newI a f rp rt bd rp) : newA a (va_up f 1 (aPc a + 1)) rp rt bd := by
  obtain ⟨h1, h2, h3, h4⟩ := h
  refine ⟨?_, ?_, fun j hj => ?_, va_up_self _ _ _, fun j h5 h6 => ?_⟩
  · show va_up f _ _ (123 + 62 * aPc a) = rp
    rw [va_up_ne _ _ (by omega)]; exact h1
  · show va_up f _ _ (124 + 62 * aPc a) = bN bd
    rw [va_up_ne _ _ (by omega)]; exact h2
  · show va_up f _ _ (125 + 62 * aPc a + j) = rt j
    rw [va_up_ne _ _ (by omega)]; exact h3 j hj
  · rw [va_up_ne _ _ h5]; exact h4 j h6
def remI (a f : Nat → Nat) (p k : Nat) : Prop := (∀ j, 62 * p ≤ j → j < k → f (123 + j) = a (123 + j + 62)) ∧ f 1 = aPc a - 1 ∧ ∀ j, j ≠ 1 → (j < 123 + 62 * p ∨ 123 + k ≤ j) → f j = a j
theorem remI_0 (a : Nat → Nat) (p : Nat) : remI a (va_up a 1 (aPc a - 1)) p (62 * p) := ⟨fun j h1 h2 => absurd h1 (by omega), va_up_self _ _ _, fun j h1 h2 => va_up_ne _ _ h1⟩
theorem remI_s {a f : Nat → Nat} {p k : Nat} (h : remI a f p k) (hk : 62 * p ≤ k) : remI a (va_up f (123 + k) (a (123 + k + 62))) p (k + 1) := by
  obtain ⟨h1, h2, h3⟩ := h
  refine ⟨fun j k1 k2 => ?_, by rw [va_up_ne _ _ (by omega)]; exact h2, fun j k1 k2 => by rw [va_up_ne _ _ (by omega)]; exact h3 j k1 (by omega)⟩
  by_cases h : j = k
  · subst h; exact va_up_self _ _ _
  · rw [va_up_ne _ _ (by omega)]; exact h1 j k1 (by omega)
theorem lwp2 {L i p q ee bb : Nat} (h1 : p ≤ L) (h2 : q ≤ L) (hb : bb ≤ ee) (hq : q = p + (ee - bb)) (h3 : L + i < 2 ^ 30) : nI (L + i - p) + (nI 1 - nI ee + nI bb) = nI (L + (i + 1) - q) := by
  rw [← lwp_eq h1 h2 hq h3]
  congr 1
  have h9 : nI ee = nI (ee - bb) + nI bb := by
    rw [nI_add]
    congr 1
    omega
  rw [h9, Int32.sub_eq_add_neg (nI 1), Int32.neg_add, Int32.sub_eq_add_neg (-nI (ee - bb)), Int32.add_assoc (nI 1), Int32.add_assoc (-nI (ee - bb)), Int32.add_left_neg, Int32.add_zero, ← Int32.sub_eq_add_neg]
/-- what is replaced, so far -/
def repI (a : Nat → Nat) (c : Nat) (bg ef : Nat → Nat) (r d : Nat) (w : Nat → Nat) : Prop := aLen w = repL bg ef r + d ∧ (∀ i, i < repL bg ef r + d → aTx w i = cpR (aTx a) (repT (aTx a) c bg ef r) (repL bg ef r) (repP ef r) d i) ∧ (∀ i, i < 120 → aTx w i < 27) ∧ ∀ j, (j = 1 ∨ j = 2 ∨ 123 ≤ j) → w j = a j
theorem repI_0 {a : Nat → Nat} {c : Nat} {bg ef : Nat → Nat} (h : ∀ i, i < 120 → aTx a i < 27) : repI a c bg ef 0 0 (va_up a 0 0) := by
  refine ⟨va_up_self _ _ _, fun i hi => absurd hi (Nat.not_lt_zero _), fun i hi => ?_, fun j hj => va_up_ne _ _ (by omega)⟩
  show va_up a 0 0 (3 + i) < 27
  rw [va_up_ne _ _ (by omega)]
  exact h i hi
theorem wA_27 {w : Nat → Nat} {v : Nat} (hv : v < 27) (h : ∀ i, i < 120 → aTx w i < 27) : ∀ i, i < 120 → aTx (wA w v) i < 27 := fun i hi => by
  rw [wA_tx]
  split
  · exact hv
  · exact h i hi
theorem repI_s {a : Nat → Nat} {c : Nat} {bg ef : Nat → Nat} {r d : Nat} {w : Nat → Nat} (h : repI a c bg ef r d w) (hl : repL bg ef r + d < 120) (hv : aTx a (repP ef r + d) < 27) : repI a c bg ef r (d + 1) (wA w (aTx a (repP ef r + d))) := by
  obtain ⟨h1, h2, h3, h4⟩ := h
  refine ⟨by rw [wA_len, h1]; rfl, fun i hi => ?_, wA_27 hv h3, fun j hj => (wA_o (by omega) hj).trans (h4 j hj)⟩
  rw [wA_tx]
  show _ = va_up (cpR (aTx a) (repT (aTx a) c bg ef r) (repL bg ef r) (repP ef r) d) (repL bg ef r + d) (aTx a (repP ef r + d)) i
  by_cases h : i = aLen w
  · rw [if_pos h, h, h1, va_up_self]
  · rw [if_neg h, va_up_ne _ _ (by omega)]
    exact h2 i (by omega)
theorem repI_n {a : Nat → Nat} {c : Nat} {bg ef : Nat → Nat} {r d n L : Nat} {w : Nat → Nat} (h : repI a c bg ef r d w) (hp : partsOK bg ef n L) (hr : r < n) (hd : d = bg (ef r) - repP ef r) (hl : repL bg ef r + d < 120) (hc : c < 27) : repI a c bg ef (r + 1) 0 (wA w c) := by
  obtain ⟨h1, h2, h3, h4⟩ := h
  have e1 := repL_s hp hr
  subst hd
  refine ⟨by rw [wA_len, h1, e1], fun i hi => ?_, wA_27 hc h3, fun j hj => (wA_o (by omega) hj).trans (h4 j hj)⟩
  rw [wA_tx]
  show _ = va_up (cpR (aTx a) (repT (aTx a) c bg ef r) (repL bg ef r) (repP ef r) (bg (ef r) - repP ef r)) (repL bg ef r + (bg (ef r) - repP ef r)) c i
  by_cases h : i = aLen w
  · rw [if_pos h, h, h1, va_up_self]
  · rw [if_neg h, va_up_ne _ _ (by omega)]
    exact h2 i (by omega)
def repA (a b : Nat → Nat) (c : Nat) (bg ef : Nat → Nat) (L n : Nat) : Prop := aLen b = L + n - pS bg ef n ∧ (∀ i, i < L + n - pS bg ef n → aTx b i = repF (aTx a) c bg ef L n i) ∧ (∀ i, i < 120 → aTx b i < 27) ∧ ∀ j, (j = 1 ∨ j = 2 ∨ 123 ≤ j) → b j = a j
theorem repA_of {a w : Nat → Nat} {c : Nat} {bg ef : Nat → Nat} {L n d : Nat} (h : repI a c bg ef n d w) (hp : partsOK bg ef n L) (hd : d = L - repP ef n) : repA a w c bg ef L n := by
  have e1 := repL_F hp
  subst hd
  obtain ⟨h1, h2, h3, h4⟩ := h
  rw [e1] at h1 h2
  exact ⟨h1, h2, h3, h4⟩
theorem rep_room {bg ef : Nat → Nat} {L n r : Nat} (hp : partsOK bg ef n L) (hr : r < n) (hN : L + n - pS bg ef n ≤ 120) : repL bg ef r + (bg (ef r) - repP ef r) < 120 := by
  have e1 := repL_F hp
  have e2 := repL_s hp hr
  have e3 := repL_m hp (r := r + 1) (d := n - (r + 1)) (by omega)
  rw [show r + 1 + (n - (r + 1)) = n by omega] at e3
  omega
