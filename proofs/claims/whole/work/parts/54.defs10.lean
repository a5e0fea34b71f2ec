
/-! the reference: ends, acts -/
def okA (a : Nat → Nat) : Prop := aLen a ≤ 120 ∧ aPc a ≤ 6 ∧ aMost a ≤ 4 ∧ (∀ i, i < 120 → aTx a i < 27) ∧ ∀ p, p < 6 → aPl a p ≤ 60 ∧ aBd a p < 2 ∧ ∀ j, j < 60 → aTk a p j < 134217728
def dM (a : Nat → Nat) (p e : Nat) : Nat := dcol (aTt a p) (aMb a p) e (aPl a p)
def bM (a : Nat → Nat) (p e : Nat) : Nat := bcol (aTt a p) (aMb a p) e (aPl a p)
def kM (a : Nat → Nat) (p e : Nat) : Nat := kcol (aTt a p) (aMb a p) e (aPl a p)
def selM (a : Nat → Nat) (p e : Nat) : Bool := decide (dM a p e ≤ aMost a)
def alM (a : Nat → Nat) (p : Nat) : Nat → Bool := alE (selM a p) (bM a p)
def selP (sel : Nat → Bool) (bg : Nat → Nat) (al : Bool) : Nat → Bool := if al = true then alE sel bg else sel
def selAM (a : Nat → Nat) (p : Nat) (al : Bool) : Nat → Bool := selP (selM a p) (bM a p) al
def gM (a : Nat → Nat) (p : Nat) (ef : Nat → Nat) (r : Nat) : Nat := min (dM a p (ef r)) 4
theorem gM_4 (a : Nat → Nat) (p : Nat) (ef : Nat → Nat) (r : Nat) : gM a p ef r ≤ 4 := Nat.min_le_right _ _
theorem dM_le (a : Nat → Nat) (p e : Nat) : dM a p e ≤ aPl a p + e := dcol_le _ _ _ _
theorem selAM_sub {a : Nat → Nat} {p e : Nat} {al : Bool} (h : selAM a p al e = true) : selM a p e = true := by
  cases al with
  | true => exact alE_sub h
  | false => exact h
theorem gM_eq {a ef : Nat → Nat} {p n r : Nat} {al : Bool} (hm : aMost a ≤ 4) (hL : LR ef (selAM a p al) n) (hr : r < cS (selAM a p al) n) : ef r < n ∧ dM a p (ef r) = gM a p ef r := by
  obtain ⟨h1, h2, h3⟩ := LR_at hL hr
  have h4 : dM a p (ef r) ≤ aMost a := of_decide_eq_true (selAM_sub h2)
  exact ⟨h1, (Nat.min_eq_left (by omega)).symm⟩
/-- the search of ends, so far -/
def seI (al : Bool) (sel : Nat → Bool) (bg f : Nat → Nat) (e c : Nat) : Prop := c = cS (selP sel bg al) e ∧ LR f (selP sel bg al) e ∧ (al = true → (alS sel bg e).2 = if c = 0 then 0 else f (c - 1))
theorem seI_0 {al : Bool} {sel : Nat → Bool} {bg f : Nat → Nat} : seI al sel bg f 0 0 := ⟨rfl, LR_0, fun _ => rfl⟩
theorem seI_lt {al : Bool} {sel : Nat → Bool} {bg f : Nat → Nat} {e c : Nat} (h : seI al sel bg f e c) : c ≤ e ∧ ∀ r, r < c → f r < e := by
  obtain ⟨rfl, h2, h3⟩ := h
  exact ⟨cS_le _ _, fun r hr => (LR_at h2 hr).1⟩
theorem seI_t {al : Bool} {sel : Nat → Bool} {bg f : Nat → Nat} {e c : Nat} (h : seI al sel bg f e c) (hs : sel e = true) (hb : al = true → c = 0 ∨ f (c - 1) ≤ bg e) : seI al sel bg (va_up f c e) (e + 1) (c + 1) := by
  obtain ⟨h1, h2, h3⟩ := h
  have hz : al = true → (alS sel bg e).2 ≤ bg e := fun ha => by
    rw [h3 ha]
    rcases hb ha with h | h
    · rw [if_pos h]; exact Nat.zero_le _
    · split
      · exact Nat.zero_le _
      · exact h
  have h4 : selP sel bg al e = true := by
    cases al with
    | true => exact decide_eq_true ⟨hs, hz rfl⟩
    | false => exact hs
  refine ⟨by rw [cS_t h4, h1], by rw [h1]; exact LR_t h2 h4, fun ha => ?_⟩
  rw [alS_t hs (hz ha), if_neg (Nat.succ_ne_zero c), Nat.add_sub_cancel, va_up_self]
theorem seI_f1 {al : Bool} {sel : Nat → Bool} {bg f : Nat → Nat} {e c : Nat} (h : seI al sel bg f e c) (hs : sel e = false) : seI al sel bg f (e + 1) c := by
  obtain ⟨h1, h2, h3⟩ := h
  have h4 : selP sel bg al e = false := by
    cases al with
    | true => exact decide_eq_false (fun z => absurd z.1 (by rw [hs]; decide))
    | false => exact hs
  refine ⟨by rw [cS_f h4]; exact h1, LR_f h2 h4, fun ha => ?_⟩
  rw [alS_f (fun z => absurd z.1 (by rw [hs]; decide))]
  exact h3 ha
theorem seI_f2 {al : Bool} {sel : Nat → Bool} {bg f : Nat → Nat} {e c : Nat} (h : seI al sel bg f e c) (ha : al = true) (hc : c ≠ 0) (hb : bg e < f (c - 1)) : seI al sel bg f (e + 1) c := by
  obtain ⟨h1, h2, h3⟩ := h
  subst ha
  have h5 := h3 rfl
  rw [if_neg hc] at h5
  have h4 : selP sel bg true e = false := decide_eq_false (fun z => by have := z.2; omega)
  refine ⟨by rw [cS_f h4]; exact h1, LR_f h2 h4, fun _ => ?_⟩
  rw [alS_f (fun z => by have := z.2; omega), if_neg hc]
  exact h5
theorem seI_end {al : Bool} {sel : Nat → Bool} {bg f : Nat → Nat} {e c : Nat} (h : seI al sel bg f e c) : c = cS (selP sel bg al) e ∧ LR f (selP sel bg al) e := ⟨h.1, h.2.1⟩
def isPm (a : Nat → Nat) (p0 : Int32) : Bool := decide (0 ≤ p0.toInt ∧ p0.toInt < aPc a)
theorem isPm_t {a : Nat → Nat} {p0 : Int32} (h : isPm a p0 = true) : ∃ j, j < aPc a ∧ p0 = nI j := by
  have h1 := of_decide_eq_true h
  refine ⟨p0.toInt.toNat, by omega, Int32.toInt_inj.mp ?_⟩
  have h2 := p0.toInt_lt
  rw [nI_toInt (by omega)]
  omega
theorem isPm_f {a : Nat → Nat} {p0 : Int32} (h : isPm a p0 = false) (hc : aPc a ≤ 6) : p0 < 0 ∨ nI (aPc a) ≤ p0 := by
  have h1 := of_decide_eq_false h
  rw [Int32.lt_iff_toInt_lt, Int32.le_iff_toInt_le, nI_toInt (by omega)]
  have h2 : (0 : Int32).toInt = 0 := by decide
  omega
theorem lN_sub1 {a : Nat} (ha : a < 2 ^ 31) : (lN a - lN 1).toInt = (a : Int) - 1 := by
  rw [Int64.toInt_sub, lN_toInt ha, lN_toInt (show 1 < 2 ^ 31 by decide)]
  exact Int.bmod_eq_of_le (by omega) (by omega)
theorem isPm_eq {a : Nat → Nat} {p0 : Int32} (hc : aPc a ≤ 6) : inL p0.toInt64 (lN 0) (lN (aPc a) - lN 1) = isPm a p0 := by
  unfold inL isPm
  rw [lN_sub1 (by omega), lN_toInt (show 0 < 2 ^ 31 by decide), Int32.toInt_toInt64]
  exact decide_eq_decide.mpr (by omega)
def codeI (c : Nat) : Int32 := if c = 32 then nI 26 else if isLet c = true then nI (c - 97) else (-5)
def anyM (a : Nat → Nat) : Nat → Nat → Bool
  | 0, _ => false
  | k + 1, e => anyM a k e || selM a k e
theorem anyM_s {a ef : Nat → Nat} {k e n : Nat} (hL : LR ef (selAM a k false) n) (he : e < n) : (anyM a k e || decide (∃ r, r < cS (selAM a k false) n ∧ ef r = e)) = anyM a (k + 1) e := by
  show _ = (anyM a k e || selM a k e)
  congr 1
  cases hs : selM a k e with
  | true => exact decide_eq_true ⟨cS (selAM a k false) e, cS_lt he hs, hL e he hs⟩
  | false =>
    refine decide_eq_false (fun z => ?_)
    obtain ⟨r, hr, rfl⟩ := z
    have h2 : selM a k (ef r) = true := (LR_at hL hr).2.1
    rw [hs] at h2
    exact absurd h2 (by decide)
theorem argG_up {g : Nat → Nat} {k : Nat} (h0 : 0 < k) (h : g k < g (argG g k)) : argG g (k + 1) = k := by
  show (if k = 0 then 0 else if g k < g (argG g k) then k else argG g k) = k
  rw [if_neg (by omega), if_pos h]
theorem argG_no {g : Nat → Nat} {k : Nat} (h0 : 0 < k) (h : ¬ g k < g (argG g k)) : argG g (k + 1) = argG g k := by
  show (if k = 0 then 0 else if g k < g (argG g k) then k else argG g k) = _
  rw [if_neg (by omega), if_neg h]
def bN (b : Bool) : Nat := if b = true then 1 else 0
theorem bN_le (b : Bool) : bN b ≤ 1 := by cases b <;> decide
theorem cS_bN (sel : Nat → Bool) (k : Nat) : cS sel k + bN (sel k) = cS sel (k + 1) := by
  cases h : sel k with
  | true => rw [cS_t h]; rfl
  | false => rw [cS_f h]; rfl
theorem mkM_s {A : Bool} {ef : Nat → Nat} {k e : Nat} : va_up (fun _ => 0) 0 0 0 = 0 → bN (A || decide (∃ r, r < k + 1 ∧ ef r = e)) = if e = ef k then 1 else bN (A || decide (∃ r, r < k ∧ ef r = e)) := fun _ => by
  by_cases h : e = ef k
  · rw [if_pos h, decide_eq_true ⟨k, Nat.lt_succ_self k, h.symm⟩, Bool.or_true]; rfl
  · rw [if_neg h]
    congr 2
    refine decide_eq_decide.mpr ⟨fun z => ?_, fun z => ?_⟩
    · obtain ⟨r, h1, h2⟩ := z
      refine ⟨r, ?_, h2⟩
      rcases Nat.lt_succ_iff_lt_or_eq.mp h1 with h3 | h3
      · exact h3
      · subst h3; exact absurd h2.symm h
    · obtain ⟨r, h1, h2⟩ := z
      exact ⟨r, Nat.lt_succ_of_lt h1, h2⟩
