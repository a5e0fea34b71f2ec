
/-! the reader's run; those that stand alone -/
def rd0 (R : RD) : RD := (0, 0, rd_pl R, false, rd_turned R, rd_set R, rd_last R)
def rdRun (t : Nat → Nat) (R : RD) : Nat → Option RD
  | 0 => some R
  | k + 1 => (rdRun t R k).bind (fun Q => rdStep Q (t k))
def rdGo (R : RD) (c : Nat) : Bool := (rdStep R c).isSome
def rdNext (R : RD) (c : Nat) : RD := (rdStep R c).getD R
theorem rdGo_t {R : RD} {c : Nat} (h : rdGo R c = true) : rdStep R c = some (rdNext R c) := by
  unfold rdGo at h
  unfold rdNext
  cases h2 : rdStep R c with
  | none => rw [h2] at h; exact absurd h (by decide)
  | some Q => rfl
theorem rdGo_f {R : RD} {c : Nat} (h : rdGo R c = false) : rdStep R c = none := by
  unfold rdGo at h
  cases h2 : rdStep R c with
  | none => rfl
  | some Q => rw [h2] at h; exact absurd h (by simp)
theorem rdNext_f {R : RD} {c : Nat} (h : rdGo R c = false) : rdNext R c = R := by
  unfold rdNext
  rw [rdGo_f h]
  rfl
theorem rdPost_b {S : XS} {c : Nat} {r : Int32} {S' : XS} (h : rdPost rdStep S c r S') : r = bI (rdGo (getRD S) c) ∧ S' = setRD S (rdNext (getRD S) c) := by
  unfold rdGo rdNext
  rcases h with ⟨R', h1, h2, h3⟩ | ⟨h1, h2, h3⟩
  · rw [h1]; exact ⟨h2, h3⟩
  · rw [h1]; exact ⟨h2, h3⟩
/-- what holds of the reader when n letters were read -/
def okRD (R : RD) (n : Nat) : Prop := rd_mode R ≤ 4 ∧ rd_cnt R ≤ n ∧ rd_set R < 67108864 ∧ rd_last R < 65536 ∧ ∀ i, i < rd_cnt R → rd_pl R i < 134217728
theorem rdAdd_ok {R : RD} {n v : Nat} (h : okRD R n) (hv : v < 134217728) : okRD (rdAdd R v) (n + 1) := by
  obtain ⟨h1, h2, h3, h4, h5⟩ := h
  refine ⟨by show (1 : Nat) ≤ 4; decide, by show rd_cnt R + 1 ≤ n + 1; omega, h3, h4, fun i hi => ?_⟩
  show va_up (rd_pl R) (rd_cnt R) v i < _
  by_cases he : i = rd_cnt R
  · subst he; rw [va_up_self]; exact hv
  · rw [va_up_ne _ _ he]; exact h5 i (by have : i < rd_cnt R + 1 := hi; omega)
theorem pow_let {c : Nat} (h : isLet c = true) : 2 ^ (c - 97) < 67108864 := by
  have := isLet_ge h
  exact Nat.lt_of_le_of_lt (Nat.pow_le_pow_right (by decide) (show c - 97 ≤ 25 by omega)) (by decide)
theorem rdPlace_ok {R R' : RD} {n c : Nat} (h : okRD R n) (e : rdPlace R c = some R') : okRD R' (n + 1) := by
  unfold rdPlace at e
  by_cases h1 : c = 91
  · rw [if_pos h1] at e
    obtain rfl := Option.some.inj e
    exact ⟨by show (2 : Nat) ≤ 4; decide, Nat.le_succ_of_le h.2.1, by show (0 : Nat) < 67108864; decide, h.2.2.2.1, h.2.2.2.2⟩
  · rw [if_neg h1] at e
    by_cases h2 : isLet c = true
    · rw [if_pos h2] at e
      obtain rfl := Option.some.inj e
      exact rdAdd_ok h (Nat.lt_trans (pow_let h2) (by decide))
    · rw [if_neg h2] at e
      by_cases h3 : c = 46
      · rw [if_pos h3] at e
        obtain rfl := Option.some.inj e
        exact rdAdd_ok h (by decide)
      · rw [if_neg h3] at e
        by_cases h4 : c = 95
        · rw [if_pos h4] at e
          obtain rfl := Option.some.inj e
          exact rdAdd_ok h (by decide)
        · rw [if_neg h4] at e
          cases e
theorem rdLetter_ok {R R' : RD} {n c : Nat} (h : okRD R n) (hc : c < 65536) (e : rdLetter R c = some R') : okRD R' (n + 1) := by
  unfold rdLetter at e
  by_cases h1 : isLet c = true ∧ (rd_set R = 0 ∨ rd_last R < c)
  · rw [if_pos h1] at e
    obtain rfl := Option.some.inj e
    exact ⟨by show (4 : Nat) ≤ 4; decide, Nat.le_succ_of_le h.2.1, Nat.or_lt_two_pow (n := 26) h.2.2.1 (pow_let h1.1), hc, h.2.2.2.2⟩
  · rw [if_neg h1] at e
    cases e
theorem rdStep_ok {R R' : RD} {n c : Nat} (h : okRD R n) (hc : c < 65536) (e : rdStep R c = some R') : okRD R' (n + 1) := by
  have hB : ∀ {R'}, rdBegin R c = some R' → okRD R' (n + 1) := fun {R'} e => by
    unfold rdBegin at e
    by_cases h1 : c = 94
    · rw [if_pos h1] at e
      obtain rfl := Option.some.inj e
      exact ⟨by show (1 : Nat) ≤ 4; decide, Nat.le_succ_of_le h.2.1, h.2.2.1, h.2.2.2.1, h.2.2.2.2⟩
    · rw [if_neg h1] at e
      exact rdPlace_ok h e
  have hF : ∀ {R'}, rdFirst R c = some R' → okRD R' (n + 1) := fun {R'} e => by
    unfold rdFirst at e
    by_cases h1 : c = 45
    · rw [if_pos h1] at e
      obtain rfl := Option.some.inj e
      exact ⟨by show (3 : Nat) ≤ 4; decide, Nat.le_succ_of_le h.2.1, h.2.2.1, h.2.2.2.1, h.2.2.2.2⟩
    · rw [if_neg h1] at e
      exact rdLetter_ok h hc e
  have hR : ∀ {R'}, rdRest R c = some R' → okRD R' (n + 1) := fun {R'} e => by
    unfold rdRest at e
    by_cases h1 : c = 93
    · rw [if_pos h1] at e
      obtain rfl := Option.some.inj e
      refine rdAdd_ok h ?_
      by_cases h2 : rd_turned R = true
      · rw [if_pos h2]; exact Nat.lt_trans (cmpl_lt _) (by decide)
      · rw [if_neg h2]; exact Nat.lt_trans h.2.2.1 (by decide)
    · rw [if_neg h1] at e
      exact rdLetter_ok h hc e
  unfold rdStep at e
  split at e
  · exact hB e
  · exact rdPlace_ok h e
  · exact hF e
  · exact rdLetter_ok h hc e
  · exact hR e
def rdFault (t : Nat → Nat) (R0 : RD) (n : Nat) (R : RD) (r : Int32) : Prop := (∃ k, k < n ∧ rdRun t R0 k = some R ∧ rdStep R (t k) = none ∧ r = nI k) ∨ (rdRun t R0 n = some R ∧ r = if rd_mode R = 1 ∧ 0 < rd_cnt R then (-1) else nI n)
theorem rdRun_s {t : Nat → Nat} {R0 R : RD} {k : Nat} (h : rdRun t R0 k = some R) (h2 : rdGo R (t k) = true) : rdRun t R0 (k + 1) = some (rdNext R (t k)) := by
  show (rdRun t R0 k).bind _ = _
  rw [h]
  exact rdGo_t h2

theorem alS_t {isE : Nat → Bool} {bg : Nat → Nat} {k : Nat} (h : isE k = true) (h2 : (alS isE bg k).2 ≤ bg k) : alS isE bg (k + 1) = ((alS isE bg k).1 + 1, k) := if_pos ⟨h, h2⟩
theorem alS_f {isE : Nat → Bool} {bg : Nat → Nat} {k : Nat} (h : ¬ (isE k = true ∧ (alS isE bg k).2 ≤ bg k)) : alS isE bg (k + 1) = alS isE bg k := if_neg h
theorem alE_sub {isE : Nat → Bool} {bg : Nat → Nat} {k : Nat} (h : alE isE bg k = true) : isE k = true := (of_decide_eq_true h).1
theorem cS_same {sel : Nat → Bool} : ∀ {d e : Nat}, cS sel (e + d) = cS sel e → ∀ k, e ≤ k → k < e + d → sel k = false
  | 0, e, _, k, h1, h2 => absurd h1 (by omega)
  | d + 1, e, h, k, h1, h2 => by
    have m1 := cS_mono sel (show e ≤ e + d by omega)
    have m2 := cS_mono sel (show e + d ≤ e + (d + 1) by omega)
    by_cases hk : k < e + d
    · exact cS_same (d := d) (by omega) k h1 hk
    · obtain rfl : k = e + d := by omega
      cases hs : sel (e + d) with
      | false => rfl
      | true =>
        have := cS_t hs
        have h3 : cS sel (e + d + 1) = cS sel e := h
        omega
theorem alS_skip {isE : Nat → Bool} {bg : Nat → Nat} {e : Nat} : ∀ {d : Nat}, (∀ k, e ≤ k → k < e + d → isE k = false) → alS isE bg (e + d) = alS isE bg e
  | 0, _ => rfl
  | d + 1, h => by
    have h1 := h (e + d) (by omega) (by omega)
    exact (alS_f (k := e + d) (fun z => by rw [h1] at z; exact absurd z.1 (by decide))).trans (alS_skip (fun k h2 h3 => h k h2 (by omega)))
theorem LR_skip {f : Nat → Nat} {sel : Nat → Bool} {e e2 : Nat} (h : LR f sel e) (h2 : ∀ k, e ≤ k → k < e2 → sel k = false) : LR f sel e2 := fun k hk hs => by
  by_cases h3 : k < e
  · exact h k h3 hs
  · rw [h2 k (by omega) hk] at hs
    exact absurd hs (by decide)
theorem cS_sub {s1 s2 : Nat → Bool} (h : ∀ k, s1 k = true → s2 k = true) : ∀ n, cS s1 n ≤ cS s2 n
  | 0 => Nat.le_refl _
  | n + 1 => by
    have ih := cS_sub h n
    cases h1 : s1 n with
    | false => rw [cS_f h1]; exact Nat.le_trans ih (cS_mono s2 (Nat.le_succ n))
    | true => rw [cS_t h1, cS_t (h n h1)]; omega
/-- the walk over the ends by rank: where it stands -/
theorem rk_go {f : Nat → Nat} {sel : Nat → Bool} {n e r : Nat} (h : LR f sel n) (he : e ≤ n) (hc : cS sel e = r) (hr : r < cS sel n) : e ≤ f r ∧ f r < n ∧ sel (f r) = true ∧ cS sel (f r) = r ∧ ∀ k, e ≤ k → k < f r → sel k = false := by
  obtain ⟨h1, h2, h3⟩ := LR_at h hr
  have h4 : e ≤ f r := by
    refine Decidable.byContradiction (fun z => ?_)
    have := cS_lt (show f r < e by omega) h2
    omega
  refine ⟨h4, h1, h2, h3, ?_⟩
  have h5 := cS_same (sel := sel) (e := e) (d := f r - e) (by rw [show e + (f r - e) = f r by omega]; omega)
  intro k k1 k2
  exact h5 k k1 (by omega)
theorem rk_end {sel : Nat → Bool} {n e : Nat} (he : e ≤ n) (hc : cS sel e = cS sel n) : ∀ k, e ≤ k → k < n → sel k = false := by
  have h5 := cS_same (sel := sel) (e := e) (d := n - e) (by rw [show e + (n - e) = n by omega]; omega)
  intro k k1 k2
  exact h5 k k1 (by omega)
def alI (sel : Nat → Bool) (bg ef : Nat → Nat) (n : Nat) (f : Nat → Nat) (e r a b : Nat) : Prop := e ≤ n ∧ cS sel e = r ∧ alS sel bg e = (a, b) ∧ LR f (alE sel bg) e ∧ ∀ j, r ≤ j → f j = ef j
theorem alI_go {sel : Nat → Bool} {bg ef f : Nat → Nat} {n e r a b : Nat} (h : alI sel bg ef n f e r a b) (hL : LR ef sel n) (hr : r < cS sel n) : f r < n ∧ sel (f r) = true ∧ alI sel bg ef n f (f r) r a b ∧ a ≤ r ∧ b ≤ f r := by
  obtain ⟨h1, h2, h3, h4, h5⟩ := h
  obtain ⟨k1, k2, k3, k4, k5⟩ := rk_go hL h1 h2 hr
  rw [← h5 r (Nat.le_refl r)] at k1 k2 k3 k4 k5
  have k6 : alS sel bg (f r) = (a, b) := by
    rw [← h3]
    have := alS_skip (isE := sel) (bg := bg) (e := e) (d := f r - e) (fun k q1 q2 => k5 k q1 (by omega))
    rwa [show e + (f r - e) = f r by omega] at this
  have k7 := alS_c sel bg (f r)
  have k8 := alS_2 sel bg (f r)
  have k9 := cS_sub (s1 := alE sel bg) (s2 := sel) (fun k => alE_sub) (f r)
  rw [k6] at k7 k8
  refine ⟨k2, k3, ⟨Nat.le_of_lt k2, k4, k6, LR_skip h4 (fun k q1 q2 => ?_), h5⟩, ?_, k8⟩
  · cases hz : alE sel bg k with
    | false => rfl
    | true => have := alE_sub hz; rw [k5 k q1 q2] at this; exact absurd this (by decide)
  · have k7 : a = cS (alE sel bg) (f r) := k7
    omega
theorem alI_t {sel : Nat → Bool} {bg ef f : Nat → Nat} {n e r a b : Nat} (h : alI sel bg ef n f e r a b) (he : e < n) (hs : sel e = true) (hb : b ≤ bg e) (ha : a ≤ r) : alI sel bg ef n (va_up f a e) (e + 1) (r + 1) (a + 1) e := by
  obtain ⟨h1, h2, h3, h4, h5⟩ := h
  have h6 : alE sel bg e = true := decide_eq_true ⟨hs, by rw [h3]; exact hb⟩
  have h7 := alS_c sel bg e
  rw [h3] at h7
  have h7 : a = cS (alE sel bg) e := h7
  refine ⟨he, by rw [cS_t hs, h2], by rw [alS_t hs (by rw [h3]; exact hb), h3], ?_, fun j hj => by rw [va_up_ne _ _ (by omega)]; exact h5 j (by omega)⟩
  rw [h7]
  exact LR_t h4 h6
theorem alI_f {sel : Nat → Bool} {bg ef f : Nat → Nat} {n e r a b : Nat} (h : alI sel bg ef n f e r a b) (he : e < n) (hs : sel e = true) (hb : ¬ b ≤ bg e) : alI sel bg ef n f (e + 1) (r + 1) a b := by
  obtain ⟨h1, h2, h3, h4, h5⟩ := h
  have h6 : alE sel bg e = false := decide_eq_false (fun z => hb (by have := z.2; rwa [h3] at this))
  exact ⟨he, by rw [cS_t hs, h2], by rw [alS_f (fun z => hb (by have := z.2; rwa [h3] at this)), h3], LR_f h4 h6, fun j hj => h5 j (by omega)⟩
theorem alI_end {sel : Nat → Bool} {bg ef f : Nat → Nat} {n e a b : Nat} (h : alI sel bg ef n f e (cS sel n) a b) : a = cS (alE sel bg) n ∧ LR f (alE sel bg) n := by
  obtain ⟨h1, h2, h3, h4, h5⟩ := h
  have k5 := rk_end h1 h2
  have k6 : alS sel bg n = (a, b) := by
    rw [← h3]
    have := alS_skip (isE := sel) (bg := bg) (e := e) (d := n - e) (fun k q1 q2 => k5 k q1 (by omega))
    rwa [show e + (n - e) = n by omega] at this
  have k7 := alS_c sel bg n
  rw [k6] at k7
  refine ⟨k7, LR_skip h4 (fun k q1 q2 => ?_)⟩
  cases hz : alE sel bg k with
  | false => rfl
  | true => have := alE_sub hz; rw [k5 k q1 q2] at this; exact absurd this (by decide)
theorem alI_0 {sel : Nat → Bool} {bg ef : Nat → Nat} {n : Nat} : alI sel bg ef n ef 0 0 0 0 := ⟨Nat.zero_le n, rfl, rfl, LR_0, fun j _ => rfl⟩
theorem bcol_le {tk : Nat → Nat → Bool} {mb : Nat → Bool} {e i : Nat} (he : e ≤ 127) : bcol tk mb e i ≤ e := kcol_mod he
