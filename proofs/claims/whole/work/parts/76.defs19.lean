/-! acts: the states that they make are alike -/
theorem okR_text {L : List PatD} {d : StD} {a b : Nat → Nat} {T : Nat → Nat} {n : Nat} (H : okR L d a) (hT : okT T n) (hn : n ≤ 120) (h1 : aLen b = n) (h2 : ∀ i, i < n → aTx b i = cod (T i)) (h3 : ∀ i, i < 120 → aTx b i < 27) (h4 : ∀ j, (j = 1 ∨ j = 2 ∨ 123 ≤ j) → b j = a j) : okR L (T, n, st_pats d, st_pcnt d, st_most d) b := by
  obtain ⟨⟨g1, g2, g3, g4, g5, g6⟩, ⟨k1, k2, k3, k4, k5⟩, r1, r2, r3, r4, r5⟩ := H
  have e1 : aPc b = aPc a := h4 1 (by omega)
  have e2 : aMost b = aMost a := h4 2 (by omega)
  have e3 : ∀ p, aPl b p = aPl a p := fun p => h4 _ (by omega)
  have e4 : ∀ p, aBd b p = aBd a p := fun p => h4 _ (by omega)
  have e5 : ∀ p j, aTk b p j = aTk a p j := fun p j => h4 _ (by omega)
  refine ⟨⟨hT, hn, g3, g4, g5, g6⟩, ⟨by omega, by omega, by omega, h3, fun p hp => ?_⟩, h1.symm, ?_, ?_, h2, fun j hj => ?_⟩
  · obtain ⟨m1, m2, m3⟩ := k5 p hp
    exact ⟨by rw [e3]; exact m1, by rw [e4]; exact m2, fun j hj => by rw [e5]; exact m3 j hj⟩
  · rw [e1]; exact r2
  · rw [e2]; exact r3
  · obtain ⟨q, k, m1, m2, m3, m4, m5⟩ := r5 j hj
    exact ⟨q, k, m1, m2, by rw [e3]; exact m3, by rw [e4]; exact m4, fun i hi => by rw [e5]; exact m5 i hi⟩
theorem okT_put {T : Nat → Nat} {n c : Nat} (h : okT T n) (hc : c < 65536) (hs : isSgn c = true) : okT (va_up T n c) (n + 1) := by
  refine ⟨fun i => ?_, fun i hi => ?_⟩
  · by_cases h1 : i = n
    · rw [h1, va_up_self]; exact hc
    · rw [va_up_ne _ _ h1]; exact h.1 i
  · by_cases h1 : i = n
    · rw [h1, va_up_self]; exact hs
    · rw [va_up_ne _ _ h1]; exact h.2 i (by omega)
theorem okR_put {L : List PatD} {d : StD} {a : Nat → Nat} {c : Nat} (H : okR L d a) (hl : st_len d < 120) (hc : c < 65536) (hs : isSgn c = true) : okR L (va_up (st_text d) (st_len d) c, st_len d + 1, st_pats d, st_pcnt d, st_most d) (wA a (cod c)) := by
  have r1 := H.2.2.1
  refine okR_text H (okT_put H.1.1 hc hs) (by omega) ((wA_len _ _).trans (by omega)) (fun i hi => ?_) (wA_27 (cod_27 hs) H.2.1.2.2.2.1) (fun j hj => wA_o (by omega) hj)
  rw [wA_tx]
  by_cases h1 : i = aLen a
  · rw [if_pos h1, h1, ← r1, va_up_self]
  · rw [if_neg h1, va_up_ne _ _ (by omega)]
    exact H.2.2.2.2.2.1 i (by omega)
theorem canW_congr {f g : Nat → Nat} : ∀ {n : Nat}, (∀ i, i < n → f i = g i) → canW f n = canW g n
  | 0, _ => rfl
  | n + 1, h => by
    show (canW f n && (isLet (f n) || f n == 95)) = (canW g n && (isLet (g n) || g n == 95))
    rw [canW_congr (n := n) (fun i hi => h i (by omega)), h n (by omega)]
theorem sgn95_s {c : Nat} (h : (isLet c || c == 95) = true) : isSgn (sgn95 c) = true ∧ cod (sgn95 c) = cod95 c := by
  unfold sgn95 cod95 cod
  by_cases h1 : c = 95
  · rw [if_pos h1, if_pos h1]; exact ⟨by decide, by decide⟩
  · rw [beq_eq_false_iff_ne.mpr h1, Bool.or_false] at h
    have := isLet_ge h
    rw [if_neg h1, if_neg h1, if_neg (by omega)]
    exact ⟨decide_eq_true (Or.inl h), rfl⟩
theorem okR_pad {L : List PatD} {d : StD} {a f g : Nat → Nat} (H : okR L d a) (hf : ∀ i, f i < 65536) : ∀ {n : Nat}, (∀ i, i < n → f i = g i) → canW f n = true → st_len d + n ≤ 120 → okR L (wrT (st_text d) f (st_len d) n, st_len d + n, st_pats d, st_pcnt d, st_most d) (wrA a g n)
  | 0, _, _, _ => H
  | n + 1, h, hw, hl => by
    have h1 := canW_at hw
    have hw2 : canW f n = true := by
      have h2 : (canW f n && (isLet (f n) || f n == 95)) = true := hw
      rw [Bool.and_eq_true] at h2
      exact h2.1
    have ih := okR_pad H hf (fun i hi => h i (by omega)) hw2 (by omega)
    obtain ⟨s1, s2⟩ := sgn95_s (h1 n (by omega))
    have h3 := okR_put ih (show st_len d + n < 120 by omega) (sgn95_lt (hf n)) s1
    rw [s2, h n (by omega)] at h3
    show okR L (va_up (wrT (st_text d) f (st_len d) n) (st_len d + n) (sgn95 (f n)), st_len d + n + 1, st_pats d, st_pcnt d, st_most d) (wA (wrA a g n) (cod95 (g n)))
    rw [h n (by omega)]
    exact h3
theorem okR_most {L : List PatD} {d : StD} {a : Nat → Nat} {k : Nat} (H : okR L d a) (hk : k ≤ 4) : okR L (st_text d, st_len d, st_pats d, st_pcnt d, k) (va_up a 2 k) := by
  obtain ⟨⟨g1, g2, g3, g4, g5, g6⟩, ⟨k1, k2, k3, k4, k5⟩, r1, r2, r3, r4, r5⟩ := H
  have e0 : ∀ j, j ≠ 2 → va_up a 2 k j = a j := fun j hj => va_up_ne _ _ hj
  refine ⟨⟨g1, g2, g3, hk, g5, g6⟩, ⟨?_, ?_, ?_, fun i hi => ?_, fun p hp => ⟨?_, ?_, fun j hj => ?_⟩⟩, ?_, ?_, ?_, fun i hi => ?_, fun j hj => ?_⟩
  · show va_up a 2 k 0 ≤ 120
    rw [e0 _ (by omega)]; exact k1
  · show va_up a 2 k 1 ≤ 6
    rw [e0 _ (by omega)]; exact k2
  · show va_up a 2 k 2 ≤ 4
    rw [va_up_self]; exact hk
  · show va_up a 2 k (3 + i) < 27
    rw [e0 _ (by omega)]; exact k4 i hi
  · show va_up a 2 k (123 + 62 * p) ≤ 60
    rw [e0 _ (by omega)]; exact (k5 p hp).1
  · show va_up a 2 k (124 + 62 * p) < 2
    rw [e0 _ (by omega)]; exact (k5 p hp).2.1
  · show va_up a 2 k (125 + 62 * p + j) < _
    rw [e0 _ (by omega)]; exact (k5 p hp).2.2 j hj
  · show _ = va_up a 2 k 0
    rw [e0 _ (by omega)]; exact r1
  · show _ = va_up a 2 k 1
    rw [e0 _ (by omega)]; exact r2
  · show k = va_up a 2 k 2
    rw [va_up_self]
  · show va_up a 2 k (3 + i) = _
    rw [e0 _ (by omega)]; exact r4 i hi
  · obtain ⟨q, kk, m1, m2, m3, m4, m5⟩ := r5 j hj
    refine ⟨q, kk, m1, m2, ?_, ?_, fun i hi => ?_⟩
    · show _ = va_up a 2 k (123 + 62 * j)
      rw [e0 _ (by omega)]; exact m3
    · show _ = va_up a 2 k (124 + 62 * j)
      rw [e0 _ (by omega)]; exact m4
    · show _ = va_up a 2 k (125 + 62 * j + i)
      rw [e0 _ (by omega)]; exact m5 i hi
theorem toI_lt {x : Int32} {k : Nat} (hk : k < 2 ^ 31) : (x < nI k ↔ x.toInt < k) ∧ (nI k < x ↔ (k : Int) < x.toInt) ∧ (nI k ≤ x ↔ (k : Int) ≤ x.toInt) := by
  rw [Int32.lt_iff_toInt_lt, Int32.lt_iff_toInt_lt, Int32.le_iff_toInt_le, nI_toInt hk]
  exact ⟨Iff.rfl, Iff.rfl, Iff.rfl⟩
theorem toI_0 {x : Int32} : (x < 0 ↔ x.toInt < 0) ∧ (x < 1 ↔ x.toInt < 1) := by
  rw [Int32.lt_iff_toInt_lt, Int32.lt_iff_toInt_lt]
  exact ⟨Iff.rfl, Iff.rfl⟩
theorem nI_i {a b : Nat} (ha : a < 2 ^ 31) (hb : b < 2 ^ 31) (h : nI a = nI b) : a = b := nI_inj9 ha hb h
