/-! what is told is alike -/
theorem decod_cod {c : Nat} (h : isSgn c = true) : decod (cod c) = c := by
  have h1 := of_decide_eq_true h
  unfold decod cod
  by_cases h2 : c = 32
  · rw [if_pos h2, if_pos rfl, h2]
  · have h3 := isLet_ge (h1.resolve_right h2)
    rw [if_neg h2, if_neg (by omega)]
    omega
theorem isPm_n {a : Nat → Nat} {j : Nat} (h : j < aPc a) (h6 : aPc a ≤ 6) : isPm a (nI j) = true := by
  refine decide_eq_true ?_
  rw [nI_toInt (by omega)]
  omega
theorem cntW_V (f : Nat → Nat) : ∀ n, cntW f n = cntV f 134217727 n
  | 0 => rfl
  | n + 1 => by
    show cntW f n + _ = cntV f 134217727 n + _
    rw [cntW_V f n]
theorem cntV_congr {f g : Nat → Nat} {v : Nat} : ∀ {n : Nat}, (∀ i, i < n → f i = g i) → cntV f v n = cntV g v n
  | 0, _ => rfl
  | n + 1, h => by
    show cntV f v n + (if f n = v then 1 else 0) = cntV g v n + (if g n = v then 1 else 0)
    rw [cntV_congr (n := n) (fun i hi => h i (by omega)), h n (by omega)]
theorem cntB_V {f g : Nat → Nat} : ∀ {n : Nat}, (∀ i, i < n → (f i = 32 ↔ g i = 26)) → cntB f n = cntV g 26 n
  | 0, _ => rfl
  | n + 1, h => by
    show cntB f n + (if f n = 32 then 1 else 0) = cntV g 26 n + (if g n = 26 then 1 else 0)
    rw [cntB_V (n := n) (fun i hi => h i (by omega))]
    by_cases h1 : f n = 32
    · rw [if_pos h1, if_pos ((h n (by omega)).mp h1)]
    · rw [if_neg h1, if_neg (fun z => h1 ((h n (by omega)).mpr z))]
theorem plainQ_congr {f g : Nat → Nat} : ∀ {n : Nat}, (∀ i, i < n → f i = g i) → plainQ f n = plainQ g n
  | 0, _ => rfl
  | n + 1, h => by
    show (plainQ f n && decide (bcN (f n) = 1)) = (plainQ g n && decide (bcN (g n) = 1))
    rw [plainQ_congr (n := n) (fun i hi => h i (by omega)), h n (by omega)]
theorem sumN_same {g h : Nat → Nat} : ∀ {n : Nat}, (∀ p, p < n → g p = h p) → sumN g n = sumN h n
  | 0, _ => rfl
  | n + 1, e => by
    show sumN g n + g n = sumN h n + h n
    rw [sumN_same (n := n) (fun p hp => e p (by omega)), e n (by omega)]
theorem sumN_cut {g h : Nat → Nat} {k : Nat} (h1 : ∀ p, p < k → g p = h p) (h2 : ∀ p, k ≤ p → g p = 0) : ∀ n, k ≤ n → sumN g n = sumN h k
  | 0, hn => by
    obtain rfl : k = 0 := by omega
    rfl
  | n + 1, hn => by
    show sumN g n + g n = _
    by_cases hk : k = n + 1
    · subst hk
      show _ = sumN h n + h n
      rw [h1 n (by omega)]
      congr 1
      exact (sumN_same (fun p hp => h1 p (by omega)))
    · rw [sumN_cut h1 h2 n (by omega), h2 n (by omega), Nat.add_zero]
theorem cS_cut {s1 s2 : Nat → Bool} {k : Nat} (h1 : ∀ e, e < k → s1 e = s2 e) (h2 : ∀ e, k ≤ e → s1 e = false) : ∀ {n : Nat}, k ≤ n → cS s1 n = cS s2 k
  | 0, hn => by
    obtain rfl : k = 0 := by omega
    rfl
  | n + 1, hn => by
    by_cases hk : k = n + 1
    · subst hk
      exact cS_congr h1
    · rw [cS_f (h2 n (by omega)), cS_cut h1 h2 (n := n) (by omega)]
theorem patOf_rel {S : XS} {M : MS} (H : INV S M) (hd : noDup S) {j : Nat} (hj : j < st_pcnt (x_now S)) : hasP S (nI j) (patOf S j) := by
  obtain ⟨q, k, h1, h2⟩ := H.1.1.2.2.2.2.2 j hj
  rw [patOf_eq hd h1 h2]
  exact ⟨j, rfl, hj, h2, k, h1⟩
theorem sameF_at {S : XS} {M : MS} (H : INV S M) (hd : noDup S) {j : Nat} (hj : j < st_pcnt (x_now S)) : sameF (patOf S j) S (m_all M) j := by
  obtain ⟨j', h1, h2, h3, h4, h5⟩ := tieP H hd (patOf_rel H hd hj)
  have h6 := H.1.1.2.2.1
  obtain rfl := nI_i (by omega) (by omega) h1
  exact sameF_of H h4 h5
theorem anyE_M {S : XS} {M : MS} (H : INV S M) (hd : noDup S) {e : Nat} (he : e < aLen (m_all M) + 1) : ∀ k, k ≤ st_pcnt (x_now S) → anyE S k e = anyM (m_all M) k e
  | 0, _ => rfl
  | k + 1, hk => by
    have h1 := sameF_at H hd (j := k) (by omega)
    show (anyE S k e || (decide (k < st_pcnt (x_now S)) && decide (e ≤ st_len (x_now S)) && selX (patOf S k) S e)) = (anyM (m_all M) k e || selM (m_all M) k e)
    rw [anyE_M H hd he k (by omega), decide_eq_true (show k < st_pcnt (x_now S) by omega), decide_eq_true (show e ≤ st_len (x_now S) by rw [h1.2.2.2.1]; omega), Bool.true_and, Bool.true_and, sf_s h1 he]
theorem anyE_past {S : XS} {e k : Nat} (h : st_pcnt (x_now S) ≤ k) : ∀ d, anyE S (k + d) e = anyE S k e
  | 0 => rfl
  | d + 1 => by
    show (anyE S (k + d) e || (decide (k + d < st_pcnt (x_now S)) && decide (e ≤ st_len (x_now S)) && selX (patOf S (k + d)) S e)) = _
    rw [anyE_past h d, decide_eq_false (show ¬ k + d < st_pcnt (x_now S) by omega), Bool.false_and, Bool.false_and, Bool.or_false]
theorem anyE_out {S : XS} {e : Nat} (h : ¬ e ≤ st_len (x_now S)) : ∀ k, anyE S k e = false
  | 0 => rfl
  | k + 1 => by
    show (anyE S k e || (decide (k < st_pcnt (x_now S)) && decide (e ≤ st_len (x_now S)) && selX (patOf S k) S e)) = false
    rw [anyE_out h k, decide_eq_false h, Bool.and_false, Bool.false_and]
    rfl
theorem cM_bit {a : Nat → Nat} {p s ee n b : Nat} (hn : n ≤ 60) (hb : b < 64) : lbit (cM a p s ee n) b = decide (b < n ∧ dcol (aTt a p) (aMb a p) ee (b + 1) ≤ s) := by
  induction n with
  | zero =>
    show lbit (lN 0) b = _
    rw [lbit_0 hb, decide_eq_false (fun z => absurd z.1 (Nat.not_lt_zero _))]
  | succ n ih =>
    show lbit (cM a p s ee n ||| _) b = _
    rw [lbit_or, ih (by omega)]
    by_cases h1 : dcol (aTt a p) (aMb a p) ee (n + 1) ≤ s
    · rw [if_pos h1, lbit_shlN _ (by omega) hb, lbit_1 (by omega)]
      by_cases h2 : b = n
      · subst h2
        rw [decide_eq_true (Nat.le_refl _), Nat.sub_self, decide_eq_true rfl, decide_eq_true (⟨Nat.lt_succ_self _, h1⟩ : b < b + 1 ∧ _)]
        simp
      · have e1 : (decide (n ≤ b) && decide (b - n = 0)) = false := by
          by_cases h3 : n ≤ b
          · rw [decide_eq_false (show ¬ b - n = 0 by omega), Bool.and_false]
          · rw [decide_eq_false h3, Bool.false_and]
        rw [e1, Bool.or_false]
        exact decide_eq_decide.mpr ⟨fun z => ⟨by omega, z.2⟩, fun z => ⟨by omega, z.2⟩⟩
    · rw [if_neg h1, lbit_0 hb, Bool.or_false]
      refine decide_eq_decide.mpr ⟨fun z => ⟨by omega, z.2⟩, fun z => ⟨?_, z.2⟩⟩
      have : b ≠ n := fun y => h1 (by rw [← y]; exact z.2)
      omega
theorem wayV_if {tk : Nat → Nat → Bool} {fr D P a b c w : Nat} (hD : D ≤ 120) (hP : P ≤ 60) (h : wsum a b c = wcol tk fr D P) (hw : w ≤ 3) : nI (wayV (wcol tk fr D P) w) = if w = 0 then nI (a + b + c) else if w = 1 then nI a else if w = 2 then nI b else nI c := by
  obtain ⟨h1, h2, h3, h4⟩ := way_of hD hP h
  obtain ⟨a', b', c', k1, k2⟩ := wcol_lo tk fr hD hP
  have k3 : wcol tk fr D P / 2097152 = a' + b' + c' := dq9 (way_e4 k2) (way_l1 k1)
  unfold wayV
  rcases (show w = 0 ∨ w = 1 ∨ w = 2 ∨ w = 3 by omega) with rfl | rfl | rfl | rfl
  · rw [if_pos rfl, h1]
    show nI (wcol tk fr D P / 2097152 % 128) = _
    rw [Nat.mod_eq_of_lt (by omega)]
  · rw [if_neg (by decide), if_pos rfl, h2]
  · rw [if_neg (by decide), if_neg (by decide), if_pos rfl, h3]
  · rw [if_neg (by decide), if_neg (by decide), if_neg (by decide), h4]
    show nI (wcol tk fr D P / 1 % 128) = _
    rw [Nat.div_one]
