/-! patterns that come and go; what is replaced -/
theorem rem_cell {a b : Nat → Nat} {j : Nat} (hb : remI a b j (62 * (aPc a - 1))) {p x : Nat} (hx : x < 62) : b (123 + 62 * p + x) = if j ≤ p ∧ p < aPc a - 1 then a (123 + 62 * (p + 1) + x) else a (123 + 62 * p + x) := by
  obtain ⟨h1, h2, h3⟩ := hb
  by_cases h : j ≤ p ∧ p < aPc a - 1
  · rw [if_pos h]
    have h4 := h1 (62 * p + x) (by omega) (by omega)
    rw [show 123 + 62 * p + x = 123 + (62 * p + x) by omega, h4]
    exact congrArg a (by omega)
  · rw [if_neg h]
    exact h3 _ (by omega) (by omega)
theorem okR_rem {L : List PatD} {d : StD} {a b : Nat → Nat} {j : Nat} (H : okR L d a) (hj : j < st_pcnt d) (hb : remI a b j (62 * (aPc a - 1))) : okR L (st_text d, st_len d, va_up (remP (st_pats d) j 5) 5 none, st_pcnt d - 1, st_most d) b := by
  have hc := fun p x (hx : x < 62) => rem_cell hb (p := p) (x := x) hx
  obtain ⟨h1, h2, h3⟩ := hb
  obtain ⟨⟨g1, g2, g3, g4, g5, g6⟩, ⟨k1, k2, k3, k4, k5⟩, r1, r2, r3, r4, r5⟩ := H
  have e0 : b 0 = a 0 := h3 0 (by omega) (by omega)
  have e2 : b 2 = a 2 := h3 2 (by omega) (by omega)
  have et : ∀ i, i < 120 → b (3 + i) = a (3 + i) := fun i hi => h3 _ (by omega) (by omega)
  have hpt : ∀ i, i < 6 → va_up (remP (st_pats d) j 5) 5 none i = if i = 5 then none else if j ≤ i then st_pats d (i + 1) else st_pats d i := fun i hi => by
    by_cases h : i = 5
    · rw [h, va_up_self, if_pos rfl]
    · rw [va_up_ne _ _ h, if_neg h]
      unfold remP
      by_cases h4 : j ≤ i
      · rw [if_pos ⟨h4, by omega⟩, if_pos h4]
      · rw [if_neg (fun z => h4 z.1), if_neg h4]
  refine ⟨⟨g1, g2, by show st_pcnt d - 1 ≤ 6; omega, g4, fun i hi z hz => ?_, fun i hi => ?_⟩, ⟨?_, ?_, ?_, fun i hi => ?_, fun p hp => ?_⟩, ?_, ?_, ?_, fun i hi => ?_, fun i hi => ?_⟩
  · have hz : va_up (remP (st_pats d) j 5) 5 none i = some z := hz
    rw [hpt i hi] at hz
    by_cases h : i = 5
    · rw [if_pos h] at hz; cases hz
    · rw [if_neg h] at hz
      by_cases h4 : j ≤ i
      · rw [if_pos h4] at hz; exact g5 (i + 1) (by omega) z hz
      · rw [if_neg h4] at hz; exact g5 i hi z hz
  · have hi : i < st_pcnt d - 1 := hi
    show ∃ (q : PatD) (k : Nat), L[k]? = some q ∧ va_up (remP (st_pats d) j 5) 5 none i = some (pd_a q)
    rw [hpt i (by omega), if_neg (by omega)]
    by_cases h4 : j ≤ i
    · rw [if_pos h4]; exact g6 (i + 1) (by omega)
    · rw [if_neg h4]; exact g6 i (by omega)
  · show b 0 ≤ 120
    rw [e0]; exact k1
  · show b 1 ≤ 6
    rw [h2]; omega
  · show b 2 ≤ 4
    rw [e2]; exact k3
  · show b (3 + i) < 27
    rw [et i hi]; exact k4 i hi
  · have q0 := hc p 0 (by decide)
    have q1 := hc p 1 (by decide)
    have a0 : aPl b p = b (123 + 62 * p + 0) := rfl
    have a1 : aBd b p = b (123 + 62 * p + 1) := congrArg b (by omega)
    refine ⟨?_, ?_, fun i hi => ?_⟩
    · rw [a0, q0]
      by_cases h : j ≤ p ∧ p < aPc a - 1
      · rw [if_pos h]; exact (k5 (p + 1) (by omega)).1
      · rw [if_neg h]; exact (k5 p hp).1
    · rw [a1, q1]
      by_cases h : j ≤ p ∧ p < aPc a - 1
      · rw [if_pos h, show 123 + 62 * (p + 1) + 1 = 124 + 62 * (p + 1) by omega]; exact (k5 (p + 1) (by omega)).2.1
      · rw [if_neg h, show 123 + 62 * p + 1 = 124 + 62 * p by omega]; exact (k5 p hp).2.1
    · have q2 := hc p (2 + i) (by omega)
      have a2 : aTk b p i = b (123 + 62 * p + (2 + i)) := congrArg b (by omega)
      rw [a2, q2]
      by_cases h : j ≤ p ∧ p < aPc a - 1
      · rw [if_pos h, show 123 + 62 * (p + 1) + (2 + i) = 125 + 62 * (p + 1) + i by omega]; exact (k5 (p + 1) (by omega)).2.2 i hi
      · rw [if_neg h, show 123 + 62 * p + (2 + i) = 125 + 62 * p + i by omega]; exact (k5 p hp).2.2 i hi
  · show st_len d = b 0
    rw [e0]; exact r1
  · show st_pcnt d - 1 = b 1
    rw [h2, r2]
  · show st_most d = b 2
    rw [e2]; exact r3
  · show b (3 + i) = _
    have hi : i < st_len d := hi
    rw [et i (by omega)]; exact r4 i hi
  · have hi : i < st_pcnt d - 1 := hi
    show ∃ (q : PatD) (k : Nat), L[k]? = some q ∧ va_up (remP (st_pats d) j 5) 5 none i = some (pd_a q) ∧ relQ q b i
    rw [hpt i (by omega), if_neg (by omega)]
    have q0 := hc i 0 (by decide)
    have q1 := hc i 1 (by decide)
    have a0 : aPl b i = b (123 + 62 * i + 0) := rfl
    have a1 : aBd b i = b (123 + 62 * i + 1) := congrArg b (by omega)
    have tr : ∀ z (q : PatD), z < 6 → (∀ x, x < 62 → b (123 + 62 * i + x) = a (123 + 62 * z + x)) → relQ q a z → pd_cnt q ≤ 60 → relQ q b i := fun z q hz hx hq h60 => by
      obtain ⟨m1, m2, m3⟩ := hq
      refine ⟨?_, ?_, fun y hy => ?_⟩
      · rw [a0, hx 0 (by decide)]; exact m1
      · rw [a1, hx 1 (by decide), show 123 + 62 * z + 1 = 124 + 62 * z by omega]; exact m2
      · have a2 : aTk b i y = b (123 + 62 * i + (2 + y)) := congrArg b (by omega)
        rw [a2, hx _ (by omega), show 123 + 62 * z + (2 + y) = 125 + 62 * z + y by omega]; exact m3 y hy
    by_cases h4 : j ≤ i
    · rw [if_pos h4]
      obtain ⟨q, k, m1, m2, m3⟩ := r5 (i + 1) (by omega)
      exact ⟨q, k, m1, m2, tr (i + 1) q (by omega) (fun x hx => by rw [hc i x hx, if_pos ⟨h4, by omega⟩]) m3 (by rw [m3.1]; exact (k5 (i + 1) (by omega)).1)⟩
    · rw [if_neg h4]
      obtain ⟨q, k, m1, m2, m3⟩ := r5 i (by omega)
      exact ⟨q, k, m1, m2, tr i q (by omega) (fun x hx => by rw [hc i x hx, if_neg (fun z => h4 z.1)]) m3 (by rw [m3.1]; exact (k5 i (by omega)).1)⟩
theorem okR_new {L : List PatD} {d : StD} {a b rt : Nat → Nat} {rp : Nat} {bd : Bool} {q : PatD} (H : okR L d a) (hp : st_pcnt d < 6) (hq : okQ q) (hb : newA a b rp rt bd) (h1 : pd_cnt q = rp) (h2 : pd_bnd q = bd) (h3 : ∀ i, i < rp → pd_plf q i = rt i) : okR (L ++ [q]) (st_text d, st_len d, va_up (st_pats d) (st_pcnt d) (some (pd_a q)), st_pcnt d + 1, st_most d) b := by
  have hmo : ∀ (k : Nat) (z : PatD), L[k]? = some z → (L ++ [q])[k]? = some z := fun k z h => by
    rw [List.getElem?_append_left (List.getElem?_eq_some_iff.mp h).1]; exact h
  have hnq : (L ++ [q])[L.length]? = some q := by
    rw [List.getElem?_append_right (Nat.le_refl _), Nat.sub_self]; rfl
  have H2 := okR_more hmo H
  obtain ⟨⟨g1, g2, g3, g4, g5, g6⟩, ⟨k1, k2, k3, k4, k5⟩, r1, r2, r3, r4, r5⟩ := H2
  obtain ⟨b1, b2, b3, b4, b5⟩ := hb
  have h60 : rp ≤ 60 := by rw [← h1]; exact hq.2.1
  have e0 : b 0 = a 0 := b5 0 (by omega) (by omega)
  have e2 : b 2 = a 2 := b5 2 (by omega) (by omega)
  have et : ∀ i, i < 120 → b (3 + i) = a (3 + i) := fun i hi => b5 _ (by omega) (by omega)
  have eo : ∀ p x, p ≠ aPc a → x < 62 → b (123 + 62 * p + x) = a (123 + 62 * p + x) := fun p x hne hx => b5 _ (by omega) (by omega)
  refine ⟨⟨g1, g2, by show st_pcnt d + 1 ≤ 6; omega, g4, fun i hi z hz => ?_, fun i hi => ?_⟩, ⟨?_, ?_, ?_, fun i hi => ?_, fun p hpp => ?_⟩, ?_, ?_, ?_, fun i hi => ?_, fun i hi => ?_⟩
  · have hz : va_up (st_pats d) (st_pcnt d) (some (pd_a q)) i = some z := hz
    by_cases h : i = st_pcnt d
    · rw [h, va_up_self] at hz
      exact ⟨_, q, hnq, Option.some.inj hz⟩
    · rw [va_up_ne _ _ h] at hz
      exact g5 i hi z hz
  · have hi : i < st_pcnt d + 1 := hi
    show ∃ (z : PatD) (k : Nat), (L ++ [q])[k]? = some z ∧ va_up (st_pats d) (st_pcnt d) (some (pd_a q)) i = some (pd_a z)
    by_cases h : i = st_pcnt d
    · rw [h, va_up_self]; exact ⟨q, _, hnq, rfl⟩
    · rw [va_up_ne _ _ h]; exact g6 i (by omega)
  · show b 0 ≤ 120
    rw [e0]; exact k1
  · show b 1 ≤ 6
    rw [b4]; omega
  · show b 2 ≤ 4
    rw [e2]; exact k3
  · show b (3 + i) < 27
    rw [et i hi]; exact k4 i hi
  · by_cases h : p = aPc a
    · subst h
      refine ⟨by rw [b1]; exact h60, by rw [b2]; exact Nat.lt_succ_of_le (bN_le _), fun i hi => ?_⟩
      by_cases h4 : i < rp
      · rw [b3 i h4, ← h3 i h4]; exact hq.2.2.1 i (by omega)
      · have : aTk b (aPc a) i = aTk a (aPc a) i := b5 _ (by omega) (by omega)
        rw [this]; exact (k5 _ hpp).2.2 i hi
    · obtain ⟨m1, m2, m3⟩ := k5 p hpp
      have a0 : aPl b p = aPl a p := eo p 0 h (by decide)
      have a1 : aBd b p = aBd a p := b5 _ (by omega) (by omega)
      refine ⟨by rw [a0]; exact m1, by rw [a1]; exact m2, fun i hi => ?_⟩
      have a2 : aTk b p i = aTk a p i := b5 _ (by omega) (by omega)
      rw [a2]; exact m3 i hi
  · show st_len d = b 0
    rw [e0]; exact r1
  · show st_pcnt d + 1 = b 1
    rw [b4, r2]
  · show st_most d = b 2
    rw [e2]; exact r3
  · show b (3 + i) = _
    have hi : i < st_len d := hi
    rw [et i (by omega)]; exact r4 i hi
  · have hi : i < st_pcnt d + 1 := hi
    show ∃ (z : PatD) (k : Nat), (L ++ [q])[k]? = some z ∧ va_up (st_pats d) (st_pcnt d) (some (pd_a q)) i = some (pd_a z) ∧ relQ z b i
    by_cases h : i = st_pcnt d
    · rw [h, va_up_self, r2]
      exact ⟨q, _, hnq, rfl, h1.trans b1.symm, by rw [h2, b2], fun y hy => by rw [b3 y (by omega)]; exact h3 y (by omega)⟩
    · rw [va_up_ne _ _ h]
      obtain ⟨z, k, m1, m2, m3, m4, m5⟩ := r5 i (by omega)
      have a0 : aPl b i = aPl a i := b5 _ (by omega) (by omega)
      have a1 : aBd b i = aBd a i := b5 _ (by omega) (by omega)
      have hz60 := (k5 i (by omega)).1
      refine ⟨z, k, m1, m2, by rw [a0]; exact m3, by rw [a1]; exact m4, fun y hy => ?_⟩
      have a2 : aTk b i y = aTk a i y := b5 _ (by omega) (by omega)
      rw [a2]; exact m5 y hy
theorem pS_congr {bg bg' f f' : Nat → Nat} : ∀ {n : Nat}, (∀ r, r < n → f r = f' r ∧ bg (f r) = bg' (f' r)) → pS bg f n = pS bg' f' n
  | 0, _ => rfl
  | n + 1, h => by
    show pS bg f n + (f n - bg (f n)) = pS bg' f' n + (f' n - bg' (f' n))
    rw [pS_congr (n := n) (fun r hr => h r (by omega)), (h n (by omega)).2, (h n (by omega)).1]
theorem repP_congr {f f' : Nat → Nat} {n r : Nat} (h : ∀ r, r < n → f r = f' r) (hr : r ≤ n) : repP f r = repP f' r := by
  cases r with
  | zero => rfl
  | succ r => exact h r (by omega)
theorem repT_congr {T bg bg' f f' : Nat → Nat} {c n : Nat} (h : ∀ r, r < n → f r = f' r ∧ bg (f r) = bg' (f' r)) : ∀ {r : Nat}, r ≤ n → repT T c bg f r = repT T c bg' f' r ∧ repL bg f r = repL bg' f' r
  | 0, _ => ⟨rfl, rfl⟩
  | r + 1, hr => by
    obtain ⟨h1, h2⟩ := repT_congr h (r := r) (by omega)
    have h3 := repP_congr (r := r) (fun r hr => (h r hr).1) (by omega)
    have h4 := repP_congr (r := r + 1) (fun r hr => (h r hr).1) hr
    have h5 := pS_congr (n := r + 1) (fun r hr => h r (by omega))
    refine ⟨?_, by unfold repL; rw [h4, h5]⟩
    show va_up (cpR T (repT T c bg f r) (repL bg f r) (repP f r) (bg (f r) - repP f r)) (repL bg f r + (bg (f r) - repP f r)) c = va_up (cpR T (repT T c bg' f' r) (repL bg' f' r) (repP f' r) (bg' (f' r) - repP f' r)) (repL bg' f' r + (bg' (f' r) - repP f' r)) c
    rw [h1, h2, h3, (h r (by omega)).2]
theorem repF_congr {T bg bg' f f' : Nat → Nat} {c L n : Nat} (h : ∀ r, r < n → f r = f' r ∧ bg (f r) = bg' (f' r)) : repF T c bg f L n = repF T c bg' f' L n := by
  obtain ⟨h1, h2⟩ := repT_congr (T := T) (c := c) h (Nat.le_refl n)
  unfold repF
  rw [h1, h2, repP_congr (fun r hr => (h r hr).1) (Nat.le_refl n)]
/-- a text and its codes, up to where both are written -/
def tc (T' T : Nat → Nat) (n : Nat) : Prop := (∀ i, T i < 65536) ∧ ∀ i, i < n → T' i = cod (T i) ∧ isSgn (T i) = true
theorem tc_put {T' T : Nat → Nat} {n c : Nat} (h : tc T' T n) (hc : c < 65536) (hs : isSgn c = true) : tc (va_up T' n (cod c)) (va_up T n c) (n + 1) := by
  refine ⟨fun i => ?_, fun i hi => ?_⟩
  · by_cases h1 : i = n
    · rw [h1, va_up_self]; exact hc
    · rw [va_up_ne _ _ h1]; exact h.1 i
  · by_cases h1 : i = n
    · rw [h1, va_up_self, va_up_self]; exact ⟨rfl, hs⟩
    · rw [va_up_ne _ _ h1, va_up_ne _ _ h1]; exact h.2 i (by omega)
theorem tc_cp {T' T t' t : Nat → Nat} {L l p : Nat} (hT : tc T' T L) (ht : tc t' t l) : ∀ {d : Nat}, p + d ≤ L → tc (cpR T' t' l p d) (cpR T t l p d) (l + d)
  | 0, _ => ht
  | d + 1, hd => by
    have ih := tc_cp hT ht (p := p) (d := d) (by omega)
    obtain ⟨h1, h2⟩ := hT.2 (p + d) (by omega)
    show tc (va_up (cpR T' t' l p d) (l + d) (T' (p + d))) (va_up (cpR T t l p d) (l + d) (T (p + d))) (l + d + 1)
    rw [h1]
    exact tc_put ih (hT.1 _) h2
theorem tc_rep {T' T bg f : Nat → Nat} {L c n : Nat} (hT : tc T' T L) (hp : partsOK bg f n L) (hc : c < 65536) (hs : isSgn c = true) : ∀ {r : Nat}, r ≤ n → tc (repT T' (cod c) bg f r) (repT T c bg f r) (repL bg f r)
  | 0, _ => ⟨hT.1, fun i hi => absurd hi (Nat.not_lt_zero _)⟩
  | r + 1, hr => by
    have ih := tc_rep hT hp hc hs (r := r) (by omega)
    have h1 := repL_s hp (r := r) (by omega)
    have h2 := repP_le hp (r := r) (by omega)
    obtain ⟨h3, h4, -⟩ := hp r (by omega)
    rw [h1]
    exact tc_put (tc_cp hT ih (by omega)) hc hs
theorem tc_repF {T' T bg f : Nat → Nat} {L c n : Nat} (hT : tc T' T L) (hp : partsOK bg f n L) (hc : c < 65536) (hs : isSgn c = true) : tc (repF T' (cod c) bg f L n) (repF T c bg f L n) (L + n - pS bg f n) := by
  have h1 := repL_F hp
  have h2 := repP_L hp (Nat.le_refl n)
  rw [← h1]
  exact tc_cp hT (tc_rep hT hp hc hs (Nat.le_refl n)) (by omega)
theorem okR_rep {L : List PatD} {d : StD} {a b bg ef bf ef' : Nat → Nat} {c n : Nat} (H : okR L d a) (hc : isLet c = true) (hp : partsOK bg ef n (st_len d)) (hN : st_len d + n - pS bg ef n ≤ 120) (hb : repA a b (c - 97) bg ef (st_len d) n) (he : ∀ r, r < n → ef' r = ef r ∧ bf (ef' r) = bg (ef r)) : okR L (repF (st_text d) c bf ef' (st_len d) n, st_len d + n - pS bf ef' n, st_pats d, st_pcnt d, st_most d) b := by
  have h97 := isLet_ge hc
  have hcod : c - 97 = cod c := by
    unfold cod
    rw [if_neg (by omega)]
  rw [repF_congr he, pS_congr he]
  obtain ⟨b1, b2, b3, b4⟩ := hb
  have hT : tc (aTx a) (st_text d) (st_len d) := ⟨H.1.1.1, fun i hi => ⟨H.2.2.2.2.2.1 i hi, H.1.1.2 i hi⟩⟩
  have ht := tc_repF hT hp (show c < 65536 by omega) (decide_eq_true (Or.inl hc))
  refine okR_text H ⟨ht.1, fun i hi => (ht.2 i hi).2⟩ hN b1 (fun i hi => ?_) b3 b4
  rw [b2 i hi, hcod]
  exact (ht.2 i hi).1
theorem okL_new {L : List PatD} {q : PatD} (h : okL L) (hq : okQ q) : okL (L ++ [q]) := fun z k hk => by
  by_cases h1 : k < L.length
  · rw [List.getElem?_append_left h1] at hk
    exact h z k hk
  · rw [List.getElem?_append_right (by omega)] at hk
    have h2 : k - L.length < 1 := (List.getElem?_eq_some_iff.mp hk).1
    rw [show k - L.length = 0 by omega] at hk
    obtain rfl := Option.some.inj hk
    exact hq
