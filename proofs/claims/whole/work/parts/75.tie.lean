/-! what the class finds and what the reference finds -/
theorem kcol_congr {tk tk' : Nat → Nat → Bool} {mb mb' : Nat → Bool} {n L : Nat} (ht : ∀ i e, i < n → e < L → tk i e = tk' i e) (hm : ∀ e, e ≤ L → mb e = mb' e) : ∀ e, e ≤ L → ∀ i, i ≤ n → kcol tk mb e i = kcol tk' mb' e i
  | 0, _, i, _ => by rw [kcol_0, kcol_0]
  | e + 1, he, 0, _ => by rw [kcol_s0, kcol_s0, hm _ he, kcol_congr ht hm e (by omega) 0 (by omega)]
  | e + 1, he, i + 1, hi => by
    rw [kcol_ss, kcol_ss, kcol_congr ht hm e (by omega) i (by omega), kcol_congr ht hm e (by omega) (i + 1) hi, kcol_congr ht hm (e + 1) he i (by omega), ht i e (by omega) (by omega)]
theorem wcol_congr {tk tk' : Nat → Nat → Bool} {fr n L : Nat} (ht : ∀ i e, i < n → e < L → tk i e = tk' i e) : ∀ e, fr + e ≤ L → ∀ i, i ≤ n → wcol tk fr e i = wcol tk' fr e i
  | 0, _, i, _ => by rw [wcol_0, wcol_0]
  | e + 1, he, 0, _ => by rw [wcol_s0, wcol_s0, wcol_congr ht e (by omega) 0 (by omega)]
  | e + 1, he, i + 1, hi => by
    rw [wcol_ss, wcol_ss, wcol_congr ht e (by omega) i (by omega), wcol_congr ht e (by omega) (i + 1) hi, wcol_congr ht (e + 1) he i (by omega), ht i (fr + e) (by omega) (by omega)]
theorem alS_congr {s1 s2 : Nat → Bool} {b1 b2 : Nat → Nat} : ∀ {n : Nat}, (∀ e, e < n → s1 e = s2 e ∧ b1 e = b2 e) → alS s1 b1 n = alS s2 b2 n
  | 0, _ => rfl
  | n + 1, h => by
    have ih := alS_congr (n := n) (fun e he => h e (by omega))
    obtain ⟨h1, h2⟩ := h n (by omega)
    by_cases hc : s1 n = true ∧ (alS s1 b1 n).2 ≤ b1 n
    · rw [alS_t hc.1 hc.2, alS_t (by rw [← h1]; exact hc.1) (by rw [← h2, ← ih]; exact hc.2), ih]
    · rw [alS_f hc, alS_f (by rw [← h1, ← h2, ← ih]; exact hc), ih]
theorem alE_congr {s1 s2 : Nat → Bool} {b1 b2 : Nat → Nat} {n : Nat} (h : ∀ e, e < n → s1 e = s2 e ∧ b1 e = b2 e) {e : Nat} (he : e < n) : alE s1 b1 e = alE s2 b2 e := by
  unfold alE
  rw [alS_congr (n := e) (fun k hk => h k (by omega)), (h e he).1, (h e he).2]
theorem LR_congr {f : Nat → Nat} {s1 s2 : Nat → Bool} {n : Nat} (h : ∀ e, e < n → s1 e = s2 e) (H : LR f s1 n) : LR f s2 n := fun e he hs => by
  rw [← cS_congr (k := e) (fun k hk => h k (by omega))]
  exact H e he (by rw [h e he]; exact hs)
theorem minG_congr {g g' : Nat → Nat} : ∀ {n : Nat}, (∀ r, r < n → g r = g' r) → minG g n = minG g' n
  | 0, _ => rfl
  | n + 1, h => by
    show (if n = 0 then g 0 else if g n < minG g n then g n else minG g n) = (if n = 0 then g' 0 else if g' n < minG g' n then g' n else minG g' n)
    rw [minG_congr (n := n) (fun r hr => h r (by omega)), h n (by omega), h 0 (by omega)]
theorem argG_congr {g g' : Nat → Nat} : ∀ {n : Nat}, (∀ r, r < n → g r = g' r) → argG g n = argG g' n
  | 0, _ => rfl
  | n + 1, h => by
    show (if n = 0 then 0 else if g n < g (argG g n) then n else argG g n) = (if n = 0 then 0 else if g' n < g' (argG g' n) then n else argG g' n)
    have ih := argG_congr (n := n) (fun r hr => h r (by omega))
    by_cases h0 : n = 0
    · rw [if_pos h0, if_pos h0]
    · have hl := argG_lt g n (by omega)
      rw [if_neg h0, if_neg h0, h n (by omega), h _ (by omega), ih]
theorem cod_26 {c : Nat} (h : isSgn c = true) : cod c = 26 ↔ c = 32 := by
  have h1 := of_decide_eq_true h
  unfold cod
  constructor
  · intro z
    by_cases h2 : c = 32
    · exact h2
    · rw [if_neg h2] at z
      have h3 := isLet_ge (h1.resolve_right h2)
      omega
  · intro z
    rw [if_pos z]
theorem cod_27 {c : Nat} (h : isSgn c = true) : cod c < 27 := sgc_lt h
/-- a pattern that the class finds is the reference's -/
theorem tieP {S : XS} {M : MS} (H : INV S M) (hd : noDup S) {p0 : Int32} {q : PatD} (hP : hasP S p0 q) : ∃ j, p0 = nI j ∧ j < aPc (m_all M) ∧ j < 6 ∧ relQ q (m_all M) j ∧ okQ q := by
  obtain ⟨j, h1, h2, h3, k, h4⟩ := hP
  obtain ⟨r1, r2, r3, r4, r5⟩ := H.2.2.2.1
  obtain ⟨q', k', e1, e2, e3⟩ := r5 j h2
  have h6 := H.1.1.2.2.1
  have hq : q = q' := hd k k' q q' h4 e1 (Option.some.inj (h3.symm.trans e2))
  subst hq
  exact ⟨j, h1, by omega, by omega, e3, (INV_R H).1 q k h4⟩
theorem noP_m {S : XS} {M : MS} (H : INV S M) {p0 : Int32} (h : noP S p0) : isPm (m_all M) p0 = false := by
  have h6 := H.1.1.2.2.1
  obtain ⟨r1, r2, r3, r4, r5⟩ := H.2.2.2.1
  refine decide_eq_false (fun z => ?_)
  rcases h with h | h
  · rw [Int32.lt_iff_toInt_lt] at h
    have : (0 : Int32).toInt = 0 := by decide
    omega
  · rw [Int32.le_iff_toInt_le, nI_toInt (by omega)] at h
    omega
theorem hasP_m {S : XS} {M : MS} (H : INV S M) (hd : noDup S) {p0 : Int32} {q : PatD} (h : hasP S p0 q) : isPm (m_all M) p0 = true := by
  obtain ⟨j, rfl, h1, h2, -⟩ := tieP H hd h
  refine decide_eq_true ?_
  rw [nI_toInt (by omega)]
  omega
/-- all that the searches of one pattern find -/
def sameF (q : PatD) (S : XS) (a : Nat → Nat) (j : Nat) : Prop := (∀ i e, i < pd_cnt q → e < aLen a → tkX (pd_ptf q) (st_text (x_now S)) i e = aTt a j i e) ∧ (∀ e, e ≤ aLen a → mayB (pd_bnd q) (st_text (x_now S)) e = aMb a j e) ∧ pd_cnt q = aPl a j ∧ st_len (x_now S) = aLen a ∧ st_most (x_now S) = aMost a
theorem sameF_of {S : XS} {M : MS} (H : INV S M) {q : PatD} {j : Nat} (hr : relQ q (m_all M) j) (hq : okQ q) : sameF q S (m_all M) j := by
  obtain ⟨r1, r2, r3, r4, r5⟩ := H.2.2.2.1
  have hT := H.1.1.1
  have hl := H.1.1.2.1
  refine ⟨fun i e hi he => ?_, fun e he => ?_, hr.1, r1, r3⟩
  · have hs := hT.2 e (by omega)
    show lbit (pd_ptf q (cod (st_text (x_now S) e))) i = (aTk (m_all M) j i).testBit (aTx (m_all M) e)
    rw [hq.2.2.2 _ (cod_27 hs) i (by have := hq.2.1; omega), decide_eq_true hi, Bool.true_and, r4 e (by omega), hr.2.2 i hi]
  · have h2 := hr.2.1
    refine decide_eq_decide.mpr ?_
    by_cases h0 : e = 0
    · exact ⟨fun _ => Or.inr (Or.inl h0), fun _ => Or.inr (Or.inl h0)⟩
    · have hs := hT.2 (e - 1) (by omega)
      rw [r4 (e - 1) (by omega), cod_26 hs, ← h2]
      cases pd_bnd q with
      | true => exact ⟨fun z => z.elim (fun y => absurd y (by decide)) Or.inr, fun z => z.elim (fun y => absurd y (by decide)) Or.inr⟩
      | false => exact ⟨fun _ => Or.inl rfl, fun _ => Or.inl rfl⟩
theorem sf_k {q : PatD} {S : XS} {a : Nat → Nat} {j : Nat} (h : sameF q S a j) {e i : Nat} (he : e ≤ aLen a) (hi : i ≤ pd_cnt q) : kcol (tkX (pd_ptf q) (st_text (x_now S))) (mayB (pd_bnd q) (st_text (x_now S))) e i = kcol (aTt a j) (aMb a j) e i := kcol_congr h.1 h.2.1 e he i hi
theorem sf_d {q : PatD} {S : XS} {a : Nat → Nat} {j : Nat} (h : sameF q S a j) {e : Nat} (he : e ≤ aLen a) : dX q S e = dM a j e ∧ bX q S e = bM a j e := by
  have hk := sf_k h he (Nat.le_refl _)
  unfold dX dM bX bM dcol bcol
  rw [hk, h.2.2.1]
  exact ⟨rfl, rfl⟩
theorem sf_s {q : PatD} {S : XS} {a : Nat → Nat} {j : Nat} (h : sameF q S a j) {e : Nat} (he : e < aLen a + 1) : selX q S e = selM a j e := by
  show decide (dX q S e ≤ st_most (x_now S)) = decide (dM a j e ≤ aMost a)
  rw [(sf_d h (by omega)).1, h.2.2.2.2]
theorem sf_a {q : PatD} {S : XS} {a : Nat → Nat} {j : Nat} (h : sameF q S a j) (al : Bool) {e : Nat} (he : e < aLen a + 1) : selA q S al e = selAM a j al e := by
  cases al with
  | true => exact alE_congr (n := aLen a + 1) (fun k hk => ⟨sf_s h hk, (sf_d h (by omega)).2⟩) he
  | false => exact sf_s h he
theorem sf_c {q : PatD} {S : XS} {a : Nat → Nat} {j : Nat} (h : sameF q S a j) (al : Bool) : cS (selA q S al) (aLen a + 1) = cS (selAM a j al) (aLen a + 1) := cS_congr (fun e he => sf_a h al he)
theorem sf_L {q : PatD} {S : XS} {a : Nat → Nat} {j : Nat} (h : sameF q S a j) (al : Bool) {f f' : Nat → Nat} (h1 : LR f (selA q S al) (aLen a + 1)) (h2 : LR f' (selAM a j al) (aLen a + 1)) {r : Nat} (hr : r < cS (selAM a j al) (aLen a + 1)) : f r = f' r ∧ f r ≤ aLen a := by
  have h3 := LR_congr (fun e he => sf_a h al he) h1
  have h4 := LR_at h3 hr
  exact ⟨LR_eq h3 h2 hr, by omega⟩
theorem sf_g {q : PatD} {S : XS} {a : Nat → Nat} {j : Nat} (h : sameF q S a j) (al : Bool) {f f' : Nat → Nat} (h1 : LR f (selA q S al) (aLen a + 1)) (h2 : LR f' (selAM a j al) (aLen a + 1)) {r : Nat} (hr : r < cS (selAM a j al) (aLen a + 1)) : gX q S f r = gM a j f' r := by
  obtain ⟨h3, h4⟩ := sf_L h al h1 h2 hr
  show min (dX q S (f r)) 4 = min (dM a j (f' r)) 4
  rw [← h3, (sf_d h h4).1]
