/-! class and reference hold the same -/
def relQ (q : PatD) (a : Nat → Nat) (j : Nat) : Prop := pd_cnt q = aPl a j ∧ bN (pd_bnd q) = aBd a j ∧ ∀ i, i < pd_cnt q → pd_plf q i = aTk a j i
def relA (L : List PatD) (d : StD) (a : Nat → Nat) : Prop := st_len d = aLen a ∧ st_pcnt d = aPc a ∧ st_most d = aMost a ∧ (∀ i, i < st_len d → aTx a i = cod (st_text d i)) ∧ ∀ j, j < st_pcnt d → ∃ (q : PatD) (k : Nat), L[k]? = some q ∧ st_pats d j = some (pd_a q) ∧ relQ q a j
def relS (S : XS) (M : MS) : Prop := relA (x_pool S) (x_now S) (m_all M) ∧ m_isTaken M = bN (x_hasSnap S) ∧ (x_hasSnap S = true → relA (x_pool S) (x_snap S) (m_snap M)) ∧ x_hcnt S = m_hlong M ∧ (∀ k, k < x_hcnt S → relA (x_pool S) (x_hs S (x_perm S k)) (fun i => m_hist M (496 * k + i))) ∧ x_plen S = m_padLong M ∧ ∀ i, i < x_plen S → x_typed S i = m_pad M i
/-- what lies behind the texts' ends are characters as well -/
def okW (S : XS) : Prop := (∀ i, st_text (x_snap S) i < 65536) ∧ ∀ k i, st_text (x_hs S k) i < 65536
def INV (S : XS) (M : MS) : Prop := okX S ∧ okM M ∧ okW S ∧ relS S M
/-- one state of the class and one of the reference, both well -/
def okR (L : List PatD) (d : StD) (a : Nat → Nat) : Prop := (okT (st_text d) (st_len d) ∧ st_len d ≤ 120 ∧ st_pcnt d ≤ 6 ∧ st_most d ≤ 4 ∧ (∀ i, i < 6 → ∀ b, st_pats d i = some b → ∃ (j : Nat) (q : PatD), L[j]? = some q ∧ q.1 = b) ∧ ∀ j, j < st_pcnt d → ∃ (q : PatD) (k : Nat), L[k]? = some q ∧ st_pats d j = some (pd_a q)) ∧ okA a ∧ relA L d a
def okL (L : List PatD) : Prop := ∀ (q : PatD) (k : Nat), L[k]? = some q → okQ q
theorem okR_more {L L' : List PatD} (h : ∀ (k : Nat) (q : PatD), L[k]? = some q → L'[k]? = some q) {d : StD} {a : Nat → Nat} (H : okR L d a) : okR L' d a := by
  obtain ⟨⟨h1, h2, h3, h4, h5, h6⟩, hA, r1, r2, r3, r4, r5⟩ := H
  refine ⟨⟨h1, h2, h3, h4, fun i hi b hb => ?_, fun j hj => ?_⟩, hA, r1, r2, r3, r4, fun j hj => ?_⟩
  · obtain ⟨j, q, k1, k2⟩ := h5 i hi b hb
    exact ⟨j, q, h j q k1, k2⟩
  · obtain ⟨q, k, k1, k2⟩ := h6 j hj
    exact ⟨q, k, h k q k1, k2⟩
  · obtain ⟨q, k, k1, k2, k3⟩ := r5 j hj
    exact ⟨q, k, h k q k1, k2, k3⟩
theorem okR_congr {L : List PatD} (hL : okL L) {d : StD} {a b : Nat → Nat} (h : ∀ i, i < 496 → b i = a i) (H : okR L d a) : okR L d b := by
  obtain ⟨h0, hA, r1, r2, r3, r4, r5⟩ := H
  refine ⟨h0, okA_congr h hA, ?_, ?_, ?_, fun i hi => ?_, fun j hj => ?_⟩
  · show _ = b 0
    rw [h 0 (by decide)]; exact r1
  · show _ = b 1
    rw [h 1 (by decide)]; exact r2
  · show _ = b 2
    rw [h 2 (by decide)]; exact r3
  · have := h0.2.1
    show b (3 + i) = _
    rw [h _ (by omega)]; exact r4 i hi
  · obtain ⟨q, k, k1, k2, k3, k4, k5⟩ := r5 j hj
    have hq := hL q k k1
    have hj6 := h0.2.2.1
    have hq2 := hq.2.1
    refine ⟨q, k, k1, k2, ?_, ?_, fun i hi => ?_⟩
    · show _ = b (123 + 62 * j)
      rw [h _ (by omega)]; exact k3
    · show _ = b (124 + 62 * j)
      rw [h _ (by omega)]; exact k4
    · show _ = b (125 + 62 * j + i)
      rw [h _ (by omega)]; exact k5 i hi
theorem va_cpy_lt {f g : Nat → Nat} {i : Nat} (h : i < 120) : va_cpy f g 0 0 120 i = f i := va_cpy_0 h
theorem va_cpy_16 {f g : Nat → Nat} (hf : ∀ i, f i < 65536) (hg : ∀ i, g i < 65536) (i : Nat) : va_cpy f g 0 0 120 i < 65536 := by
  unfold va_cpy
  split
  · exact hf _
  · exact hg _
theorem okR_cp {L : List PatD} {d e : StD} {a : Nat → Nat} (he : ∀ i, st_text e i < 65536) (H : okR L d a) : okR L (cpSt e d) a := by
  obtain ⟨⟨h1, h2, h3, h4, h5, h6⟩, hA, r1, r2, r3, r4, r5⟩ := H
  have hp : ∀ i, i < 6 → cpF (st_pats d) (st_pats e) 6 i = st_pats d i := fun i hi => if_pos hi
  have ht : ∀ i, i < st_len d → va_cpy (st_text d) (st_text e) 0 0 120 i = st_text d i := fun i hi => va_cpy_lt (by omega)
  refine ⟨⟨⟨va_cpy_16 h1.1 he, fun i hi => ?_⟩, h2, h3, h4, fun i hi b hb => ?_, fun j hj => ?_⟩, hA, r1, r2, r3, fun i hi => ?_, fun j hj => ?_⟩
  · show isSgn (va_cpy (st_text d) (st_text e) 0 0 120 i) = true
    rw [ht i hi]; exact h1.2 i hi
  · have hb : cpF (st_pats d) (st_pats e) 6 i = some b := hb
    rw [hp i hi] at hb
    exact h5 i hi b hb
  · obtain ⟨q, k, k1, k2⟩ := h6 j hj
    have hj2 : j < st_pcnt d := hj
    exact ⟨q, k, k1, (hp j (by omega)).trans k2⟩
  · show _ = cod (va_cpy (st_text d) (st_text e) 0 0 120 i)
    rw [ht i hi]; exact r4 i hi
  · obtain ⟨q, k, k1, k2, k3⟩ := r5 j hj
    have hj2 : j < st_pcnt d := hj
    exact ⟨q, k, k1, (hp j (by omega)).trans k2, k3⟩
theorem INV_R {S : XS} {M : MS} (H : INV S M) : okL (x_pool S) ∧ okR (x_pool S) (x_now S) (m_all M) ∧ (x_hasSnap S = true → okR (x_pool S) (x_snap S) (m_snap M)) ∧ ∀ k, k < x_hcnt S → okR (x_pool S) (x_hs S (x_perm S k)) (fun i => m_hist M (496 * k + i)) := by
  obtain ⟨⟨a1, a2, a3, a4, a5, a6, a7, a8, a9, aA, aB⟩, ⟨b1, b2, b3, b4, b5, b6, b7⟩, -, r1, r2, r3, r4, r5, r6, r7⟩ := H
  refine ⟨aB, ⟨a1, b1, r1⟩, fun h => ⟨a2 h, b4 ?_, r3 h⟩, fun k hk => ⟨a3 k hk, b3 k (by omega), r5 k hk⟩⟩
  rw [r2, h]
  rfl
/-- from the parts -/
theorem INV_of {S : XS} {M : MS} (hL : okL (x_pool S)) (h1 : okR (x_pool S) (x_now S) (m_all M)) (h2 : x_hasSnap S = true → okR (x_pool S) (x_snap S) (m_snap M)) (h3 : ∀ k, k < x_hcnt S → okR (x_pool S) (x_hs S (x_perm S k)) (fun i => m_hist M (496 * k + i))) (hp1 : ∀ i, i < 4 → x_perm S i < 4) (hp2 : ∀ i j, i < 4 → j < 4 → x_perm S i = x_perm S j → i = j) (hc : x_hcnt S ≤ 4) (hcl : x_hcnt S = m_hlong M) (hs : m_isTaken M = bN (x_hasSnap S)) (hpl : x_plen S ≤ 60) (hpe : x_plen S = m_padLong M) (hty : ∀ i, x_typed S i < 65536) (hpd : ∀ i, m_pad M i < 65536) (htp : ∀ i, i < x_plen S → x_typed S i = m_pad M i) (hrs : x_rset S < 67108864) (hrl : x_rlast S < 65536) (hw : okW S) : INV S M :=
  ⟨⟨h1.1, fun h => (h2 h).1, fun k hk => (h3 k hk).1, hp1, hp2, hc, hpl, hty, hrs, hrl, hL⟩, ⟨h1.2.1, by omega, fun k hk => (h3 k (by omega)).2.1, fun h => by
      have hb : x_hasSnap S = true := by
        rw [hs] at h
        cases hh : x_hasSnap S with
        | true => rfl
        | false => rw [hh] at h; exact absurd h (by decide)
      exact (h2 hb).2.1, by rw [hs]; exact bN_le _, by omega, hpd⟩, hw, h1.2.2, hs, fun h => (h2 h).2.2, hcl, fun k hk => (h3 k hk).2.2, hpe, htp⟩
/-- the searches' rows and the reader's own change nothing that counts -/
theorem INV_X {S S' : XS} {M : MS} (H : INV S M) (h1 : x_now S' = x_now S) (h2 : x_snap S' = x_snap S) (h3 : x_hs S' = x_hs S) (h4 : x_hasSnap S' = x_hasSnap S) (h5 : x_perm S' = x_perm S) (h6 : x_hcnt S' = x_hcnt S) (h7 : x_typed S' = x_typed S) (h8 : x_plen S' = x_plen S) (h9 : x_rset S' < 67108864) (hA : x_rlast S' < 65536) (hB : x_pool S' = x_pool S) : INV S' M := by
  obtain ⟨g1, g2, g3, g4⟩ := INV_R H
  obtain ⟨⟨a1, a2, a3, a4, a5, a6, a7, a8, a9, aA, aB⟩, ⟨b1, b2, b3, b4, b5, b6, b7⟩, ⟨w1, w2⟩, r1, r2, r3, r4, r5, r6, r7⟩ := H
  refine INV_of (by rw [hB]; exact g1) (by rw [hB, h1]; exact g2) (fun h => by rw [hB, h2]; exact g3 (by rw [← h4]; exact h)) (fun k hk => by rw [hB, h3, h5]; exact g4 k (by rw [← h6]; exact hk)) (by rw [h5]; exact a4) (by rw [h5]; exact a5) (by rw [h6]; exact a6) (by rw [h6]; exact r4) (by rw [h4]; exact r2) (by rw [h8]; exact a7) (by rw [h8]; exact r6) (by rw [h7]; exact a8) b7 (fun i hi => by rw [h7]; exact r7 i (by rw [← h8]; exact hi)) h9 hA ⟨by rw [h2]; exact w1, by rw [h3]; exact w2⟩
theorem INV_scr {S S' : XS} {M : MS} (H : INV S M) (h : scrX S S') : INV S' M := by
  obtain ⟨h1, h2, h3, h4, h5, h6, h7, h8, h9, hA, hB⟩ := h
  exact INV_X H h1 h2 h3 h4 h5 h6 h7 h8 (by rw [h9]; exact H.1.2.2.2.2.2.2.2.2.1) (by rw [hA]; exact H.1.2.2.2.2.2.2.2.2.2.1) hB
theorem INV_rd {S : XS} {M : MS} {R : RD} {n : Nat} (H : INV S M) (h : okRD R n) : INV (setRD S R) M := INV_X H rfl rfl rfl rfl rfl rfl rfl rfl h.2.2.1 h.2.2.2.1 rfl
theorem INV_M {S : XS} {M M' : MS} (H : INV S M) (h : samM M M') : INV S M' := by
  obtain ⟨h1, h2, h3, h4, h5, h6, h7⟩ := h
  obtain ⟨a, ⟨b1, b2, b3, b4, b5, b6, b7⟩, w, r1, r2, r3, r4, r5, r6, r7⟩ := H
  exact ⟨a, ⟨by rw [h1]; exact b1, by rw [h3]; exact b2, by rw [h3, h2]; exact b3, by rw [h5, h4]; exact b4, by rw [h5]; exact b5, by rw [h7]; exact b6, by rw [h6]; exact b7⟩, w, by rw [h1]; exact r1, by rw [h5]; exact r2, by rw [h4]; exact r3, by rw [h3]; exact r4, by rw [h2]; exact r5, by rw [h7]; exact r6, by rw [h6]; exact r7⟩
/-- where the record of an act goes -/
theorem rec_facts {S : XS} (h4 : ∀ i, i < 4 → x_perm S i < 4) (h5 : ∀ i j, i < 4 → j < 4 → x_perm S i = x_perm S j → i = j) (h6 : x_hcnt S ≤ 4) : rcH S < 4 ∧ (∀ i, i < 4 → rcP S i < 4) ∧ (∀ i j, i < 4 → j < 4 → rcP S i = rcP S j → i = j) ∧ ∀ k, k < rcH S → rcP S k = x_perm S (k + if x_hcnt S = 4 then 1 else 0) ∧ k + (if x_hcnt S = 4 then 1 else 0) < x_hcnt S := by
  unfold rcH rcP
  by_cases h : x_hcnt S < 4
  · rw [if_pos h, if_pos h, if_neg (by omega)]
    exact ⟨h, h4, h5, fun k hk => ⟨rfl, hk⟩⟩
  · rw [if_neg h, if_neg h, if_pos (by omega)]
    have r0 : rotP (x_perm S) 0 = x_perm S 1 := rfl
    have r1 : rotP (x_perm S) 1 = x_perm S 2 := rfl
    have r2 : rotP (x_perm S) 2 = x_perm S 3 := rfl
    have r3 : rotP (x_perm S) 3 = x_perm S 0 := rfl
    have rr : ∀ i, i < 4 → ∃ z, z < 4 ∧ rotP (x_perm S) i = x_perm S z ∧ z = (i + 1) % 4 := by
      intro i hi
      rcases (show i = 0 ∨ i = 1 ∨ i = 2 ∨ i = 3 by omega) with rfl | rfl | rfl | rfl
      · exact ⟨1, by decide, r0, rfl⟩
      · exact ⟨2, by decide, r1, rfl⟩
      · exact ⟨3, by decide, r2, rfl⟩
      · exact ⟨0, by decide, r3, rfl⟩
    refine ⟨by decide, fun i hi => ?_, fun i j hi hj e => ?_, fun k hk => ⟨?_, by omega⟩⟩
    · obtain ⟨z, z1, z2, -⟩ := rr i hi
      rw [z2]; exact h4 z z1
    · obtain ⟨z, z1, z2, z3⟩ := rr i hi
      obtain ⟨y, y1, y2, y3⟩ := rr j hj
      rw [z2, y2] at e
      have := h5 z y z1 y1 e
      omega
    · obtain ⟨z, z1, z2, z3⟩ := rr k (by omega)
      rw [z2, show z = k + 1 by omega]
/-- an act: what was before is recorded, what is now is given -/
theorem INV_act {S : XS} {M M' : MS} {d : StD} {L : List PatD} (H : INV S M) (hA : actM M M') (hx : ∀ (k : Nat) (q : PatD), (x_pool S)[k]? = some q → L[k]? = some q) (hL : okL L) (hd : okR L d (m_all M')) : INV (u_pool (u_now (recF S) d) L) M' := by
  obtain ⟨g1, g2, g3, g4⟩ := INV_R H
  obtain ⟨⟨a1, a2, a3, a4, a5, a6, a7, a8, a9, aA, aB⟩, ⟨b1, b2, b3, b4, b5, b6, b7⟩, ⟨w1, w2⟩, r1, r2, r3, r4, r5, r6, r7⟩ := H
  obtain ⟨f1, f2, f3, f4⟩ := rec_facts a4 a5 a6
  obtain ⟨c1, c2, c3, c4, c5, c6, c7⟩ := hA
  have hH : mHl M = rcH S := by
    unfold mHl rcH
    by_cases h : x_hcnt S < 4
    · rw [if_pos h, if_neg (by omega)]; exact r4.symm
    · rw [if_neg h, if_pos (by omega)]
  have hD : mHd M = if x_hcnt S = 4 then 1 else 0 := by
    unfold mHd
    rw [r4]
  rw [hH] at c1 c2 c3
  rw [hD] at c2
  refine INV_of (S := u_pool (u_now (recF S) d) L) hL hd (fun h => ?_) (fun k hk => ?_) f2 f3 (by show rcH S + 1 ≤ 4; omega) (by show rcH S + 1 = _; omega) (by rw [c5]; exact r2) a7 (by rw [c7]; exact r6) a8 (by rw [c6]; exact b7) (by rw [c6]; exact r7) a9 aA ⟨w1, fun k i => ?_⟩
  · rw [c4]
    exact okR_more hx (g3 h)
  · have hk2 : k < rcH S + 1 := hk
    show okR L (va_up (x_hs S) (rcP S (rcH S)) (cpSt (x_hs S (rcP S (rcH S))) (x_now S)) (rcP S k)) (fun i => m_hist M' (496 * k + i))
    by_cases hkh : k = rcH S
    · subst hkh
      rw [va_up_self]
      exact okR_congr hL c3 (okR_cp (w2 _) (okR_more hx g2))
    · rw [va_up_ne _ _ (fun z => hkh (f3 k (rcH S) (by omega) f1 z)), (f4 k (by omega)).1]
      exact okR_congr hL (fun i hi => c2 k i (by omega) hi) (okR_more hx (g4 _ (f4 k (by omega)).2))
  · show st_text (va_up (x_hs S) (rcP S (rcH S)) (cpSt (x_hs S (rcP S (rcH S))) (x_now S)) k) i < 65536
    by_cases hk : k = rcP S (rcH S)
    · subst hk
      rw [va_up_self]
      exact va_cpy_16 a1.1.1 (w2 _) i
    · rw [va_up_ne _ _ hk]
      exact w2 k i
/-- the same, and no pattern is new -/
theorem INV_act0 {S : XS} {M M' : MS} {d : StD} (H : INV S M) (hA : actM M M') (hd : okR (x_pool S) d (m_all M')) : INV (u_now (recF S) d) M' := INV_act (L := x_pool S) H hA (fun _ _ h => h) (INV_R H).1 hd
