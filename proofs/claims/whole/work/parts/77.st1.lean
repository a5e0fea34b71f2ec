theorem st_write {S : XS} {M : MS} (H : INV S M)  (c0 : Nat) (hc0 : c0 < 65536) {r r2 : Int32} {S2 : XS} {M2 : MS} (hx : (fun r S' => (isSgn c0 = false ∧ r = -2 ∧ S' = S) ∨ (isSgn c0 = true ∧ ¬ st_len (x_now S) < 120 ∧ r = -3 ∧ S' = S) ∨ (isSgn c0 = true ∧ st_len (x_now S) < 120 ∧ r = nI (st_len (x_now S) + 1) ∧ S' = u_now (recF S) (va_up (st_text (x_now S)) (st_len (x_now S)) c0, st_len (x_now S) + 1, st_pats (x_now S), st_pcnt (x_now S), st_most (x_now S)))) r S2) (hm : ((fun (S : MS) => (fun r S' => (isSgn c0 = false ∧ r = -2 ∧ S' = S) ∨ (isSgn c0 = true ∧ cod c0 < 27 ∧ ((¬ aLen (m_all S) < 120 ∧ r = -3 ∧ S' = S) ∨ (aLen (m_all S) < 120 ∧ r = nI (aLen (m_all S) + 1) ∧ m_all S' = wA (m_all S) (cod c0) ∧ actM S S'))))) M) r2 M2) : r = r2 ∧ INV S2 M2 := by
  have HR := INV_R H
  obtain ⟨r1, r2, r3, r4, r5⟩ := id H.2.2.2.1
  have hlen := H.1.1.2.1
  have hpc := H.1.1.2.2.1
  have hmo := H.1.1.2.2.2.1
  rcases hx with ⟨x1, x2, rfl⟩ | ⟨x1, x2, x3, rfl⟩ | ⟨x1, x2, x3, rfl⟩ <;> rcases hm with ⟨m1, m2, rfl⟩ | ⟨m1, m2, ⟨m3, m4, rfl⟩ | ⟨m3, m4, m5, m6⟩⟩
  · exact ⟨x2.trans m2.symm, H⟩
  · rw [x1] at m1; exact absurd m1 (by decide)
  · rw [x1] at m1; exact absurd m1 (by decide)
  · rw [x1] at m1; exact absurd m1 (by decide)
  · exact ⟨x3.trans m4.symm, H⟩
  · omega
  · rw [x1] at m1; exact absurd m1 (by decide)
  · omega
  · refine ⟨x3.trans (by rw [m4, r1]), INV_act0 H m6 ?_⟩
    rw [m5]
    exact okR_put HR.2.1 x2 hc0 x1

theorem st_writePad {S : XS} {M : MS} (H : INV S M)  {r r2 : Int32} {S2 : XS} {M2 : MS} (hx : (fun r S' => (¬ (canW (x_typed S) (x_plen S) = true ∧ 0 < x_plen S) ∧ r = -2 ∧ S' = S) ∨ ((canW (x_typed S) (x_plen S) = true ∧ 0 < x_plen S) ∧ ¬ st_len (x_now S) + x_plen S ≤ 120 ∧ r = -3 ∧ S' = S) ∨ ((canW (x_typed S) (x_plen S) = true ∧ 0 < x_plen S) ∧ st_len (x_now S) + x_plen S ≤ 120 ∧ r = nI (st_len (x_now S) + x_plen S) ∧ S' = u_now (recF S) (wrT (st_text (x_now S)) (x_typed S) (st_len (x_now S)) (x_plen S), st_len (x_now S) + x_plen S, st_pats (x_now S), st_pcnt (x_now S), st_most (x_now S)))) r S2) (hm : ((fun (S : MS) => (fun r S' => ((canW (m_pad S) (m_padLong S) && decide (0 < m_padLong S)) = false ∧ r = -2 ∧ S' = S) ∨ ((canW (m_pad S) (m_padLong S) && decide (0 < m_padLong S)) = true ∧ ((120 < aLen (m_all S) + m_padLong S ∧ r = -3 ∧ S' = S) ∨ (aLen (m_all S) + m_padLong S ≤ 120 ∧ r = nI (aLen (m_all S) + m_padLong S) ∧ m_all S' = wrA (m_all S) (m_pad S) (m_padLong S) ∧ actM S S'))))) M) r2 M2) : r = r2 ∧ INV S2 M2 := by
  have HR := INV_R H
  obtain ⟨r1, r2, r3, r4, r5⟩ := id H.2.2.2.1
  have hlen := H.1.1.2.1
  have hpc := H.1.1.2.2.1
  have hmo := H.1.1.2.2.2.1
  obtain ⟨s2, s3, s4, s5, s6, s7⟩ := H.2.2.2.2
  have hc : canW (x_typed S) (x_plen S) = canW (m_pad M) (m_padLong M) := by
    rw [← s6]
    exact canW_congr s7
  have hb : (canW (m_pad M) (m_padLong M) && decide (0 < m_padLong M)) = true ↔ (canW (x_typed S) (x_plen S) = true ∧ 0 < x_plen S) := by
    rw [Bool.and_eq_true, decide_eq_true_eq, hc, s6]
  rcases hx with ⟨x1, x2, rfl⟩ | ⟨x1, x2, x3, rfl⟩ | ⟨x1, x2, x3, rfl⟩ <;> rcases hm with ⟨m1, m2, rfl⟩ | ⟨m1, ⟨m3, m4, rfl⟩ | ⟨m3, m4, m5, m6⟩⟩
  · exact ⟨x2.trans m2.symm, H⟩
  · exact absurd (hb.mp m1) x1
  · exact absurd (hb.mp m1) x1
  · exact absurd ((hb.mpr x1).symm.trans m1) (by decide)
  · exact ⟨x3.trans m4.symm, H⟩
  · omega
  · exact absurd ((hb.mpr x1).symm.trans m1) (by decide)
  · omega
  · refine ⟨x3.trans (by rw [m4, r1, s6]), INV_act0 H m6 ?_⟩
    rw [m5, ← s6]
    exact okR_pad HR.2.1 H.1.2.2.2.2.2.2.2.1 s7 x1.1 x2

theorem st_cut {S : XS} {M : MS} (H : INV S M)  (k0 : Int32) {r r2 : Int32} {S2 : XS} {M2 : MS} (hx : (fun r S' => ((k0 < 1 ∨ nI 120 < k0) ∧ r = -2 ∧ S' = S) ∨ ∃ k, k0 = nI k ∧ 1 ≤ k ∧ k ≤ 120 ∧ ((st_len (x_now S) < k ∧ r = -4 ∧ S' = S) ∨ (k ≤ st_len (x_now S) ∧ r = nI (st_len (x_now S) - k) ∧ S' = u_now (recF S) (st_text (x_now S), st_len (x_now S) - k, st_pats (x_now S), st_pcnt (x_now S), st_most (x_now S))))) r S2) (hm : ((fun (S : MS) => (fun r S' => ((k0.toInt < 1 ∨ 120 < k0.toInt) ∧ r = -2 ∧ S' = S) ∨ ∃ k, k0 = nI k ∧ 1 ≤ k ∧ k ≤ 120 ∧ ((aLen (m_all S) < k ∧ r = -4 ∧ S' = S) ∨ (k ≤ aLen (m_all S) ∧ r = nI (aLen (m_all S) - k) ∧ m_all S' = va_up (m_all S) 0 (aLen (m_all S) - k) ∧ actM S S')))) M) r2 M2) : r = r2 ∧ INV S2 M2 := by
  have HR := INV_R H
  obtain ⟨r1, r2, r3, r4, r5⟩ := id H.2.2.2.1
  have hlen := H.1.1.2.1
  have hpc := H.1.1.2.2.1
  have hmo := H.1.1.2.2.2.1
  rcases hx with ⟨x1, x2, rfl⟩ | ⟨k, rfl, x1, x2, x3⟩ <;> rcases hm with ⟨m1, m2, rfl⟩ | ⟨k2, m0, m1, m2, m3⟩
  · exact ⟨x2.trans m2.symm, H⟩
  · subst m0
    rw [toI_0.2, (toI_lt (by decide)).2.1, nI_toInt (by omega)] at x1
    omega
  · rw [nI_toInt (by omega)] at m1
    omega
  · obtain rfl := nI_i (by omega) (by omega) m0
    rcases x3 with ⟨x3, x4, rfl⟩ | ⟨x3, x4, rfl⟩ <;> rcases m3 with ⟨m3, m4, rfl⟩ | ⟨m3, m4, m5, m6⟩
    · exact ⟨x4.trans m4.symm, H⟩
    · omega
    · omega
    · refine ⟨x4.trans (by rw [m4, r1]), INV_act0 H m6 ?_⟩
      rw [m5]
      have g1 := HR.2.1.1.1
      refine okR_text HR.2.1 ⟨g1.1, fun i hi => g1.2 i (by omega)⟩ (by omega) ((va_up_self _ _ _).trans (by omega)) (fun i hi => ?_) (fun i hi => ?_) (fun j hj => va_up_ne _ _ (by omega))
      · show va_up (m_all M) 0 _ (3 + i) = _
        rw [va_up_ne _ _ (by omega)]; exact r4 i (by omega)
      · show va_up (m_all M) 0 _ (3 + i) < 27
        rw [va_up_ne _ _ (by omega)]; exact HR.2.1.2.1.2.2.2.1 i hi

theorem st_setSlips {S : XS} {M : MS} (H : INV S M)  (k0 : Int32) {r r2 : Int32} {S2 : XS} {M2 : MS} (hx : (fun r S' => ((k0 < 0 ∨ nI 4 < k0) ∧ r = -2 ∧ S' = S) ∨ ∃ k, k0 = nI k ∧ k ≤ 4 ∧ ((k = st_most (x_now S) ∧ r = -5 ∧ S' = S) ∨ (k ≠ st_most (x_now S) ∧ r = nI (st_most (x_now S)) ∧ S' = u_now (recF S) (st_text (x_now S), st_len (x_now S), st_pats (x_now S), st_pcnt (x_now S), k)))) r S2) (hm : ((fun (S : MS) => (fun r S' => ((k0.toInt < 0 ∨ 4 < k0.toInt) ∧ r = -2 ∧ S' = S) ∨ ∃ k, k0 = nI k ∧ k ≤ 4 ∧ ((aMost (m_all S) = k ∧ r = -5 ∧ S' = S) ∨ (aMost (m_all S) ≠ k ∧ r = nI (aMost (m_all S)) ∧ m_all S' = va_up (m_all S) 2 k ∧ actM S S')))) M) r2 M2) : r = r2 ∧ INV S2 M2 := by
  have HR := INV_R H
  obtain ⟨r1, r2, r3, r4, r5⟩ := id H.2.2.2.1
  have hlen := H.1.1.2.1
  have hpc := H.1.1.2.2.1
  have hmo := H.1.1.2.2.2.1
  rcases hx with ⟨x1, x2, rfl⟩ | ⟨k, rfl, x1, x2⟩ <;> rcases hm with ⟨m1, m2, rfl⟩ | ⟨k2, m0, m1, m2⟩
  · exact ⟨x2.trans m2.symm, H⟩
  · subst m0
    rw [toI_0.1, (toI_lt (by decide)).2.1, nI_toInt (by omega)] at x1
    omega
  · rw [nI_toInt (by omega)] at m1
    omega
  · obtain rfl := nI_i (by omega) (by omega) m0
    rcases x2 with ⟨x3, x4, rfl⟩ | ⟨x3, x4, rfl⟩ <;> rcases m2 with ⟨m3, m4, rfl⟩ | ⟨m3, m4, m5, m6⟩
    · exact ⟨x4.trans m4.symm, H⟩
    · omega
    · omega
    · refine ⟨x4.trans (by rw [m4, r3]), INV_act0 H m6 ?_⟩
      rw [m5]
      exact okR_most HR.2.1 x1

theorem st_type {S : XS} {M : MS} (H : INV S M)  (c0 : Nat) (hc0 : c0 < 65536) {r r2 : Int32} {S2 : XS} {M2 : MS} (hx : (fun r S' => (¬ x_plen S < 60 ∧ r = -3 ∧ S' = S) ∨ (x_plen S < 60 ∧ r = nI (x_plen S + 1) ∧ S' = u_plen (u_typed S (va_up (x_typed S) (x_plen S) c0)) (x_plen S + 1))) r S2) (hm : ((fun (S : MS) => (fun r S' => (¬ m_padLong S < 60 ∧ r = -3 ∧ S' = S) ∨ (m_padLong S < 60 ∧ r = nI (m_padLong S + 1) ∧ S' = w_padLong (w_pad S (va_up (m_pad S) (m_padLong S) c0)) (m_padLong S + 1)))) M) r2 M2) : r = r2 ∧ INV S2 M2 := by
  obtain ⟨s2, s3, s4, s5, s6, s7⟩ := H.2.2.2.2
  rcases hx with ⟨x1, x2, rfl⟩ | ⟨x1, x2, rfl⟩ <;> rcases hm with ⟨m1, m2, rfl⟩ | ⟨m1, m2, rfl⟩
  · exact ⟨x2.trans m2.symm, H⟩
  · omega
  · omega
  · obtain ⟨⟨a1, a2, a3, a4, a5, a6, a7, a8, a9, aA, aB⟩, ⟨b1, b2, b3, b4, b5, b6, b7⟩, w, t1, t2, t3, t4, t5, t6, t7⟩ := H
    have hv : ∀ (f : Nat → Nat) (n i : Nat), (∀ i, f i < 65536) → va_up f n c0 i < 65536 := fun f n i h => by
      by_cases hi : i = n
      · rw [hi, va_up_self]; exact hc0
      · rw [va_up_ne _ _ hi]; exact h i
    refine ⟨x2.trans (by rw [m2, s6]), ⟨a1, a2, a3, a4, a5, a6, by show x_plen S + 1 ≤ 60; omega, fun i => hv _ _ i a8, a9, aA, aB⟩, ⟨b1, b2, b3, b4, b5, by show m_padLong M + 1 ≤ 60; omega, fun i => hv _ _ i b7⟩, w, t1, t2, t3, t4, t5, by show x_plen S + 1 = m_padLong M + 1; omega, fun i hi => ?_⟩
    have hi : i < x_plen S + 1 := hi
    show va_up (x_typed S) (x_plen S) c0 i = va_up (m_pad M) (m_padLong M) c0 i
    rw [← s6]
    by_cases h : i = x_plen S
    · rw [h, va_up_self, va_up_self]
    · rw [va_up_ne _ _ h, va_up_ne _ _ h]; exact s7 i (by omega)

theorem st_clearPad {S : XS} {M : MS} (H : INV S M)  {r r2 : Int32} {S2 : XS} {M2 : MS} (hx : (fun r S' => r = nI (x_plen S) ∧ S' = u_plen S 0) r S2) (hm : ((fun (S : MS) => (fun r S' => r = nI (m_padLong S) ∧ S' = w_padLong S 0)) M) r2 M2) : r = r2 ∧ INV S2 M2 := by
  obtain ⟨x1, rfl⟩ := hx
  obtain ⟨m1, rfl⟩ := hm
  obtain ⟨⟨a1, a2, a3, a4, a5, a6, a7, a8, a9, aA, aB⟩, ⟨b1, b2, b3, b4, b5, b6, b7⟩, w, t1, t2, t3, t4, t5, t6, t7⟩ := H
  exact ⟨x1.trans (by rw [m1, t6]), ⟨a1, a2, a3, a4, a5, a6, Nat.zero_le _, a8, a9, aA, aB⟩, ⟨b1, b2, b3, b4, b5, Nat.zero_le _, b7⟩, w, t1, t2, t3, t4, t5, rfl, fun i hi => absurd hi (Nat.not_lt_zero _)⟩

theorem st_keep {S : XS} {M : MS} (H : INV S M)  {r r2 : Int32} {S2 : XS} {M2 : MS} (hx : (fun r S' => r = nI (st_len (x_now S)) ∧ S' = u_hasSnap (u_snap S (cpSt (x_snap S) (x_now S))) true) r S2) (hm : ((fun (S : MS) => (fun r S' => r = nI (aLen (m_all S)) ∧ ∃ f, S' = w_isTaken (w_snap S f) 1 ∧ ∀ i, i < 496 → f i = m_all S i)) M) r2 M2) : r = r2 ∧ INV S2 M2 := by
  have HR := INV_R H
  obtain ⟨r1, r2, r3, r4, r5⟩ := id H.2.2.2.1
  have hlen := H.1.1.2.1
  have hpc := H.1.1.2.2.1
  have hmo := H.1.1.2.2.2.1
  obtain ⟨x1, rfl⟩ := hx
  obtain ⟨m1, f, rfl, m2⟩ := hm
  obtain ⟨⟨a1, a2, a3, a4, a5, a6, a7, a8, a9, aA, aB⟩, ⟨b1, b2, b3, b4, b5, b6, b7⟩, ⟨w1, w2⟩, t1, t2, t3, t4, t5, t6, t7⟩ := H
  refine ⟨x1.trans (by rw [m1, r1]), INV_of (S := u_hasSnap (u_snap S (cpSt (x_snap S) (x_now S))) true) (M := w_isTaken (w_snap M f) 1) HR.1 HR.2.1 (fun _ => okR_congr HR.1 m2 (okR_cp w1 HR.2.1)) HR.2.2.2 a4 a5 a6 t4 rfl a7 t6 a8 b7 t7 a9 aA ⟨fun i => va_cpy_16 a1.1.1 w1 i, w2⟩⟩

theorem st_restore {S : XS} {M : MS} (H : INV S M)  {r r2 : Int32} {S2 : XS} {M2 : MS} (hx : (fun r S' => (x_hasSnap S = false ∧ r = -5 ∧ S' = S) ∨ (x_hasSnap S = true ∧ r = nI (st_len (x_snap S)) ∧ S' = u_now (recF S) (cpSt (x_now S) (x_snap S)))) r S2) (hm : ((fun (S : MS) => (fun r S' => (m_isTaken S = 0 ∧ r = -5 ∧ S' = S) ∨ (m_isTaken S ≠ 0 ∧ r = nI (aLen (m_snap S)) ∧ (∀ i, i < 496 → m_all S' i = m_snap S i) ∧ actM S S'))) M) r2 M2) : r = r2 ∧ INV S2 M2 := by
  have HR := INV_R H
  obtain ⟨r1, r2, r3, r4, r5⟩ := id H.2.2.2.1
  have hlen := H.1.1.2.1
  have hpc := H.1.1.2.2.1
  have hmo := H.1.1.2.2.2.1
  have ht := H.2.2.2.2.1
  rcases hx with ⟨x1, x2, rfl⟩ | ⟨x1, x2, rfl⟩ <;> rcases hm with ⟨m1, m2, rfl⟩ | ⟨m1, m2, m3, m4⟩
  · exact ⟨x2.trans m2.symm, H⟩
  · rw [x1] at ht; exact absurd ht m1
  · rw [x1, m1] at ht; exact absurd ht (by decide)
  · have hs := HR.2.2.1 x1
    refine ⟨x2.trans (by rw [m2, hs.2.2.1]), INV_act0 H m4 ?_⟩
    exact okR_congr HR.1 m3 (okR_cp H.1.1.1.1 hs)

theorem st_undo {S : XS} {M : MS} (H : INV S M)  {r r2 : Int32} {S2 : XS} {M2 : MS} (hx : (fun r S' => (x_hcnt S = 0 ∧ r = -5 ∧ S' = S) ∨ (0 < x_hcnt S ∧ r = nI (x_hcnt S - 1) ∧ S' = u_hcnt (u_now S (cpSt (x_now S) (x_hs S (x_perm S (x_hcnt S - 1))))) (x_hcnt S - 1))) r S2) (hm : ((fun (S : MS) => (fun r S' => (m_hlong S = 0 ∧ r = -5 ∧ S' = S) ∨ (0 < m_hlong S ∧ r = nI (m_hlong S - 1) ∧ ∃ f, S' = w_all (w_hlong S (m_hlong S - 1)) f ∧ ∀ i, i < 496 → f i = m_hist S (496 * (m_hlong S - 1) + i)))) M) r2 M2) : r = r2 ∧ INV S2 M2 := by
  have HR := INV_R H
  obtain ⟨r1, r2, r3, r4, r5⟩ := id H.2.2.2.1
  have hlen := H.1.1.2.1
  have hpc := H.1.1.2.2.1
  have hmo := H.1.1.2.2.2.1
  obtain ⟨s2, s3, s4, s5, s6, s7⟩ := H.2.2.2.2
  rcases hx with ⟨x1, x2, rfl⟩ | ⟨x1, x2, rfl⟩ <;> rcases hm with ⟨m1, m2, rfl⟩ | ⟨m1, m2, f, rfl, m3⟩
  · exact ⟨x2.trans m2.symm, H⟩
  · omega
  · omega
  · obtain ⟨⟨a1, a2, a3, a4, a5, a6, a7, a8, a9, aA, aB⟩, ⟨b1, b2, b3, b4, b5, b6, b7⟩, ⟨w1, w2⟩, t1, t2, t3, t4, t5, t6, t7⟩ := H
    refine ⟨x2.trans (by rw [m2, s4]), INV_of (S := u_hcnt (u_now S (cpSt (x_now S) (x_hs S (x_perm S (x_hcnt S - 1))))) (x_hcnt S - 1)) (M := w_all (w_hlong M (m_hlong M - 1)) f) HR.1 ?_ HR.2.2.1 (fun k hk => HR.2.2.2 k ?_) a4 a5 ?_ ?_ t2 a7 t6 a8 b7 t7 a9 aA ⟨w1, w2⟩⟩
    · refine okR_congr HR.1 (fun i hi => ?_) (okR_cp a1.1.1 (HR.2.2.2 (x_hcnt S - 1) (by omega)))
      show f i = m_hist M (496 * (x_hcnt S - 1) + i)
      rw [s4]; exact m3 i hi
    · have hk : k < x_hcnt S - 1 := hk
      omega
    · show x_hcnt S - 1 ≤ 4
      omega
    · show x_hcnt S - 1 = m_hlong M - 1
      omega
