theorem st_removePattern {S : XS} {M : MS} (H : INV S M)  (p0 : Int32) {r r2 : Int32} {S2 : XS} {M2 : MS} (hx : (fun r S' => (noP S p0 ∧ r = -1 ∧ S' = S) ∨ ∃ j, p0 = nI j ∧ j < st_pcnt (x_now S) ∧ r = nI (st_pcnt (x_now S) - 1) ∧ S' = u_now (recF S) (st_text (x_now S), st_len (x_now S), va_up (remP (st_pats (x_now S)) j 5) 5 none, st_pcnt (x_now S) - 1, st_most (x_now S))) r S2) (hm : ((fun (S : MS) => (fun r S' => (isPm (m_all S) p0 = false ∧ r = -1 ∧ S' = S) ∨ ∃ j, p0 = nI j ∧ j < aPc (m_all S) ∧ r = nI (aPc (m_all S) - 1) ∧ remI (m_all S) (m_all S') j (62 * (aPc (m_all S) - 1)) ∧ actM S S')) M) r2 M2) : r = r2 ∧ INV S2 M2 := by
  have HR := INV_R H
  obtain ⟨r1, r2, r3, r4, r5⟩ := id H.2.2.2.1
  have hlen := H.1.1.2.1
  have hpc := H.1.1.2.2.1
  have hmo := H.1.1.2.2.2.1
  rcases hx with ⟨hN, x2, rfl⟩ | ⟨j, rfl, hj, x2, rfl⟩
  · have hpm := noP_m H hN
    rcases hm with ⟨m1, m2, rfl⟩ | ⟨j, rfl, hj, -⟩
    · exact ⟨x2.trans m2.symm, H⟩
    · exact absurd (hpm.symm.trans (isPm_n hj (by omega))) (by decide)
  · have hpm := isPm_n (a := m_all M) (j := j) (by omega) (by omega)
    rcases hm with ⟨m1, m2, rfl⟩ | ⟨j2, hj1, hj2, m2, m3, m4⟩
    · exact absurd (hpm.symm.trans m1) (by decide)
    · obtain rfl := nI_i (by omega) (by omega) hj1
      exact ⟨x2.trans (by rw [m2, r2]), INV_act0 H m4 (okR_rem HR.2.1 hj m3)⟩

theorem st_addPattern {S : XS} {M : MS} (H : INV S M) {r r2 : Int32} {S2 : XS} {M2 : MS} (hx : (fun r S' => ∃ R r0, okRD R (x_plen S) ∧ rdFault (x_typed S) (rd0 (getRD S)) (x_plen S) R (r0) ∧ ((r0 ≠ -1 ∧ r = (-100) - r0 ∧ S' = setRD S R) ∨ (r0 = -1 ∧ ¬ st_pcnt (x_now S) < 6 ∧ r = -3 ∧ S' = setRD S R) ∨ (r0 = -1 ∧ st_pcnt (x_now S) < 6 ∧ r = nI (st_pcnt (x_now S)) ∧ ∃ na npl npt f g, S' = u_pool (u_now (recF (setRD S R)) (st_text (x_now S), st_len (x_now S), va_up (st_pats (x_now S)) (st_pcnt (x_now S)) (some na), st_pcnt (x_now S) + 1, st_most (x_now S))) (x_pool S ++ [(na, npl, npt, f, rd_cnt R, rd_bound R, g)]) ∧ (∀ j, j < rd_cnt R → f j = rd_pl R j) ∧ ∀ z, z < 27 → ∀ j, j < 60 → lbit (g z) j = (decide (j < rd_cnt R) && (rd_pl R j).testBit z)))) r S2) (hm : ((fun (S : MS) (R0 : RD) => (fun r S' => (∃ sp, r = (-100) - nI sp ∧ sp ≤ m_padLong S ∧ rdBad (m_pad S) R0 (m_padLong S) sp ∧ samM S S') ∨ ∃ rp rt bd, rdOK (m_pad S) R0 (m_padLong S) (m_padLong S) rp rt bd ∧ ((aPc (m_all S) = 6 ∧ r = -3 ∧ samM S S') ∨ (aPc (m_all S) < 6 ∧ r = nI (aPc (m_all S)) ∧ newA (m_all S) (m_all S') rp rt bd ∧ actM S S')))) M (rd0 (getRD S))) r2 M2) : r = r2 ∧ INV S2 M2 := by
  have HR := INV_R H
  obtain ⟨r1, r2, r3, r4, r5⟩ := id H.2.2.2.1
  have hlen := H.1.1.2.1
  have hpc := H.1.1.2.2.1
  have hmo := H.1.1.2.2.2.1
  obtain ⟨s2, s3, s4, s5, s6, s7⟩ := H.2.2.2.2
  have hpl := H.1.2.2.2.2.2.2.1
  obtain ⟨R, r0, hRo, hRf, hx⟩ := hx
  have hRf2 := rdFault_congr s7 hRf
  rw [s6] at hRf2
  rcases hm with ⟨sp, m1, m2, m3, m4⟩ | ⟨rp, rt, bd, m1, hm⟩
  · have hr0 := fault_bad hRf2 m3
    have hne : r0 ≠ -1 := by
      rw [hr0]
      exact nI_ne_neg (by omega) (by decide)
    rcases hx with ⟨x1, x2, rfl⟩ | ⟨x1, -⟩ | ⟨x1, -⟩
    · exact ⟨x2.trans (by rw [m1, hr0]), INV_M (INV_rd H hRo) m4⟩
    · exact absurd x1 hne
    · exact absurd x1 hne
  · obtain ⟨f1, f2, f3, f4, f5⟩ := fault_ok hRf2 m1
    rcases hx with ⟨x1, -⟩ | ⟨x1, x2, x3, rfl⟩ | ⟨x1, x2, x3, na, npl, npt, f, g, rfl, hf, hg⟩
    · exact absurd f1 x1
    · rcases hm with ⟨m2, m3, m4⟩ | ⟨m2, -⟩
      · exact ⟨x3.trans m3.symm, INV_M (INV_rd H hRo) m4⟩
      · omega
    · rcases hm with ⟨m2, -⟩ | ⟨m2, m3, m4, m5⟩
      · omega
      · refine ⟨x3.trans (by rw [m3, r2]), ?_⟩
        have hc60 := hRo.2.1
        have hq : okQ (na, npl, npt, f, rd_cnt R, rd_bound R, g) := by
          refine ⟨by show 1 ≤ rd_cnt R; omega, by show rd_cnt R ≤ 60; omega, fun i hi => ?_, fun z hz i hi => ?_⟩
          · show f i < _
            rw [hf i hi]; exact hRo.2.2.2.2 i hi
          · show lbit (g z) i = (decide (i < rd_cnt R) && (f i).testBit z)
            rw [hg z hz i hi]
            by_cases h : i < rd_cnt R
            · rw [hf i h]
            · rw [decide_eq_false h, Bool.false_and, Bool.false_and]
        exact INV_act (S := setRD S R) (INV_rd H hRo) m5 (fun k z h => by
          exact (List.getElem?_append_left (List.getElem?_eq_some_iff.mp (show (x_pool S)[k]? = some z from h)).1).trans h) (okL_new HR.1 hq) (okR_new (d := x_now S) HR.2.1 x2 hq m4 f2.symm f5 (fun i hi => (hf i (by omega)).trans (f4 i hi).symm))

theorem st_replace {S : XS} {M : MS} (H : INV S M) (hd : noDup S)  (p0 : Int32) (c0 : Nat) (hc0 : c0 < 65536) {r r2 : Int32} {S2 : XS} {M2 : MS} (hx : (fun r S' => (noP S p0 ∧ r = -1 ∧ S' = S) ∨ ∃ q, hasP S p0 q ∧ ((isLet c0 = false ∧ r = -2 ∧ S' = S) ∨ (isLet c0 = true ∧ ∃ ef bf, LR ef (alX q S) (st_len (x_now S) + 1) ∧ (∀ e, e ≤ st_len (x_now S) → bf e = bX q S e) ∧ ((cS (alX q S) (st_len (x_now S) + 1) = 0 ∧ r = -5 ∧ scrX S S') ∨ (0 < cS (alX q S) (st_len (x_now S) + 1) ∧ 120 < st_len (x_now S) + cS (alX q S) (st_len (x_now S) + 1) - pS bf ef (cS (alX q S) (st_len (x_now S) + 1)) ∧ r = -3 ∧ scrX S S') ∨ (0 < cS (alX q S) (st_len (x_now S) + 1) ∧ st_len (x_now S) + cS (alX q S) (st_len (x_now S) + 1) - pS bf ef (cS (alX q S) (st_len (x_now S) + 1)) ≤ 120 ∧ r = nI (cS (alX q S) (st_len (x_now S) + 1)) ∧ scrX (u_now (recF S) (repF (st_text (x_now S)) c0 bf ef (st_len (x_now S)) (cS (alX q S) (st_len (x_now S) + 1)), st_len (x_now S) + cS (alX q S) (st_len (x_now S) + 1) - pS bf ef (cS (alX q S) (st_len (x_now S) + 1)), st_pats (x_now S), st_pcnt (x_now S), st_most (x_now S))) S'))))) r S2) (hm : ((fun (S : MS) => (fun r S' => (isPm (m_all S) p0 = false ∧ r = -1 ∧ S' = S) ∨ ∃ j, p0 = nI j ∧ j < aPc (m_all S) ∧ ((isLet c0 = false ∧ r = -2 ∧ S' = S) ∨ (isLet c0 = true ∧ ∃ ef, LR ef (selAM (m_all S) j true) (aLen (m_all S) + 1) ∧ ((cS (selAM (m_all S) j true) (aLen (m_all S) + 1) = 0 ∧ r = -5 ∧ samM S S') ∨ (0 < cS (selAM (m_all S) j true) (aLen (m_all S) + 1) ∧ 120 < aLen (m_all S) + cS (selAM (m_all S) j true) (aLen (m_all S) + 1) - pS (bM (m_all S) j) ef (cS (selAM (m_all S) j true) (aLen (m_all S) + 1)) ∧ r = -3 ∧ samM S S') ∨ (0 < cS (selAM (m_all S) j true) (aLen (m_all S) + 1) ∧ aLen (m_all S) + cS (selAM (m_all S) j true) (aLen (m_all S) + 1) - pS (bM (m_all S) j) ef (cS (selAM (m_all S) j true) (aLen (m_all S) + 1)) ≤ 120 ∧ r = nI (cS (selAM (m_all S) j true) (aLen (m_all S) + 1)) ∧ repA (m_all S) (m_all S') (c0 - 97) (bM (m_all S) j) ef (aLen (m_all S)) (cS (selAM (m_all S) j true) (aLen (m_all S) + 1)) ∧ actM S S')))))) M) r2 M2) : r = r2 ∧ INV S2 M2 := by
  have HR := INV_R H
  obtain ⟨r1, r2, r3, r4, r5⟩ := id H.2.2.2.1
  have hlen := H.1.1.2.1
  have hpc := H.1.1.2.2.1
  have hmo := H.1.1.2.2.2.1
  rcases hx with ⟨hN, x2, rfl⟩ | ⟨q, hP, hx⟩
  · have hpm := noP_m H hN
    rcases hm with ⟨m1, m2, rfl⟩ | ⟨j, rfl, hj, -⟩
    · exact ⟨x2.trans m2.symm, H⟩
    · exact absurd (hpm.symm.trans (isPm_n hj (by omega))) (by decide)
  · obtain ⟨j9, rfl, hj9, hj6, hrq, hoq⟩ := tieP H hd hP
    have sf := sameF_of H hrq hoq
    obtain ⟨-, -, sf3, sf4, sf5⟩ := id sf
    have hpm := isPm_n hj9 (by omega)
    rcases hm with ⟨m1, m2, rfl⟩ | ⟨j, hj1, hj2, hm⟩
    · exact absurd (hpm.symm.trans m1) (by decide)
    · obtain rfl := nI_i (by omega) (by omega) hj1
      rcases hx with ⟨x1, x2, rfl⟩ | ⟨x1, f, bf, xL, xb, hx⟩ <;> rcases hm with ⟨m1, m2, rfl⟩ | ⟨m1, g, mL, hm⟩
      · exact ⟨x2.trans m2.symm, H⟩
      · exact absurd (x1.symm.trans m1) (by decide)
      · exact absurd (m1.symm.trans x1) (by decide)
      · have hca : cS (alX q S) (st_len (x_now S) + 1) = cS (selAM (m_all M) j9 true) (aLen (m_all M) + 1) := by
          rw [r1]; exact sf_c sf true
        have hcl := cS_le (selAM (m_all M) j9 true) (aLen (m_all M) + 1)
        have hbm : ∀ e9, e9 < aLen (m_all M) + 1 → bM (m_all M) j9 e9 ≤ e9 := fun e9 h => bcol_le (by omega)
        have hpk : partsOK (bM (m_all M) j9) g (cS (selAM (m_all M) j9 true) (aLen (m_all M) + 1)) (aLen (m_all M)) := al_parts mL hbm
        have hee : ∀ r, r < cS (selAM (m_all M) j9 true) (aLen (m_all M) + 1) → f r = g r ∧ bf (f r) = bM (m_all M) j9 (g r) := fun r hr => by
          rw [r1] at xL
          obtain ⟨l1, l2⟩ := sf_L sf true xL mL hr
          exact ⟨l1, by rw [xb (f r) (by omega), (sf_d sf l2).2, l1]⟩
        have hps := pS_congr hee
        rw [hca, hps] at hx
        rw [r1] at hx
        rcases hx with ⟨x3, x4, x5⟩ | ⟨x3, x4, x5, x6⟩ | ⟨x3, x4, x5, x6⟩ <;> rcases hm with ⟨m3, m4, m5⟩ | ⟨m3, m4, m5, m6⟩ | ⟨m3, m4, m5, m6, m7⟩
        · exact ⟨x4.trans m4.symm, INV_M (INV_scr H x5) m5⟩
        · omega
        · omega
        · omega
        · exact ⟨x5.trans m5.symm, INV_M (INV_scr H x6) m6⟩
        · omega
        · omega
        · omega
        · refine ⟨x5.trans m5.symm, INV_scr (INV_act0 H m7 ?_) x6⟩
          have h9 := okR_rep (d := x_now S) HR.2.1 x1 (by rw [r1]; exact hpk) (by rw [r1]; exact x4) (by rw [r1]; exact m6) hee
          rw [r1, hps] at h9
          exact h9
