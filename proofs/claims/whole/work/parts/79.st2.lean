theorem st_at {S : XS} {M : MS} (H : INV S M)  (i0 : Int32) {r r2 : Int32} {S2 : XS} {M2 : MS} (hx : (fun r S' => S' = S ∧ (((i0 < 0 ∨ nI (st_len (x_now S)) ≤ i0) ∧ r = -1) ∨ ∃ i, i0 = nI i ∧ i < st_len (x_now S) ∧ r = nI (st_text (x_now S) i))) r S2) (hm : ((fun (S : MS) => (fun r S' => S' = S ∧ (((i0.toInt < 0 ∨ aLen (m_all S) ≤ i0.toInt) ∧ r = -1) ∨ ∃ k, i0 = nI k ∧ k < aLen (m_all S) ∧ r = nI (decod (aTx (m_all S) k))))) M) r2 M2) : r = r2 ∧ INV S2 M2 := by
  have HR := INV_R H
  obtain ⟨r1, r2, r3, r4, r5⟩ := id H.2.2.2.1
  have hlen := H.1.1.2.1
  have hpc := H.1.1.2.2.1
  have hmo := H.1.1.2.2.2.1
  obtain ⟨rfl, hx⟩ := hx
  obtain ⟨rfl, hm⟩ := hm
  refine ⟨?_, H⟩
  have hT := H.1.1.1
  rcases hx with ⟨x1, x2⟩ | ⟨k, rfl, x1, x2⟩ <;> rcases hm with ⟨m1, m2⟩ | ⟨k2, m0, m1, m2⟩
  · exact x2.trans m2.symm
  · subst m0
    rw [toI_0.1, (toI_lt (by omega)).2.2, nI_toInt (by omega)] at x1
    omega
  · rw [nI_toInt (by omega)] at m1
    omega
  · obtain rfl := nI_i (by omega) (by omega) m0
    rw [x2, m2, r4 k x1, decod_cod (hT.2 k x1)]

theorem st_takes {S : XS} {M : MS} (H : INV S M) (hd : noDup S)  (p0 : Int32) (i0 : Int32) {r r2 : Int32} {S2 : XS} {M2 : MS} (hx : (fun r S' => S' = S ∧ (((noP S p0 ∨ ∃ q, hasP S p0 q ∧ (i0 < 0 ∨ nI (pd_cnt q) ≤ i0)) ∧ r = -1) ∨ ∃ q i, hasP S p0 q ∧ i0 = nI i ∧ i < pd_cnt q ∧ r = nI (pd_plf q i))) r S2) (hm : ((fun (S : MS) => (fun r S' => S' = S ∧ (((isPm (m_all S) p0 = false ∨ ∃ j, p0 = nI j ∧ j < aPc (m_all S) ∧ (i0.toInt < 0 ∨ aPl (m_all S) j ≤ i0.toInt)) ∧ r = -1) ∨ ∃ j k, p0 = nI j ∧ j < aPc (m_all S) ∧ i0 = nI k ∧ k < aPl (m_all S) j ∧ r = nI (aTk (m_all S) j k)))) M) r2 M2) : r = r2 ∧ INV S2 M2 := by
  have HR := INV_R H
  obtain ⟨r1, r2, r3, r4, r5⟩ := id H.2.2.2.1
  have hlen := H.1.1.2.1
  have hpc := H.1.1.2.2.1
  have hmo := H.1.1.2.2.2.1
  obtain ⟨rfl, hx⟩ := hx
  obtain ⟨rfl, hm⟩ := hm
  refine ⟨?_, H⟩
  rcases hx with ⟨hN | ⟨q, hP, x1⟩, x2⟩ | ⟨q, i, hP, rfl, x1, x2⟩
  · have hpm := noP_m H hN
    rcases hm with ⟨-, m2⟩ | ⟨j, k, rfl, hj, -⟩
    · exact x2.trans m2.symm
    · exact absurd (hpm.symm.trans (isPm_n hj (by omega))) (by decide)
  · obtain ⟨j9, rfl, hj9, hj6, hrq, hoq⟩ := tieP H hd hP
    have sf := sameF_of H hrq hoq
    obtain ⟨-, -, sf3, sf4, sf5⟩ := id sf
    have hpm := isPm_n hj9 (by omega)
    rcases hm with ⟨-, m2⟩ | ⟨j, k, hj1, hj2, rfl, m1, m2⟩
    · exact x2.trans m2.symm
    · obtain rfl := nI_i (by omega) (by omega) hj1
      have := hoq.2.1
      rw [toI_0.1, (toI_lt (by omega)).2.2, nI_toInt (by omega)] at x1
      omega
  · obtain ⟨j9, rfl, hj9, hj6, hrq, hoq⟩ := tieP H hd hP
    have sf := sameF_of H hrq hoq
    obtain ⟨-, -, sf3, sf4, sf5⟩ := id sf
    have hpm := isPm_n hj9 (by omega)
    have := hoq.2.1
    rcases hm with ⟨m1 | ⟨j, hj1, hj2, m1⟩, m2⟩ | ⟨j, k, hj1, hj2, hk, m1, m2⟩
    · exact absurd (hpm.symm.trans m1) (by decide)
    · obtain rfl := nI_i (by omega) (by omega) hj1
      rw [nI_toInt (by omega)] at m1
      omega
    · obtain rfl := nI_i (by omega) (by omega) hj1
      obtain rfl := nI_i (by omega) (by omega) hk
      rw [x2, m2, hrq.2.2 i x1]

theorem st_pattern {S : XS} {M : MS} (H : INV S M) (hd : noDup S)  (p0 : Int32) (k0 : Int32) {r r2 : Int32} {S2 : XS} {M2 : MS} (hx : (fun r S' => (noP S p0 ∧ r = -1 ∧ S' = S) ∨ ∃ q, hasP S p0 q ∧ scrX S S' ∧ (((k0.toInt < 0 ∨ 7 < k0.toInt) ∧ r = -2) ∨ (k0 = nI 0 ∧ r = nI (pd_cnt q)) ∨ (k0 = nI 1 ∧ r = bI (pd_bnd q)) ∨ (k0 = nI 2 ∧ r = nI (nEnds S q)) ∨ (k0 = nI 3 ∧ r = nI (cS (alX q S) (st_len (x_now S) + 1))) ∨ (k0 = nI 4 ∧ ∃ ef, LR ef (selX q S) (st_len (x_now S) + 1) ∧ r = if nEnds S q = 0 then (-5) else nI (minG (gX q S ef) (nEnds S q))) ∨ (k0 = nI 5 ∧ ∃ ef, LR ef (selX q S) (st_len (x_now S) + 1) ∧ r = if nEnds S q = 0 then (-5) else nI (ef (argG (gX q S ef) (nEnds S q)))) ∨ (k0 = nI 6 ∧ r = nI (cntW (pd_plf q) (pd_cnt q))) ∨ (k0 = nI 7 ∧ r = bI (plainQ (pd_plf q) (pd_cnt q))))) r S2) (hm : ((fun (S : MS) => (fun r S' => (isPm (m_all S) p0 = false ∧ r = -1 ∧ S' = S) ∨ ∃ j, p0 = nI j ∧ j < aPc (m_all S) ∧ samM S S' ∧ (((k0.toInt < 0 ∨ 7 < k0.toInt) ∧ r = -2) ∨ (k0 = nI 0 ∧ r = nI (aPl (m_all S) j)) ∨ (k0 = nI 1 ∧ r = nI (aBd (m_all S) j)) ∨ (k0 = nI 2 ∧ r = nI (cS (selAM (m_all S) j false) (aLen (m_all S) + 1))) ∨ (k0 = nI 3 ∧ r = nI (cS (selAM (m_all S) j true) (aLen (m_all S) + 1))) ∨ (k0 = nI 4 ∧ ∃ ef, LR ef (selAM (m_all S) j false) (aLen (m_all S) + 1) ∧ r = if cS (selAM (m_all S) j false) (aLen (m_all S) + 1) = 0 then (-5) else nI (minG (gM (m_all S) j ef) (cS (selAM (m_all S) j false) (aLen (m_all S) + 1)))) ∨ (k0 = nI 5 ∧ ∃ ef, LR ef (selAM (m_all S) j false) (aLen (m_all S) + 1) ∧ r = if cS (selAM (m_all S) j false) (aLen (m_all S) + 1) = 0 then (-5) else nI (ef (argG (gM (m_all S) j ef) (cS (selAM (m_all S) j false) (aLen (m_all S) + 1))))) ∨ (k0 = nI 6 ∧ r = nI (cntV (aTk (m_all S) j) 134217727 (aPl (m_all S) j))) ∨ (k0 = nI 7 ∧ r = bI (plainQ (aTk (m_all S) j) (aPl (m_all S) j)))))) M) r2 M2) : r = r2 ∧ INV S2 M2 := by
  have HR := INV_R H
  obtain ⟨r1, r2, r3, r4, r5⟩ := id H.2.2.2.1
  have hlen := H.1.1.2.1
  have hpc := H.1.1.2.2.1
  have hmo := H.1.1.2.2.2.1
  rcases hx with ⟨hN, x2, rfl⟩ | ⟨q, hP, hx⟩
  · have hpm := noP_m H hN
    rcases hm with ⟨m1, m2, rfl⟩ | ⟨j, rfl, hj, -⟩
    · exact ⟨x2.trans m2.symm, H⟩
    · exact absurd (hpm.symm.trans (isPm_n hj (by omega))) (by decide)
  · obtain ⟨j9, rfl, hj9, hj6, hrq, hoq⟩ := tieP H hd hP
    have sf := sameF_of H hrq hoq
    obtain ⟨-, -, sf3, sf4, sf5⟩ := id sf
    have hpm := isPm_n hj9 (by omega)
    rcases hm with ⟨m1, m2, rfl⟩ | ⟨j, hj1, hj2, hm⟩
    · exact absurd (hpm.symm.trans m1) (by decide)
    · obtain rfl := nI_i (by omega) (by omega) hj1
      obtain ⟨hs, hx⟩ := hx
      obtain ⟨ms, hm⟩ := hm
      refine ⟨?_, INV_M (INV_scr H hs) ms⟩
      rw [r1] at hx
      have hN : nEnds S q = cS (selX q S) (aLen (m_all M) + 1) := by rw [← r1]; rfl
      rw [hN] at hx
      have hcf := sf_c sf false
      have hct := sf_c sf true
      have hcf : cS (selX q S) (aLen (m_all M) + 1) = _ := hcf
      have hct : cS (alX q S) (aLen (m_all M) + 1) = _ := hct
      rcases hx with ⟨x1, x2⟩ | ⟨rfl, x2⟩ | ⟨rfl, x2⟩ | ⟨rfl, x2⟩ | ⟨rfl, x2⟩ | ⟨rfl, f, xL, x2⟩ | ⟨rfl, f, xL, x2⟩ | ⟨rfl, x2⟩ | ⟨rfl, x2⟩ <;> rcases hm with ⟨m1, m2⟩ | ⟨m1, m2⟩ | ⟨m1, m2⟩ | ⟨m1, m2⟩ | ⟨m1, m2⟩ | ⟨m1, g, mL, m2⟩ | ⟨m1, g, mL, m2⟩ | ⟨m1, m2⟩ | ⟨m1, m2⟩
      all_goals first
        | (have := nI_i (by decide) (by decide) m1; exact absurd this (by decide))
        | (rw [nI_toInt (by decide)] at m1; exfalso; omega)
        | (subst m1; rw [nI_toInt (by decide)] at x1; exfalso; omega)
        | skip
      · exact x2.trans m2.symm
      · rw [x2, m2, sf3]
      · rw [x2, m2, ← hrq.2.1]; cases pd_bnd q <;> rfl
      · rw [x2, m2, hcf]
      · rw [x2, m2, hct]
      · rw [x2, m2, hcf, minG_congr (fun r hr => sf_g sf false xL mL hr)]
      · rw [x2, m2, hcf]
        by_cases hz : cS (selAM (m_all M) j9 false) (aLen (m_all M) + 1) = 0
        · rw [if_pos hz, if_pos hz]
        · rw [if_neg hz, if_neg hz, argG_congr (fun r hr => sf_g sf false xL mL hr), (sf_L sf false xL mL (argG_lt _ _ (by omega))).1]
      · rw [x2, m2, cntW_V, ← sf3, cntV_congr (fun i hi => hrq.2.2 i hi)]
      · rw [x2, m2, ← sf3, plainQ_congr (fun i hi => hrq.2.2 i hi)]

theorem st_end {S : XS} {M : MS} (H : INV S M) (hd : noDup S)  (p0 : Int32) (r0 : Int32) (a0 : Bool) (w0 : Int32) {r r2 : Int32} {S2 : XS} {M2 : MS} (hx : (fun r S' => (noP S p0 ∧ r = -1 ∧ S' = S) ∨ ∃ q, hasP S p0 q ∧ (((r0 < 0 ∨ w0 < 0 ∨ nI 2 < w0) ∧ r = -2 ∧ S' = S) ∨ ∃ rk w, r0 = nI rk ∧ rk < 2 ^ 31 ∧ w0 = nI w ∧ w ≤ 2 ∧ scrX S S' ∧ ((cS (selA q S a0) (st_len (x_now S) + 1) ≤ rk ∧ r = -5) ∨ (rk < cS (selA q S a0) (st_len (x_now S) + 1) ∧ ∃ ef, LR ef (selA q S a0) (st_len (x_now S) + 1) ∧ r = endV q S w (ef rk))))) r S2) (hm : ((fun (S : MS) => (fun r S' => (isPm (m_all S) p0 = false ∧ r = -1 ∧ S' = S) ∨ ∃ j, p0 = nI j ∧ j < aPc (m_all S) ∧ (((r0 < 0 ∨ w0.toInt < 0 ∨ 2 < w0.toInt) ∧ r = -2 ∧ S' = S) ∨ ∃ rk w, r0 = nI rk ∧ rk < 2 ^ 31 ∧ w0 = nI w ∧ w ≤ 2 ∧ samM S S' ∧ ((cS (selAM (m_all S) j a0) (aLen (m_all S) + 1) ≤ rk ∧ r = -5) ∨ (rk < cS (selAM (m_all S) j a0) (aLen (m_all S) + 1) ∧ ∃ ef, LR ef (selAM (m_all S) j a0) (aLen (m_all S) + 1) ∧ r = if w = 0 then nI (ef rk) else if w = 1 then nI (dM (m_all S) j (ef rk)) else nI (bM (m_all S) j (ef rk))))))) M) r2 M2) : r = r2 ∧ INV S2 M2 := by
  have HR := INV_R H
  obtain ⟨r1, r2, r3, r4, r5⟩ := id H.2.2.2.1
  have hlen := H.1.1.2.1
  have hpc := H.1.1.2.2.1
  have hmo := H.1.1.2.2.2.1
  rcases hx with ⟨hN, x2, rfl⟩ | ⟨q, hP, hx⟩
  · have hpm := noP_m H hN
    rcases hm with ⟨m1, m2, rfl⟩ | ⟨j, rfl, hj, -⟩
    · exact ⟨x2.trans m2.symm, H⟩
    · exact absurd (hpm.symm.trans (isPm_n hj (by omega))) (by decide)
  · obtain ⟨j9, rfl, hj9, hj6, hrq, hoq⟩ := tieP H hd hP
    have sf := sameF_of H hrq hoq
    obtain ⟨-, -, sf3, sf4, sf5⟩ := id sf
    have hpm := isPm_n hj9 (by omega)
    rcases hm with ⟨m1, m2, rfl⟩ | ⟨j, hj1, hj2, hm⟩
    · exact absurd (hpm.symm.trans m1) (by decide)
    · obtain rfl := nI_i (by omega) (by omega) hj1
      have hca := sf_c sf a0
      rw [r1] at hx
      rcases hx with ⟨x1, x2, rfl⟩ | ⟨rk, w, rfl, xr, rfl, x1, hs, hx⟩ <;> rcases hm with ⟨m1, m2, rfl⟩ | ⟨rk2, w2, mr, mr2, mw, m1, ms, hm⟩
      · exact ⟨x2.trans m2.symm, H⟩
      · subst mr mw
        rw [toI_0.1, toI_0.1, (toI_lt (by decide)).2.1, nI_toInt mr2, nI_toInt (by omega)] at x1
        omega
      · rw [toI_0.1, nI_toInt xr, nI_toInt (by omega)] at m1
        omega
      · obtain rfl := nI_i xr mr2 mr
        obtain rfl := nI_i (by omega) (by omega) mw
        refine ⟨?_, INV_M (INV_scr H hs) ms⟩
        rcases hx with ⟨x3, x4⟩ | ⟨x3, f, xL, x4⟩ <;> rcases hm with ⟨m3, m4⟩ | ⟨m3, g, mL, m4⟩
        · exact x4.trans m4.symm
        · omega
        · omega
        · obtain ⟨l1, l2⟩ := sf_L sf a0 xL mL m3
          obtain ⟨d1, d2⟩ := sf_d sf l2
          rw [x4, m4]
          unfold endV
          rw [d1, d2, l1]

theorem st_column {S : XS} {M : MS} (H : INV S M) (hd : noDup S)  (p0 : Int32) (k0 e0 : Int32) {r r2 : Int64} {S2 : XS} {M2 : MS} (hx : (fun r S' => (noP S p0 ∧ r = -1 ∧ S' = S) ∨ ∃ q, hasP S p0 q ∧ (((k0 < 0 ∨ nI (st_most (x_now S)) < k0 ∨ e0 < 0 ∨ nI (st_len (x_now S)) < e0) ∧ r = -2 ∧ S' = S) ∨ ∃ k e f, k0 = nI k ∧ e0 = nI e ∧ k ≤ st_most (x_now S) ∧ e ≤ st_len (x_now S) ∧ S' = u_cols S f ∧ ∀ b, b < 64 → lbit r b = decide (b + 1 ≤ pd_cnt q ∧ dcol (tkX (pd_ptf q) (st_text (x_now S))) (mayB (pd_bnd q) (st_text (x_now S))) e (b + 1) ≤ k))) r S2) (hm : ((fun (S : MS) => (fun r S' => (isPm (m_all S) p0 = false ∧ r = -1 ∧ S' = S) ∨ ∃ j, p0 = nI j ∧ j < aPc (m_all S) ∧ (((k0.toInt < 0 ∨ aMost (m_all S) < k0.toInt ∨ e0.toInt < 0 ∨ aLen (m_all S) < e0.toInt) ∧ r = -2 ∧ S' = S) ∨ ∃ sl k, k0 = nI sl ∧ sl ≤ aMost (m_all S) ∧ e0 = nI k ∧ k ≤ aLen (m_all S) ∧ samM S S' ∧ r = cM (m_all S) j sl k (aPl (m_all S) j)))) M) r2 M2) : r = r2 ∧ INV S2 M2 := by
  have HR := INV_R H
  obtain ⟨r1, r2, r3, r4, r5⟩ := id H.2.2.2.1
  have hlen := H.1.1.2.1
  have hpc := H.1.1.2.2.1
  have hmo := H.1.1.2.2.2.1
  rcases hx with ⟨hN, x2, rfl⟩ | ⟨q, hP, hx⟩
  · have hpm := noP_m H hN
    rcases hm with ⟨m1, m2, rfl⟩ | ⟨j, rfl, hj, -⟩
    · exact ⟨x2.trans m2.symm, H⟩
    · exact absurd (hpm.symm.trans (isPm_n hj (by omega))) (by decide)
  · obtain ⟨j9, rfl, hj9, hj6, hrq, hoq⟩ := tieP H hd hP
    have sf := sameF_of H hrq hoq
    obtain ⟨-, -, sf3, sf4, sf5⟩ := id sf
    have hpm := isPm_n hj9 (by omega)
    rcases hm with ⟨m1, m2, rfl⟩ | ⟨j, hj1, hj2, hm⟩
    · exact absurd (hpm.symm.trans m1) (by decide)
    · obtain rfl := nI_i (by omega) (by omega) hj1
      rcases hx with ⟨x1, x2, rfl⟩ | ⟨k, ee, f, rfl, rfl, x1, x2, rfl, x3⟩ <;> rcases hm with ⟨m1, m2, rfl⟩ | ⟨k2, e2, mk, m1, me, m2, ms, m3⟩
      · exact ⟨x2.trans m2.symm, H⟩
      · subst mk me
        rw [toI_0.1, toI_0.1, (toI_lt (by omega)).2.1, (toI_lt (by omega)).2.1, nI_toInt (by omega), nI_toInt (by omega)] at x1
        omega
      · rw [nI_toInt (by omega), nI_toInt (by omega)] at m1
        omega
      · obtain rfl := nI_i (by omega) (by omega) mk
        obtain rfl := nI_i (by omega) (by omega) me
        refine ⟨?_, INV_M (INV_scr H ⟨rfl, rfl, rfl, rfl, rfl, rfl, rfl, rfl, rfl, rfl, rfl⟩) ms⟩
        have hq60 := hoq.2.1
        refine lbit_ext (fun b hb => ?_)
        rw [x3 b hb, m3, cM_bit (by omega) hb]
        refine decide_eq_decide.mpr ?_
        rw [← sf3]
        constructor
        · intro z
          have hk := sf_k sf (e := ee) (i := b + 1) (by omega) z.1
          have z2 := z.2
          unfold dcol at z2 ⊢
          rw [hk] at z2
          exact ⟨by omega, z2⟩
        · intro z
          have hk := sf_k sf (e := ee) (i := b + 1) (by omega) (by omega)
          have z2 := z.2
          unfold dcol at z2 ⊢
          rw [← hk] at z2
          exact ⟨by omega, z2⟩

theorem st_slips {S : XS} {M : MS} (H : INV S M) (hd : noDup S)  (p0 : Int32) (fr0 to0 w0 : Int32) {r r2 : Int32} {S2 : XS} {M2 : MS} (hx : (fun r S' => (noP S p0 ∧ r = -1 ∧ S' = S) ∨ ∃ q, hasP S p0 q ∧ (((fr0 < 0 ∨ to0 < fr0 ∨ nI (st_len (x_now S)) < to0 ∨ w0 < 0 ∨ nI 3 < w0) ∧ r = -2 ∧ S' = S) ∨ ∃ fr to w f, fr0 = nI fr ∧ to0 = nI to ∧ w0 = nI w ∧ fr ≤ to ∧ to ≤ st_len (x_now S) ∧ w ≤ 3 ∧ r = nI (wayV (wcol (tkX (pd_ptf q) (st_text (x_now S))) fr (to - fr) (pd_cnt q)) w) ∧ S' = u_ways S f)) r S2) (hm : ((fun (S : MS) => (fun r S' => (isPm (m_all S) p0 = false ∧ r = -1 ∧ S' = S) ∨ ∃ j, p0 = nI j ∧ j < aPc (m_all S) ∧ (((fr0.toInt < 0 ∨ to0.toInt < fr0.toInt ∨ aLen (m_all S) < fr0.toInt ∨ aLen (m_all S) < to0.toInt ∨ w0.toInt < 0 ∨ 3 < w0.toInt) ∧ r = -2 ∧ S' = S) ∨ ∃ f t w, fr0 = nI f ∧ to0 = nI t ∧ f ≤ t ∧ t ≤ aLen (m_all S) ∧ w0 = nI w ∧ w ≤ 3 ∧ samM S S' ∧ ∃ a b c, wsum a b c = wcol (aTt (m_all S) j) f (t - f) (aPl (m_all S) j) ∧ r = if w = 0 then nI (a + b + c) else if w = 1 then nI a else if w = 2 then nI b else nI c))) M) r2 M2) : r = r2 ∧ INV S2 M2 := by
  have HR := INV_R H
  obtain ⟨r1, r2, r3, r4, r5⟩ := id H.2.2.2.1
  have hlen := H.1.1.2.1
  have hpc := H.1.1.2.2.1
  have hmo := H.1.1.2.2.2.1
  rcases hx with ⟨hN, x2, rfl⟩ | ⟨q, hP, hx⟩
  · have hpm := noP_m H hN
    rcases hm with ⟨m1, m2, rfl⟩ | ⟨j, rfl, hj, -⟩
    · exact ⟨x2.trans m2.symm, H⟩
    · exact absurd (hpm.symm.trans (isPm_n hj (by omega))) (by decide)
  · obtain ⟨j9, rfl, hj9, hj6, hrq, hoq⟩ := tieP H hd hP
    have sf := sameF_of H hrq hoq
    obtain ⟨-, -, sf3, sf4, sf5⟩ := id sf
    have hpm := isPm_n hj9 (by omega)
    rcases hm with ⟨m1, m2, rfl⟩ | ⟨j, hj1, hj2, hm⟩
    · exact absurd (hpm.symm.trans m1) (by decide)
    · obtain rfl := nI_i (by omega) (by omega) hj1
      rcases hx with ⟨x1, x2, rfl⟩ | ⟨f, t, w, fw, rfl, rfl, rfl, x1, x2, x3, x4, rfl⟩ <;> rcases hm with ⟨m1, m2, rfl⟩ | ⟨f2, t2, w2, mf, mt, m1, m2, mw, m3, ms, a, b, c, m4, m5⟩
      · exact ⟨x2.trans m2.symm, H⟩
      · subst mf mt mw
        rw [toI_0.1, Int32.lt_iff_toInt_lt, (toI_lt (by omega)).2.1, toI_0.1, (toI_lt (by omega)).2.1, nI_toInt (by omega), nI_toInt (by omega), nI_toInt (by omega)] at x1
        omega
      · rw [nI_toInt (by omega), nI_toInt (by omega), nI_toInt (by omega)] at m1
        omega
      · obtain rfl := nI_i (by omega) (by omega) mf
        obtain rfl := nI_i (by omega) (by omega) mt
        obtain rfl := nI_i (by omega) (by omega) mw
        refine ⟨?_, INV_M (INV_scr H ⟨rfl, rfl, rfl, rfl, rfl, rfl, rfl, rfl, rfl, rfl, rfl⟩) ms⟩
        have hq60 := hoq.2.1
        have hw := wcol_congr (fr := f) sf.1 (t - f) (by omega) (pd_cnt q) (Nat.le_refl _)
        rw [sf3] at hw
        rw [x4, m5, sf3, hw]
        exact wayV_if (by omega) (by omega) m4 x3

theorem st_density {S : XS} {M : MS} (H : INV S M) (hd : noDup S)  (p0 : Int32) {r r2 : UInt64} {S2 : XS} {M2 : MS} (hx : (fun r S' => (noP S p0 ∧ r = 13830554455654793216 ∧ S' = S) ∨ ∃ q, hasP S p0 q ∧ scrX S S' ∧ ∃ ef, LR ef (selX q S) (st_len (x_now S) + 1) ∧ r = FP.ddiv (shS (gX q S ef) (cS (selX q S) (st_len (x_now S) + 1))) (FP.i2d (nI (st_len (x_now S) + 1)))) r S2) (hm : ((fun (S : MS) => (fun r S' => (isPm (m_all S) p0 = false ∧ r = 13830554455654793216 ∧ S' = S) ∨ ∃ j, p0 = nI j ∧ j < aPc (m_all S) ∧ samM S S' ∧ ∃ ef, LR ef (selAM (m_all S) j false) (aLen (m_all S) + 1) ∧ r = FP.ddiv (shS (gM (m_all S) j ef) (cS (selAM (m_all S) j false) (aLen (m_all S) + 1))) (FP.i2d (nI (aLen (m_all S) + 1))))) M) r2 M2) : r = r2 ∧ INV S2 M2 := by
  have HR := INV_R H
  obtain ⟨r1, r2, r3, r4, r5⟩ := id H.2.2.2.1
  have hlen := H.1.1.2.1
  have hpc := H.1.1.2.2.1
  have hmo := H.1.1.2.2.2.1
  rcases hx with ⟨hN, x2, rfl⟩ | ⟨q, hP, hx⟩
  · have hpm := noP_m H hN
    rcases hm with ⟨m1, m2, rfl⟩ | ⟨j, rfl, hj, -⟩
    · exact ⟨x2.trans m2.symm, H⟩
    · exact absurd (hpm.symm.trans (isPm_n hj (by omega))) (by decide)
  · obtain ⟨j9, rfl, hj9, hj6, hrq, hoq⟩ := tieP H hd hP
    have sf := sameF_of H hrq hoq
    obtain ⟨-, -, sf3, sf4, sf5⟩ := id sf
    have hpm := isPm_n hj9 (by omega)
    rcases hm with ⟨m1, m2, rfl⟩ | ⟨j, hj1, hj2, hm⟩
    · exact absurd (hpm.symm.trans m1) (by decide)
    · obtain rfl := nI_i (by omega) (by omega) hj1
      obtain ⟨hs, f, xL, x2⟩ := hx
      obtain ⟨ms, g, mL, m2⟩ := hm
      refine ⟨?_, INV_M (INV_scr H hs) ms⟩
      rw [r1] at xL x2
      have hcf : cS (selX q S) (aLen (m_all M) + 1) = _ := sf_c sf false
      rw [x2, m2, hcf, shS_congr (fun r hr => sf_g sf false xL mL hr)]

theorem st_densityBits {S : XS} {M : MS} (H : INV S M) (hd : noDup S)  (p0 : Int32) {r r2 : Int32} {S2 : XS} {M2 : MS} (hx : (fun r S' => (noP S p0 ∧ r = -1 ∧ S' = S) ∨ ∃ q, hasP S p0 q ∧ scrX S S' ∧ ∃ ef m9, LR ef (selX q S) (st_len (x_now S) + 1) ∧ m9 ≤ 1065353216 ∧ FP.d2f (FP.ddiv (shS (gX q S ef) (cS (selX q S) (st_len (x_now S) + 1))) (FP.i2d (nI (st_len (x_now S) + 1)))) = fb m9 ∧ r = nI m9) r S2) (hm : ((fun (S : MS) => (fun r S' => (isPm (m_all S) p0 = false ∧ r = -1 ∧ S' = S) ∨ ∃ j, p0 = nI j ∧ j < aPc (m_all S) ∧ samM S S' ∧ ∃ ef m9, LR ef (selAM (m_all S) j false) (aLen (m_all S) + 1) ∧ m9 ≤ 1065353216 ∧ FP.d2f (FP.ddiv (shS (gM (m_all S) j ef) (cS (selAM (m_all S) j false) (aLen (m_all S) + 1))) (FP.i2d (nI (aLen (m_all S) + 1)))) = fb m9 ∧ r = nI m9)) M) r2 M2) : r = r2 ∧ INV S2 M2 := by
  have HR := INV_R H
  obtain ⟨r1, r2, r3, r4, r5⟩ := id H.2.2.2.1
  have hlen := H.1.1.2.1
  have hpc := H.1.1.2.2.1
  have hmo := H.1.1.2.2.2.1
  rcases hx with ⟨hN, x2, rfl⟩ | ⟨q, hP, hx⟩
  · have hpm := noP_m H hN
    rcases hm with ⟨m1, m2, rfl⟩ | ⟨j, rfl, hj, -⟩
    · exact ⟨x2.trans m2.symm, H⟩
    · exact absurd (hpm.symm.trans (isPm_n hj (by omega))) (by decide)
  · obtain ⟨j9, rfl, hj9, hj6, hrq, hoq⟩ := tieP H hd hP
    have sf := sameF_of H hrq hoq
    obtain ⟨-, -, sf3, sf4, sf5⟩ := id sf
    have hpm := isPm_n hj9 (by omega)
    rcases hm with ⟨m1, m2, rfl⟩ | ⟨j, hj1, hj2, hm⟩
    · exact absurd (hpm.symm.trans m1) (by decide)
    · obtain rfl := nI_i (by omega) (by omega) hj1
      obtain ⟨hs, f, k9, xL, xk, x1, x2⟩ := hx
      obtain ⟨ms, g, l9, mL, mk, m1, m2⟩ := hm
      refine ⟨?_, INV_M (INV_scr H hs) ms⟩
      rw [r1] at xL x1
      have hcf : cS (selX q S) (aLen (m_all M) + 1) = _ := sf_c sf false
      rw [hcf, shS_congr (fun r hr => sf_g sf false xL mL hr)] at x1
      have hkl : k9 = l9 := fb_inj (by omega) (by omega) (x1.symm.trans m1)
      rw [x2, m2, hkl]

theorem st_count {S : XS} {M : MS} (H : INV S M) (hd : noDup S)   (k0 : Int32) {r r2 : Int32} {S2 : XS} {M2 : MS} (hx : (fun r S' => scrX S S' ∧ (((k0.toInt < 0 ∨ 7 < k0.toInt) ∧ r = -2) ∨ (k0 = nI 0 ∧ r = nI (st_len (x_now S))) ∨ (k0 = nI 1 ∧ r = nI (st_pcnt (x_now S))) ∨ (k0 = nI 2 ∧ r = nI (st_most (x_now S))) ∨ (k0 = nI 3 ∧ r = nI (sumN (allE S) 6)) ∨ (k0 = nI 4 ∧ r = nI (cS (anyE S 6) 121)) ∨ (k0 = nI 5 ∧ r = nI (cntB (st_text (x_now S)) (st_len (x_now S)))) ∨ (k0 = nI 6 ∧ r = nI (x_hcnt S)) ∨ (k0 = nI 7 ∧ r = nI (x_plen S)))) r S2) (hm : ((fun (S : MS) => (fun r S' => samM S S' ∧ (((k0.toInt < 0 ∨ 7 < k0.toInt) ∧ r = -2) ∨ (k0 = nI 0 ∧ r = nI (aLen (m_all S))) ∨ (k0 = nI 1 ∧ r = nI (aPc (m_all S))) ∨ (k0 = nI 2 ∧ r = nI (aMost (m_all S))) ∨ (k0 = nI 3 ∧ r = nI (sumN (fun p => cS (selAM (m_all S) p false) (aLen (m_all S) + 1)) (aPc (m_all S)))) ∨ (k0 = nI 4 ∧ r = nI (cS (anyM (m_all S) (aPc (m_all S))) (aLen (m_all S) + 1))) ∨ (k0 = nI 5 ∧ r = nI (cntV (aTx (m_all S)) 26 (aLen (m_all S)))) ∨ (k0 = nI 6 ∧ r = nI (m_hlong S)) ∨ (k0 = nI 7 ∧ r = nI (m_padLong S))))) M) r2 M2) : r = r2 ∧ INV S2 M2 := by
  have HR := INV_R H
  obtain ⟨r1, r2, r3, r4, r5⟩ := id H.2.2.2.1
  have hlen := H.1.1.2.1
  have hpc := H.1.1.2.2.1
  have hmo := H.1.1.2.2.2.1
  obtain ⟨s2, s3, s4, s5, s6, s7⟩ := H.2.2.2.2
  obtain ⟨hs, hx⟩ := hx
  obtain ⟨ms, hm⟩ := hm
  refine ⟨?_, INV_M (INV_scr H hs) ms⟩
  rcases hx with ⟨x1, x2⟩ | ⟨rfl, x2⟩ | ⟨rfl, x2⟩ | ⟨rfl, x2⟩ | ⟨rfl, x2⟩ | ⟨rfl, x2⟩ | ⟨rfl, x2⟩ | ⟨rfl, x2⟩ | ⟨rfl, x2⟩ <;> rcases hm with ⟨m1, m2⟩ | ⟨m1, m2⟩ | ⟨m1, m2⟩ | ⟨m1, m2⟩ | ⟨m1, m2⟩ | ⟨m1, m2⟩ | ⟨m1, m2⟩ | ⟨m1, m2⟩ | ⟨m1, m2⟩
  all_goals first
    | (have := nI_i (by decide) (by decide) m1; exact absurd this (by decide))
    | (rw [nI_toInt (by decide)] at m1; exfalso; omega)
    | (subst m1; rw [nI_toInt (by decide)] at x1; exfalso; omega)
    | skip
  · exact x2.trans m2.symm
  · rw [x2, m2, r1]
  · rw [x2, m2, r2]
  · rw [x2, m2, r3]
  · rw [x2, m2]
    refine congrArg nI (sumN_cut (k := aPc (m_all M)) (fun p hp => ?_) (fun p hp => if_neg (by omega)) 6 (by omega))
    show (if p < st_pcnt (x_now S) then nEnds S (patOf S p) else 0) = _
    rw [if_pos (by omega)]
    have h1 := sf_c (sameF_at H hd (j := p) (by omega)) false
    show cS (selX (patOf S p) S) (st_len (x_now S) + 1) = _
    rw [r1]
    exact h1
  · rw [x2, m2]
    refine congrArg nI (cS_cut (fun e9 he9 => ?_) (fun e9 he9 => anyE_out (by omega) 6) (by omega))
    have h1 := anyE_past (S := S) (e := e9) (k := st_pcnt (x_now S)) (Nat.le_refl _) (6 - st_pcnt (x_now S))
    rw [show st_pcnt (x_now S) + (6 - st_pcnt (x_now S)) = 6 by omega] at h1
    rw [h1, anyE_M H hd he9 _ (Nat.le_refl _), r2]
  · rw [x2, m2, ← r1]
    refine congrArg nI (cntB_V (fun i hi => ?_))
    rw [r4 i hi, cod_26 (H.1.1.1.2 i hi)]
  · rw [x2, m2, s4]
  · rw [x2, m2, s6]
