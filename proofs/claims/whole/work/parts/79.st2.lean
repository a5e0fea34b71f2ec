theorem st_at {S : XS} {M : MS} (H : INV S M)  (i0 : Int32) {r r2 : Int32} {S2 : XS} {M2 : MS} (hx : (fun r S' => S' = S ∧ (((i0 < 0 ∨ nI (st_len (x_now S)) ≤ i0) ∧ r = -1) ∨ ∃ i, i0 = nI i ∧ i < st_len (x_now S) ∧ r = nI (st_text (x_now S) i))) r S2) (hm : ((fun (S : MS) => (fun r S' => S' = S ∧ (((i0.toInt < 0 ∨ aLen (m_all S) ≤ i0.toInt) ∧ r = -1) ∨ ∃ k, i0 = nI k ∧ k < aLen (m_all S) ∧ r = nI (decod (aTx (m_all S) k))))) M) r2 M2) : r = r2 ∧ INV S2 M2 := by
  have HR := INV_R H
  obtain ⟨r1, r2, r3, r4, r5⟩ := id H.2.2.2.1
  have hlen := H.1.1.2.1
  have hpc := H.1.1.2.2.1
  obtain ⟨rfl, hx⟩ := hx
  obtain ⟨rfl, hm⟩ := hm
  refine ⟨?_, H⟩
  have hT := H.1.1.1
  rcases hx with ⟨x1, x2⟩ | ⟨k, rfl, x1, x2⟩ <;> rcases hm with ⟨m1, m2⟩ | ⟨k2, m0, m1, m2⟩
  · exact x2.trans m2.symm
  · subst m0
    rw [toI_0.1, (toI_lt (by omega)).2.2, nI_toInt (by omega)] at x1
    omega
  · rw [nI_toInt (by omega)] at m1
    omega
  · obtain rfl := nI_i (by omega) (by omega) m0
    rw [x2, m2, r4 k x1, decod_cod (hT.2 k x1)]

theorem st_takes {S : XS} {M : MS} (H : INV S M) (hd : noDup S)  (p0 : Int32) (i0 : Int32) {r r2 : Int32} {S2 : XS} {M2 : MS} (hx : (fun r S' => S' = S ∧ (((noP S p0 ∨ ∃ q, hasP S p0 q ∧ (i0 < 0 ∨ nI (pd_cnt q) ≤ i0)) ∧ r = -1) ∨ ∃ q i, hasP S p0 q ∧ i0 = nI i ∧ i < pd_cnt q ∧ r = nI (pd_plf q i))) r S2) (hm : ((fun (S : MS) => (fun r S' => S' = S ∧ (((isPm (m_all S) p0 = false ∨ ∃ j, p0 = nI j ∧ j < aPc (m_all S) ∧ (i0.toInt < 0 ∨ aPl (m_all S) j ≤ i0.toInt)) ∧ r = -1) ∨ ∃ j k, p0 = nI j ∧ j < aPc (m_all S) ∧ i0 = nI k ∧ k < aPl (m_all S) j ∧ r = nI (aTk (m_all S) j k)))) M) r2 M2) : r = r2 ∧ INV S2 M2 := by
  have HR := INV_R H
  obtain ⟨r1, r2, r3, r4, r5⟩ := id H.2.2.2.1
  have hlen := H.1.1.2.1
  have hpc := H.1.1.2.2.1
  obtain ⟨rfl, hx⟩ := hx
  obtain ⟨rfl, hm⟩ := hm
  refine ⟨?_, H⟩
  rcases hx with ⟨hN | ⟨q, hP, x1⟩, x2⟩ | ⟨q, i, hP, rfl, x1, x2⟩
  · have hpm := noP_m H hN
    rcases hm with ⟨-, m2⟩ | ⟨j, k, rfl, hj, -⟩
    · exact x2.trans m2.symm
    · exact absurd (hpm.symm.trans (isPm_n hj (by omega))) (by decide)
  · obtain ⟨j9, rfl, hj9, hj6, hrq, hoq⟩ := tieP H hd hP
    have sf := sameF_of H hrq hoq
    obtain ⟨-, -, sf3, sf4, sf5⟩ := id sf
    have hpm := isPm_n hj9 (by omega)
    rcases hm with ⟨-, m2⟩ | ⟨j, k, hj1, hj2, rfl, m1, m2⟩
    · exact x2.trans m2.symm
    · obtain rfl := nI_i (by omega) (by omega) hj1
      have := hoq.2.1
      rw [toI_0.1, (toI_lt (by omega)).2.2, nI_toInt (by omega)] at x1
      omega
  · obtain ⟨j9, rfl, hj9, hj6, hrq, hoq⟩ := tieP H hd hP
    have sf := sameF_of H hrq hoq
    obtain ⟨-, -, sf3, sf4, sf5⟩ := id sf
    have hpm := isPm_n hj9 (by omega)
    have := hoq.2.1
    rcases hm with ⟨m1 | ⟨j, hj1, hj2, m1⟩, m2⟩ | ⟨j, k, hj1, hj2, hk, m1, m2⟩
    · exact absurd (hpm.symm.trans m1) (by decide)
    · obtain rfl := nI_i (by omega) (by omega) hj1
      rw [nI_toInt (by omega)] at m1
      omega
    · obtain rfl := nI_i (by omega) (by omega) hj1
      obtain rfl := nI_i (by omega) (by omega) hk
      rw [x2, m2, hrq.2.2 i x1]

theorem st_pattern {S : XS} {M : MS} (H : INV S M) (hd : noDup S)  (p0 : Int32) (k0 : Int32) {r r2 : Int32} {S2 : XS} {M2 : MS} (hx : (fun r S' => (noP S p0 ∧ r = -1 ∧ S' = S) ∨ ∃ q, hasP S p0 q ∧ scrX S S' ∧ (((k0.toInt < 0 ∨ 7 < k0.toInt) ∧ r = -2) ∨ (k0 = nI 0 ∧ r = nI (pd_cnt q)) ∨ (k0 = nI 1 ∧ r = bI (pd_bnd q)) ∨ (k0 = nI 2 ∧ r = nI (nEnds S q)) ∨ (k0 = nI 3 ∧ r = nI (cS (alX q S) (st_len (x_now S) + 1))) ∨ (k0 = nI 4 ∧ ∃ ef, LR ef (selX q S) (st_len (x_now S) + 1) ∧ r = if nEnds S q = 0 then (-5) else nI (minG (gX q S ef) (nEnds S q))) ∨ (k0 = nI 5 ∧ ∃ ef, LR ef (selX q S) (st_len (x_now S) + 1) ∧ r = if nEnds S q = 0 then (-5) else nI (ef (argG (gX q S ef) (nEnds S q)))) ∨ (k0 = nI 6 ∧ r = nI (cntW (pd_plf q) (pd_cnt q))) ∨ (k0 = nI 7 ∧ r = bI (plainQ (pd_plf q) (pd_cnt q))))) r S2) (hm : ((fun (S : MS) => (fun r S' => (isPm (m_all S) p0 = false ∧ r = -1 ∧ S' = S) ∨ ∃ j, p0 = nI j ∧ j < aPc (m_all S) ∧ samM S S' ∧ (((k0.toInt < 0 ∨ 7 < k0.toInt) ∧ r = -2) ∨ (k0 = nI 0 ∧ r = nI (aPl (m_all S) j)) ∨ (k0 = nI 1 ∧ r = nI (aBd (m_all S) j)) ∨ (k0 = nI 2 ∧ r = nI (cS (selAM (m_all S) j false) (aLen (m_all S) + 1))) ∨ (k0 = nI 3 ∧ r = nI (cS (selAM (m_all S) j true) (aLen (m_all S) + 1))) ∨ (k0 = nI 4 ∧ ∃ ef, LR ef (selAM (m_all S) j false) (aLen (m_all S) + 1) ∧ r = if cS (selAM (m_all S) j false) (aLen (m_all S) + 1) = 0 then (-5) else nI (minG (gM (m_all S) j ef) (cS (selAM (m_all S) j false) (aLen (m_all S) + 1)))) ∨ (k0 = nI 5 ∧ ∃ ef, LR ef (selAM (m_all S) j false) (aLen (m_all S) + 1) ∧ r = if cS (selAM (m_all S) j false) (aLen (m_all S) + 1) = 0 then (-5) else nI (ef (argG (gM (m_all S) j ef) (cS (selAM (m_all S) j false) (aLen (m_all S) + 1))))) ∨ (k0 = nI 6 ∧ r = nI (cntV (aTk (m_all S) j) 134217727 (aPl (m_all S) j))) ∨ (k0 = nI 7 ∧ r = bI (plainQ (aTk (m_all S) j) (aPl (m_all S) j)))))) M) r2 M2) : r = r2 ∧ INV S2 M2 := by
  have HR := INV_R H
  obtain ⟨r1, r2, r3, r4, r5⟩ := id H.2.2.2.1
  have hlen := H.1.1.2.1
  have hpc := H.1.1.2.2.1
  rcases hx with ⟨hN, x2, rfl⟩ | ⟨q, hP, hx⟩
  · have hpm := noP_m H hN
    rcases hm with ⟨m1, m2, rfl⟩ | ⟨j, rfl, hj, -⟩
    · exact ⟨x2.trans m2.symm, H⟩
    · exact absurd (hpm.symm.trans (isPm_n hj (by omega))) (by decide)
  · obtain ⟨j9, rfl, hj9, hj6, hrq, hoq⟩ := tieP H hd hP
    have sf := sameF_of H hrq hoq
    obtain ⟨-, -, sf3, sf4, sf5⟩ := id sf
    have hpm := isPm_n hj9 (by omega)
    rcases hm with ⟨m1, m2, rfl⟩ | ⟨j, hj1, hj2, hm⟩
    · exact absurd (hpm.symm.trans m1) (by decide)
    · obtain rfl := nI_i (by omega) (by omega) hj1
      obtain ⟨hs, hx⟩ := hx
      obtain ⟨ms, hm⟩ := hm
      refine ⟨?_, INV_M (INV_scr H hs) ms⟩
      rw [r1] at hx
      have hN : nEnds S q = cS (selX q S) (aLen (m_all M) + 1) := by rw [← r1]; rfl
      rw [hN] at hx
      have hcf := sf_c sf false
      have hct := sf_c sf true
      have hcf : cS (selX q S) (aLen (m_all M) + 1) = _ := hcf
      have hct : cS (alX q S) (aLen (m_all M) + 1) = _ := hct
      rcases hx with ⟨x1, x2⟩ | ⟨rfl, x2⟩ | ⟨rfl, x2⟩ | ⟨rfl, x2⟩ | ⟨rfl, x2⟩ | ⟨rfl, f, xL, x2⟩ | ⟨rfl, f, xL, x2⟩ | ⟨rfl, x2⟩ | ⟨rfl, x2⟩ <;> rcases hm with ⟨m1, m2⟩ | ⟨m1, m2⟩ | ⟨m1, m2⟩ | ⟨m1, m2⟩ | ⟨m1, m2⟩ | ⟨m1, g, mL, m2⟩ | ⟨m1, g, mL, m2⟩ | ⟨m1, m2⟩ | ⟨m1, m2⟩
      all_goals first
        | (have := nI_i (by decide) (by decide) m1; exact absurd this (by decide))
        | (rw [nI_toInt (by decide)] at m1; exfalso; omega)
        | (subst m1; rw [nI_toInt (by decide)] at x1; exfalso; omega)
        | skip
      · exact x2.trans m2.symm
      · rw [x2, m2, sf3]
      · rw [x2, m2, ← hrq.2.1]; cases pd_bnd q <;> rfl
      · rw [x2, m2, hcf]
      · rw [x2, m2, hct]
      · rw [x2, m2, hcf, minG_congr (fun r hr => sf_g sf false xL mL hr)]
      · rw [x2, m2, hcf]
        by_cases hz : cS (selAM (m_all M) j9 false) (aLen (m_all M) + 1) = 0
        · rw [if_pos hz, if_pos hz]
        · rw [if_neg hz, if_neg hz, argG_congr (fun r hr => sf_g sf false xL mL hr), (sf_L sf false xL mL (argG_lt _ _ (by omega))).1]
      · rw [x2, m2, cntW_V, ← sf3, cntV_congr (fun i hi => hrq.2.2 i hi)]
      · rw [x2, m2, ← sf3, plainQ_congr (fun i hi => hrq.2.2 i hi)]
