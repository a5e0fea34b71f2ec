theorem hd_X8_bits_s : yX8_bits.cls ≠ "java/lang/invoke/MethodHandle" ∧ yX8_bits.cls ≠ "java/lang/invoke/VarHandle" ∧ (parseMethodDescriptor yX8_bits.desc).map (fun d => d.parameters.length) = some 1 := by decide +kernel
set_option maxHeartbeats 4000000 in
set_option maxRecDepth 100000 in
theorem c_X8_isPlain (l : Launch) (G : GX) (am : Nat → Nat) (S : MS) (p0 : Nat) (hp0 : p0 < 6) (hpl : aPl (m_all S) p0 ≤ 60) (hK0 : ∀ j, j < 60 → aTk (m_all S) p0 j < 268435456) : CtI l yX8_isPlain wsX8_isPlain { frames := 1, cells := 0, slots := 0, locals := 22 } G (wM G am) (S) [.ref (am 0), .int (nI (p0))] (fun r S' => r = bI (plainQ (aTk (m_all S) p0) (aPl (m_all S) p0)) ∧ S' = S) 0 0 := by
  refine CtI.of (cc := cX8_isPlain) (maxL := 4) (ret := some .boolean) (by decide +kernel) rfl (Nat.le_of_ble_eq_true rfl) ?_
  intro p e s m args below meth c ls A hC hr hlk hin hK hA hX hl
  have hl : lv_has ls 4 [(0, .ref (am 0)), (1, .int (nI (p0)))] := hl
  refine lv_iconst (v := nI (1)) hC.1 hC.2.1 dX8_isPlain_0 rfl ?_
  refine lv_istore_n (lv' := [(2, .int (nI (1))), (0, .ref (am 0)), (1, .int (nI (p0)))]) hC.1 hC.2.1 dX8_isPlain_1 rfl hl (by decide) rfl (fun ls hl => ?_)
  refine lv_iconst (v := nI (0)) hC.1 hC.2.1 dX8_isPlain_2 rfl ?_
  refine lv_istore_n (lv' := [(3, .int (nI (0))), (2, .int (nI (1))), (0, .ref (am 0)), (1, .int (nI (p0)))]) hC.1 hC.2.1 dX8_isPlain_3 rfl hl (by decide) rfl (fun ls hl => ?_)
  have loop4 : ∀ (n9 : Nat) (i : Nat), (i ≤ aPl (m_all S) p0) → aPl (m_all S) p0 - i < n9 → ∀ (H : Heap) (locs : List Loc) (ls : Array Slot), HH G A s.heap (wM G am (S)) H locs → lv_has ls 4 [(3, .int (nI (i))), (2, .int (bI (plainQ (aTk (m_all S) p0) i))), (0, .ref (am 0)), (1, .int (nI (p0)))] → W p l e { frames := 1, cells := 0, slots := 0, locals := 22 } s m args below meth c H locs 0 0 (EndI G (wM G am) A (fun r S' => r = bI (plainQ (aTk (m_all S) p0) (aPl (m_all S) p0)) ∧ S' = S) below args s 0 0) (F0 m 4 ls []) := by
    intro n9
    induction n9 with
    | zero => intro i hi hn9; exact absurd hn9 (Nat.not_lt_zero _)
    | succ n9 ih4 =>
      intro i hi hn9 H locs ls hX hl
      refine lv_iload_n hC.1 hC.2.1 dX8_isPlain_4 rfl (lv_at hl 0 rfl) ?_
      refine lv_aload_n hC.1 hC.2.1 dX8_isPlain_5 rfl (lv_at hl 2 rfl) ?_
      refine lv_iload_n hC.1 hC.2.1 dX8_isPlain_6 rfl (lv_at hl 3 rfl) ?_
      refine cv_I (As := [.int (nI (p0))]) (rest := [.int (nI (i))]) hC hK hA hX (c_X8_places l G am (S) (p0) (by omega)) (cwV 1 hC.2.2.2.2 gX8_isPlain_X8_places rfl rfl rfl hd_X8_places ⟨Nat.le_of_ble_eq_true rfl, Nat.le_of_ble_eq_true rfl⟩) (ci := 8) (q := (RX8, TX8, 21)) rfl (q0 := 0) rfl dX8_isPlain_7 rfl hl.1 rfl (Nat.le_of_ble_eq_true rfl) ⟨(Nat.zero_le _), (Nat.zero_le _)⟩ (fun r9 S9 H locs hp9 hX => ?_)
      obtain ⟨rfl, hS9⟩ := hp9
      rw [hS9] at hX
      replace hX : HH G A s.heap (wM G am (S)) H locs := hX
      refine n_icmp_ge hC (a := i) (b := aPl (m_all S) (p0)) (tgt := 42) dX8_isPlain_10 (by decide) (by omega) (by omega) (fun c10 => ?_) (fun c10 => ?_)
      · skip
        refine lv_iload_n hC.1 hC.2.1 dX8_isPlain_42 rfl (lv_at hl 1 rfl) ?_
        refine r_zreturn hC hr hlk hX dX8_isPlain_43 (nar_bool _) ?_
        obtain rfl : i = aPl (m_all S) p0 := by omega
        exact ⟨rfl, rfl⟩
      · skip
        refine lv_iload_n hC.1 hC.2.1 dX8_isPlain_13 rfl (lv_at hl 1 rfl) ?_
        have join35 : ∀ (H : Heap) (locs : List Loc) (ls : Array Slot), HH G A s.heap (wM G am (S)) H locs → lv_has ls 4 [(3, .int (nI (i))), (2, .int (bI (plainQ (aTk (m_all S) p0) i))), (0, .ref (am 0)), (1, .int (nI (p0)))] → W p l e { frames := 1, cells := 0, slots := 0, locals := 22 } s m args below meth c H locs 0 0 (EndI G (wM G am) A (fun r S' => r = bI (plainQ (aTk (m_all S) p0) (aPl (m_all S) p0)) ∧ S' = S) below args s 0 0) (F0 m 35 ls [.int (bI (plainQ (aTk (m_all S) p0) (i + 1)))]) := by
          intro  H locs ls  hX hl
          refine lv_istore_n (lv' := [(2, .int (bI (plainQ (aTk (m_all S) p0) (i + 1)))), (3, .int (nI (i))), (0, .ref (am 0)), (1, .int (nI (p0)))]) hC.1 hC.2.1 dX8_isPlain_35 rfl hl (by decide) rfl (fun ls hl => ?_)
          refine lv_iinc (v := nI (i + 1)) (lv' := [(3, .int (nI (i + 1))), (2, .int (bI (plainQ (aTk (m_all S) p0) (i + 1)))), (0, .ref (am 0)), (1, .int (nI (p0)))]) hC.1 hC.2.1 dX8_isPlain_36 hl (k := 1) rfl (n_inc1 _) (by decide) rfl (fun ls hl => ?_)
          refine lv_goto (tgt := 4) hC.1 hC.2.1 dX8_isPlain_39 (by decide) ?_
          refine ih4 (i + 1) ?_ ?_ _ _ ls hX (lv_sub hl [0, 1, 2, 3] rfl)
          · omega
          · omega
        refine b_if_eq hC (b := plainQ (aTk (m_all S) p0) i) (tgt := 34) dX8_isPlain_14 (by decide) (fun c14 => ?_) (fun c14 => ?_)
        · skip
          refine lv_iconst (v := nI (0)) hC.1 hC.2.1 dX8_isPlain_34 rfl ?_
          refine n_top (y := bI (plainQ (aTk (m_all S) p0) (i + 1))) (by first | exact bI_1 (plainQ_s c14 (by assumption)) | exact bI_0 (plainM_f1 (by assumption)) | exact bI_0 (plainM_f2 c14)) ?_
          refine join35  _ _ ls  hX (lv_sub hl [0, 1, 2, 3] rfl)
        · skip
          refine lv_aload_n hC.1 hC.2.1 dX8_isPlain_17 rfl (lv_at hl 2 rfl) ?_
          refine lv_iload_n hC.1 hC.2.1 dX8_isPlain_18 rfl (lv_at hl 3 rfl) ?_
          refine lv_iload_n hC.1 hC.2.1 dX8_isPlain_19 rfl (lv_at hl 0 rfl) ?_
          refine cv_I (As := [.int (nI (p0)), .int (nI (i))]) (rest := []) hC hK hA hX (c_X8_taking l G am (S) (p0) (i) (by omega) (by omega)) (cwV 2 hC.2.2.2.2 gX8_isPlain_X8_taking rfl rfl rfl hd_X8_taking ⟨Nat.le_of_ble_eq_true rfl, Nat.le_of_ble_eq_true rfl⟩) (ci := 8) (q := (RX8, TX8, 21)) rfl (q0 := 0) rfl dX8_isPlain_20 rfl hl.1 rfl (Nat.le_of_ble_eq_true rfl) ⟨(Nat.zero_le _), (Nat.zero_le _)⟩ (fun r9 S9 H locs hp9 hX => ?_)
          obtain ⟨rfl, hS9⟩ := hp9
          rw [hS9] at hX
          replace hX : HH G A s.heap (wM G am (S)) H locs := hX
          refine ps_I (As := [.int (nI (aTk (m_all S) (p0) (i)))]) (rest := []) hC hK hA hX (c_X8_bits l G (aTk (m_all S) (p0) (i)) (Nat.lt_trans (hK0 i (by omega)) (by decide))) (va_cwS 1 hC.2.2.2.2 gX8_isPlain_X8_bits rfl rfl rfl hd_X8_bits_s ⟨Nat.le_of_ble_eq_true rfl, Nat.le_of_ble_eq_true rfl⟩) dX8_isPlain_23 rfl hl.1 rfl (Nat.le_of_ble_eq_true rfl) ⟨(Nat.zero_le _), (Nat.zero_le _)⟩ (fun r9 S9 H locs hp9 hX => ?_)
          rw [pop31_bc (by first | exact (hK0 i (by omega)))] at hp9
          obtain rfl := hp9
          replace hX : HH G A s.heap (wM G am (S)) H locs := hX
          refine lv_iconst (v := nI (1)) hC.1 hC.2.1 dX8_isPlain_26 rfl ?_
          refine n_icmp_ne hC (a := bcN (aTk (m_all S) (p0) (i))) (b := 1) (tgt := 34) dX8_isPlain_27 (by decide) (Nat.lt_of_le_of_lt Nat.and_le_right (by decide)) (by decide) (fun c27 => ?_) (fun c27 => ?_)
          · skip
            refine lv_iconst (v := nI (0)) hC.1 hC.2.1 dX8_isPlain_34 rfl ?_
            refine n_top (y := bI (plainQ (aTk (m_all S) p0) (i + 1))) (by first | exact bI_1 (plainQ_s c14 (by assumption)) | exact bI_0 (plainM_f1 (by assumption)) | exact bI_0 (plainM_f2 c14)) ?_
            refine join35  _ _ ls  hX (lv_sub hl [0, 1, 2, 3] rfl)
          · skip
            refine lv_iconst (v := nI (1)) hC.1 hC.2.1 dX8_isPlain_30 rfl ?_
            refine lv_goto (tgt := 35) hC.1 hC.2.1 dX8_isPlain_31 (by decide) ?_
            refine n_top (y := bI (plainQ (aTk (m_all S) p0) (i + 1))) (by first | exact bI_1 (plainQ_s c14 (by assumption)) | exact bI_0 (plainM_f1 (by assumption)) | exact bI_0 (plainM_f2 c14)) ?_
            refine join35  _ _ ls  hX (lv_sub hl [0, 1, 2, 3] rfl)
  refine loop4 _ (0) ?_ (Nat.lt_succ_self _) _ _ ls hX (lv_sub hl [0, 1, 2, 3] rfl)
  · omega
theorem hd_X8_bestRank : yX8_bestRank.cls = RX8 ∧ yX8_bestRank.cls ≠ "java/lang/invoke/MethodHandle" ∧ yX8_bestRank.cls ≠ "java/lang/invoke/VarHandle" ∧ (parseMethodDescriptor yX8_bestRank.desc).map (fun d => d.parameters.length) = some 1 := by decide +kernel
theorem fi_X8_firstBest_X8 : ∀ w ∈ wsX80, w ∈ wsX8_firstBest := by decide +kernel
set_option maxHeartbeats 4000000 in
set_option maxRecDepth 100000 in
theorem c_X8_firstBest (l : Launch) (G : GX) (am : Nat → Nat) (S : MS) (hok : okA (m_all S)) (p0 : Nat) (hp0 : p0 < 6) : CtI l yX8_firstBest wsX8_firstBest { frames := 5, cells := 0, slots := 0, locals := 117 } G (wM G am) (S) [.ref (am 0), .int (nI (p0))] (fun r S' => ∃ fw bg ef ne, S' = w_nends (w_endAt (w_begin (w_fewest S fw) bg) ef) ne ∧ LR ef (selAM (m_all S) p0 false) (aLen (m_all S) + 1) ∧ r = if cS (selAM (m_all S) p0 false) (aLen (m_all S) + 1) = 0 then (-5) else nI (ef (argG (gM (m_all S) p0 ef) (cS (selAM (m_all S) p0 false) (aLen (m_all S) + 1))))) 0 0 := by
  refine CtI.of (cc := cX8_firstBest) (maxL := 3) (ret := some .int) (by decide +kernel) rfl (Nat.le_of_ble_eq_true rfl) ?_
  intro p e s m args below meth c ls A hC hr hlk hin hK hA hX hl
  have hl : lv_has ls 3 [(0, .ref (am 0)), (1, .int (nI (p0)))] := hl
  have hokk := hok
  obtain ⟨hLn, hPc, hMs, hTx, hPt⟩ := hok
  obtain ⟨hpl, hbd, htk⟩ := hPt p0 hp0
  refine lv_aload_n hC.1 hC.2.1 dX8_firstBest_0 rfl (lv_at hl 0 rfl) ?_
  refine lv_iload_n hC.1 hC.2.1 dX8_firstBest_1 rfl (lv_at hl 1 rfl) ?_
  refine cv_I (As := [.int (nI (p0))]) (rest := []) hC hK hA hX (c_X8_bestRank l G am (S) hokk (p0) hp0) (cwV 1 hC.2.2.2.2 gX8_firstBest_X8_bestRank rfl rfl rfl hd_X8_bestRank ⟨Nat.le_of_ble_eq_true rfl, Nat.le_of_ble_eq_true rfl⟩) (ci := 8) (q := (RX8, TX8, 21)) rfl (q0 := 0) rfl dX8_firstBest_2 rfl hl.1 rfl (Nat.le_of_ble_eq_true rfl) ⟨(Nat.zero_le _), (Nat.zero_le _)⟩ (fun r9 S9 H locs hp9 hX => ?_)
  obtain ⟨fw2, bg2, ef2, hS9, hLR2, hck2, hr9⟩ := hp9
  rw [hS9] at hX
  replace hX : HH G A s.heap (wM G am (w_nends (w_endAt (w_begin (w_fewest (S) (fw2)) (bg2)) (ef2)) (cS (selAM (m_all S) p0 false) (aLen (m_all S) + 1)))) H locs := hX
  have hcl2 := cS_le (selAM (m_all S) p0 false) (aLen (m_all S) + 1)
  have hes2 : ∀ r, r < cS (selAM (m_all S) p0 false) (aLen (m_all S) + 1) → ef2 r < aLen (m_all S) + 1 ∧ dM (m_all S) p0 (ef2 r) = gM (m_all S) p0 ef2 r := fun r hr => gM_eq hMs hLR2 hr
  by_cases hz9 : cS (selAM (m_all S) p0 false) (aLen (m_all S) + 1) = 0
  · obtain rfl : r9 = (-5) := by rw [hr9, if_pos hz9]
    refine lv_istore_n (lv' := [(2, .int ((-5))), (0, .ref (am 0)), (1, .int (nI (p0)))]) hC.1 hC.2.1 dX8_firstBest_5 rfl hl (by decide) rfl (fun ls hl => ?_)
    refine lv_iload_n hC.1 hC.2.1 dX8_firstBest_6 rfl (lv_at hl 0 rfl) ?_
    refine lv_bipush (v := (-5)) hC.1 hC.2.1 dX8_firstBest_7 (by decide +kernel) ?_
    refine lv_icmp_ne hC.1 hC.2.1 (x := (-5)) (y := (-5)) (tgt := 17) dX8_firstBest_9 (by decide) (fun c9 => by first | exact absurd c9 (by decide) | exact absurd (by decide) c9) (fun c9 => ?_)
    refine lv_bipush (v := (-5)) hC.1 hC.2.1 dX8_firstBest_12 (by decide +kernel) ?_
    refine lv_goto (tgt := 23) hC.1 hC.2.1 dX8_firstBest_14 (by decide) ?_
    refine r_ireturn hC hr hlk hX dX8_firstBest_23 ?_
    refine ⟨fw2, bg2, ef2, _, rfl, hLR2, ?_⟩
    first | (rw [if_pos hz9]; done) | (rw [if_neg hz9]; done) | (rw [if_neg hz9, ← argG_min _ _ (by omega)]; exact congrArg nI hef.2)
  · obtain rfl : r9 = nI (argG (gM (m_all S) p0 ef2) (cS (selAM (m_all S) p0 false) (aLen (m_all S) + 1))) := by rw [hr9, if_neg hz9]
    have hax := argG_lt (gM (m_all S) p0 ef2) (cS (selAM (m_all S) p0 false) (aLen (m_all S) + 1)) (by omega)
    have hef := hes2 _ hax
    refine lv_istore_n (lv' := [(2, .int (nI (argG (gM (m_all S) p0 ef2) (cS (selAM (m_all S) p0 false) (aLen (m_all S) + 1))))), (0, .ref (am 0)), (1, .int (nI (p0)))]) hC.1 hC.2.1 dX8_firstBest_5 rfl hl (by decide) rfl (fun ls hl => ?_)
    refine lv_iload_n hC.1 hC.2.1 dX8_firstBest_6 rfl (lv_at hl 0 rfl) ?_
    refine lv_bipush (v := (-5)) hC.1 hC.2.1 dX8_firstBest_7 (by decide +kernel) ?_
    refine lv_icmp_ne hC.1 hC.2.1 (x := nI (argG (gM (m_all S) p0 ef2) (cS (selAM (m_all S) p0 false) (aLen (m_all S) + 1)))) (y := (-5)) (tgt := 17) dX8_firstBest_9 (by decide) (fun c9 => ?_) (fun c9 => absurd c9 (nI_ne_neg (by omega) (by decide)))
    refine lv_aload_n hC.1 hC.2.1 dX8_firstBest_17 rfl (lv_at hl 1 rfl) ?_
    refine g_m_endAt hC fi_X8_firstBest_X8 hK hX (wd9 hC 1 rfl) dX8_firstBest_18 ?_
    refine lv_iload_n hC.1 hC.2.1 dX8_firstBest_21 rfl (lv_at hl 0 rfl) ?_
    refine l_m_endAt hC hK hX (i := argG (gM (m_all S) p0 ef2) (cS (selAM (m_all S) p0 false) (aLen (m_all S) + 1))) (by omega) dX8_firstBest_22 (v := ef2 (argG (gM (m_all S) p0 ef2) (cS (selAM (m_all S) p0 false) (aLen (m_all S) + 1)))) rfl ?_
    refine r_ireturn hC hr hlk hX dX8_firstBest_23 ?_
    refine ⟨fw2, bg2, ef2, _, rfl, hLR2, ?_⟩
    first | (rw [if_pos hz9]; done) | (rw [if_neg hz9]; done) | (rw [if_neg hz9, ← argG_min _ _ (by omega)]; exact congrArg nI hef.2)
set_option maxHeartbeats 4000000 in
set_option maxRecDepth 100000 in
theorem c_X8_fewestSlips (l : Launch) (G : GX) (am : Nat → Nat) (S : MS) (hok : okA (m_all S)) (p0 : Nat) (hp0 : p0 < 6) : CtI l yX8_fewestSlips wsX8_fewestSlips { frames := 5, cells := 0, slots := 0, locals := 117 } G (wM G am) (S) [.ref (am 0), .int (nI (p0))] (fun r S' => ∃ fw bg ef ne, S' = w_nends (w_endAt (w_begin (w_fewest S fw) bg) ef) ne ∧ LR ef (selAM (m_all S) p0 false) (aLen (m_all S) + 1) ∧ r = if cS (selAM (m_all S) p0 false) (aLen (m_all S) + 1) = 0 then (-5) else nI (minG (gM (m_all S) p0 ef) (cS (selAM (m_all S) p0 false) (aLen (m_all S) + 1)))) 0 0 := by
  refine CtI.of (cc := cX8_fewestSlips) (maxL := 3) (ret := some .int) (by decide +kernel) rfl (Nat.le_of_ble_eq_true rfl) ?_
  intro p e s m args below meth c ls A hC hr hlk hin hK hA hX hl
  have hl : lv_has ls 3 [(0, .ref (am 0)), (1, .int (nI (p0)))] := hl
  have hokk := hok
  obtain ⟨hLn, hPc, hMs, hTx, hPt⟩ := hok
  obtain ⟨hpl, hbd, htk⟩ := hPt p0 hp0
  refine lv_aload_n hC.1 hC.2.1 dX8_fewestSlips_0 rfl (lv_at hl 0 rfl) ?_
  refine lv_iload_n hC.1 hC.2.1 dX8_fewestSlips_1 rfl (lv_at hl 1 rfl) ?_
  refine cv_I (As := [.int (nI (p0))]) (rest := []) hC hK hA hX (c_X8_bestRank l G am (S) hokk (p0) hp0) (cwV 1 hC.2.2.2.2 gX8_fewestSlips_X8_bestRank rfl rfl rfl hd_X8_bestRank ⟨Nat.le_of_ble_eq_true rfl, Nat.le_of_ble_eq_true rfl⟩) (ci := 8) (q := (RX8, TX8, 21)) rfl (q0 := 0) rfl dX8_fewestSlips_2 rfl hl.1 rfl (Nat.le_of_ble_eq_true rfl) ⟨(Nat.zero_le _), (Nat.zero_le _)⟩ (fun r9 S9 H locs hp9 hX => ?_)
  obtain ⟨fw2, bg2, ef2, hS9, hLR2, hck2, hr9⟩ := hp9
  rw [hS9] at hX
  replace hX : HH G A s.heap (wM G am (w_nends (w_endAt (w_begin (w_fewest (S) (fw2)) (bg2)) (ef2)) (cS (selAM (m_all S) p0 false) (aLen (m_all S) + 1)))) H locs := hX
  have hcl2 := cS_le (selAM (m_all S) p0 false) (aLen (m_all S) + 1)
  have hes2 : ∀ r, r < cS (selAM (m_all S) p0 false) (aLen (m_all S) + 1) → ef2 r < aLen (m_all S) + 1 ∧ dM (m_all S) p0 (ef2 r) = gM (m_all S) p0 ef2 r := fun r hr => gM_eq hMs hLR2 hr
  by_cases hz9 : cS (selAM (m_all S) p0 false) (aLen (m_all S) + 1) = 0
  · obtain rfl : r9 = (-5) := by rw [hr9, if_pos hz9]
    refine lv_istore_n (lv' := [(2, .int ((-5))), (0, .ref (am 0)), (1, .int (nI (p0)))]) hC.1 hC.2.1 dX8_fewestSlips_5 rfl hl (by decide) rfl (fun ls hl => ?_)
    refine lv_iload_n hC.1 hC.2.1 dX8_fewestSlips_6 rfl (lv_at hl 0 rfl) ?_
    refine lv_bipush (v := (-5)) hC.1 hC.2.1 dX8_fewestSlips_7 (by decide +kernel) ?_
    refine lv_icmp_ne hC.1 hC.2.1 (x := (-5)) (y := (-5)) (tgt := 17) dX8_fewestSlips_9 (by decide) (fun c9 => by first | exact absurd c9 (by decide) | exact absurd (by decide) c9) (fun c9 => ?_)
    refine lv_bipush (v := (-5)) hC.1 hC.2.1 dX8_fewestSlips_12 (by decide +kernel) ?_
    refine lv_goto (tgt := 23) hC.1 hC.2.1 dX8_fewestSlips_14 (by decide) ?_
    refine r_ireturn hC hr hlk hX dX8_fewestSlips_23 ?_
    refine ⟨fw2, bg2, ef2, _, rfl, hLR2, ?_⟩
    first | (rw [if_pos hz9]; done) | (rw [if_neg hz9]; done) | (rw [if_neg hz9, ← argG_min _ _ (by omega)]; exact congrArg nI hef.2)
  · obtain rfl : r9 = nI (argG (gM (m_all S) p0 ef2) (cS (selAM (m_all S) p0 false) (aLen (m_all S) + 1))) := by rw [hr9, if_neg hz9]
    have hax := argG_lt (gM (m_all S) p0 ef2) (cS (selAM (m_all S) p0 false) (aLen (m_all S) + 1)) (by omega)
    have hef := hes2 _ hax
    refine lv_istore_n (lv' := [(2, .int (nI (argG (gM (m_all S) p0 ef2) (cS (selAM (m_all S) p0 false) (aLen (m_all S) + 1))))), (0, .ref (am 0)), (1, .int (nI (p0)))]) hC.1 hC.2.1 dX8_fewestSlips_5 rfl hl (by decide) rfl (fun ls hl => ?_)
    refine lv_iload_n hC.1 hC.2.1 dX8_fewestSlips_6 rfl (lv_at hl 0 rfl) ?_
    refine lv_bipush (v := (-5)) hC.1 hC.2.1 dX8_fewestSlips_7 (by decide +kernel) ?_
    refine lv_icmp_ne hC.1 hC.2.1 (x := nI (argG (gM (m_all S) p0 ef2) (cS (selAM (m_all S) p0 false) (aLen (m_all S) + 1)))) (y := (-5)) (tgt := 17) dX8_fewestSlips_9 (by decide) (fun c9 => ?_) (fun c9 => absurd c9 (nI_ne_neg (by omega) (by decide)))
    refine lv_aload_n hC.1 hC.2.1 dX8_fewestSlips_17 rfl (lv_at hl 1 rfl) ?_
    refine lv_iload_n hC.1 hC.2.1 dX8_fewestSlips_18 rfl (lv_at hl 2 rfl) ?_
    refine lv_iload_n hC.1 hC.2.1 dX8_fewestSlips_19 rfl (lv_at hl 0 rfl) ?_
    refine cv_I (As := [.int (nI (p0)), .int (nI (argG (gM (m_all S) p0 ef2) (cS (selAM (m_all S) p0 false) (aLen (m_all S) + 1))))]) (rest := []) hC hK hA hX (c_X8_slipsOf l G am (w_nends (w_endAt (w_begin (w_fewest (S) (fw2)) (bg2)) (ef2)) (cS (selAM (m_all S) p0 false) (aLen (m_all S) + 1))) (p0) (argG (gM (m_all S) p0 ef2) (cS (selAM (m_all S) p0 false) (aLen (m_all S) + 1))) (kM (m_all S) (p0) ((ef2) (argG (gM (m_all S) p0 ef2) (cS (selAM (m_all S) p0 false) (aLen (m_all S) + 1))))) hp0 hpl (by omega) (show ef2 (argG (gM (m_all S) p0 ef2) (cS (selAM (m_all S) p0 false) (aLen (m_all S) + 1))) ≤ 120 from by omega) (hck2 (ef2 (argG (gM (m_all S) p0 ef2) (cS (selAM (m_all S) p0 false) (aLen (m_all S) + 1)))) (by omega))) (cwV 2 hC.2.2.2.2 gX8_fewestSlips_X8_slipsOf rfl rfl rfl hd_X8_slipsOf ⟨Nat.le_of_ble_eq_true rfl, Nat.le_of_ble_eq_true rfl⟩) (ci := 8) (q := (RX8, TX8, 21)) rfl (q0 := 0) rfl dX8_fewestSlips_20 rfl hl.1 rfl (Nat.le_of_ble_eq_true rfl) ⟨(Nat.zero_le _), (Nat.zero_le _)⟩ (fun r9 S9 H locs hp9 hX => ?_)
    obtain ⟨h9, hS9⟩ := hp9
    rw [hS9] at hX
    obtain rfl : r9 = nI (dM (m_all S) (p0) ((ef2) (argG (gM (m_all S) p0 ef2) (cS (selAM (m_all S) p0 false) (aLen (m_all S) + 1))))) := h9
    replace hX : HH G A s.heap (wM G am (w_nends (w_endAt (w_begin (w_fewest (S) (fw2)) (bg2)) (ef2)) (cS (selAM (m_all S) p0 false) (aLen (m_all S) + 1)))) H locs := hX
    refine r_ireturn hC hr hlk hX dX8_fewestSlips_23 ?_
    refine ⟨fw2, bg2, ef2, _, rfl, hLR2, ?_⟩
    first | (rw [if_pos hz9]; done) | (rw [if_neg hz9]; done) | (rw [if_neg hz9, ← argG_min _ _ (by omega)]; exact congrArg nI hef.2)
theorem fi_X8_densityOf_X8 : ∀ w ∈ wsX80, w ∈ wsX8_densityOf := by decide +kernel
set_option maxHeartbeats 4000000 in
set_option maxRecDepth 100000 in
theorem c_X8_densityOf (l : Launch) (G : GX) (am : Nat → Nat) (S : MS) (hok : okA (m_all S)) (p0 : Nat) (hp0 : p0 < 6) : CtD l yX8_densityOf wsX8_densityOf { frames := 4, cells := 0, slots := 0, locals := 94 } G (wM G am) (S) [.ref (am 0), .int (nI (p0))] (fun r S' => ∃ fw bg ef ne, S' = w_nends (w_endAt (w_begin (w_fewest S fw) bg) ef) ne ∧ LR ef (selAM (m_all S) p0 false) (aLen (m_all S) + 1) ∧ r = FP.ddiv (shS (gM (m_all S) p0 ef) (cS (selAM (m_all S) p0 false) (aLen (m_all S) + 1))) (FP.i2d (nI (aLen (m_all S) + 1)))) 0 0 := by
  refine CtD.of (cc := cX8_densityOf) (maxL := 5) (ret := some .double) (by decide +kernel) rfl (Nat.le_of_ble_eq_true rfl) ?_
  intro p e s m args below meth c ls A hC hr hlk hin hK hA hX hl
  have hl : lv_has ls 5 [(0, .ref (am 0)), (1, .int (nI (p0)))] := hl
  have hokk := hok
  obtain ⟨hLn, hPc, hMs, hTx, hPt⟩ := hok
  obtain ⟨hpl, hbd, htk⟩ := hPt p0 hp0
  refine lv_aload_n hC.1 hC.2.1 dX8_densityOf_0 rfl (lv_at hl 0 rfl) ?_
  refine lv_iload_n hC.1 hC.2.1 dX8_densityOf_1 rfl (lv_at hl 1 rfl) ?_
  refine lv_iconst (v := nI (0)) hC.1 hC.2.1 dX8_densityOf_2 rfl ?_
  refine cv_V (As := [.int (nI (p0)), .int (nI (0))]) (rest := []) hC hK hA hX (c_X8_findsEnds l G am (S) hokk (p0) hp0 false) (cwV 2 hC.2.2.2.2 gX8_densityOf_X8_findsEnds rfl rfl rfl hd_X8_findsEnds ⟨Nat.le_of_ble_eq_true rfl, Nat.le_of_ble_eq_true rfl⟩) (ci := 8) (q := (RX8, TX8, 21)) rfl (q0 := 0) rfl dX8_densityOf_3 rfl hl.1 rfl (Nat.le_of_ble_eq_true rfl) ⟨(Nat.zero_le _), (Nat.zero_le _)⟩ (fun S9 H locs hp9 hX => ?_)
  obtain ⟨fw3, bg3, ef3, hS9, hLR3, hck3⟩ := hp9
  rw [hS9] at hX
  replace hX : HH G A s.heap (wM G am (w_nends (w_endAt (w_begin (w_fewest (S) (fw3)) (bg3)) (ef3)) (cS (selAM (m_all S) (p0) false) (aLen (m_all S) + 1)))) H locs := hX
  replace hLR3 : LR ef3 (selAM (m_all S) (p0) false) (aLen (m_all S) + 1) := hLR3
  replace hck3 : ∀ ee, ee ≤ aLen (m_all S) → cellK fw3 bg3 (121 * aPl (m_all S) (p0) + ee) (kM (m_all S) (p0) ee) := hck3
  have hcl3 := cS_le (selAM (m_all S) (p0) false) (aLen (m_all S) + 1)
  have hes3 : ∀ r, r < cS (selAM (m_all S) (p0) false) (aLen (m_all S) + 1) → ef3 r < aLen (m_all S) + 1 ∧ dM (m_all S) (p0) (ef3 r) = gM (m_all S) (p0) ef3 r := fun r hr => gM_eq hMs hLR3 hr
  refine lv_dconst0 hC.1 hC.2.1 dX8_densityOf_6 ?_
  refine lv_dstore_n (lv' := [(2, .double (FP.dconst0)), (0, .ref (am 0)), (1, .int (nI (p0)))]) hC.1 hC.2.1 dX8_densityOf_7 rfl hl (by decide) rfl (fun ls hl => ?_)
  refine lv_iconst (v := nI (0)) hC.1 hC.2.1 dX8_densityOf_8 rfl ?_
  refine lv_istore (lv' := [(4, .int (nI (0))), (2, .double (FP.dconst0)), (0, .ref (am 0)), (1, .int (nI (p0)))]) hC.1 hC.2.1 dX8_densityOf_9 hl (by decide) rfl (fun ls hl => ?_)
  have loop11 : ∀ (n9 : Nat) (i : Nat), (i ≤ cS (selAM (m_all S) p0 false) (aLen (m_all S) + 1)) → cS (selAM (m_all S) p0 false) (aLen (m_all S) + 1) - i < n9 → ∀ (H : Heap) (locs : List Loc) (ls : Array Slot), HH G A s.heap (wM G am (w_nends (w_endAt (w_begin (w_fewest (S) (fw3)) (bg3)) (ef3)) (cS (selAM (m_all S) (p0) false) (aLen (m_all S) + 1)))) H locs → lv_has ls 5 [(4, .int (nI (i))), (2, .double (shS (gM (m_all S) p0 ef3) i)), (0, .ref (am 0)), (1, .int (nI (p0)))] → W p l e { frames := 4, cells := 0, slots := 0, locals := 94 } s m args below meth c H locs 0 0 (EndD G (wM G am) A (fun r S' => ∃ fw bg ef ne, S' = w_nends (w_endAt (w_begin (w_fewest S fw) bg) ef) ne ∧ LR ef (selAM (m_all S) p0 false) (aLen (m_all S) + 1) ∧ r = FP.ddiv (shS (gM (m_all S) p0 ef) (cS (selAM (m_all S) p0 false) (aLen (m_all S) + 1))) (FP.i2d (nI (aLen (m_all S) + 1)))) below args s 0 0) (F0 m 11 ls []) := by
    intro n9
    induction n9 with
    | zero => intro i hi hn9; exact absurd hn9 (Nat.not_lt_zero _)
    | succ n9 ih11 =>
      intro i hi hn9 H locs ls hX hl
      have hgi := gM_4 (m_all S) p0 ef3 i
      refine lv_iload hC.1 hC.2.1 dX8_densityOf_11 (lv_at hl 0 rfl) ?_
      refine lv_aload_n hC.1 hC.2.1 dX8_densityOf_13 rfl (lv_at hl 2 rfl) ?_
      refine g_m_nends hC fi_X8_densityOf_X8 hK hX (wd9 hC 1 rfl) dX8_densityOf_14 (v := cS (selAM (m_all S) (p0) false) (aLen (m_all S) + 1)) rfl ?_
      refine n_icmp_ge hC (a := i) (b := cS (selAM (m_all S) (p0) false) (aLen (m_all S) + 1)) (tgt := 41) dX8_densityOf_17 (by decide) (by omega) (by omega) (fun c17 => ?_) (fun c17 => ?_)
      · skip
        refine lv_dload_n hC.1 hC.2.1 dX8_densityOf_41 rfl (lv_at hl 1 rfl) ?_
        refine lv_aload_n hC.1 hC.2.1 dX8_densityOf_42 rfl (lv_at hl 2 rfl) ?_
        refine g_m_all hC fi_X8_densityOf_X8 hK hX (wd9 hC 2 rfl) dX8_densityOf_43 ?_
        refine lv_iconst (v := nI (0)) hC.1 hC.2.1 dX8_densityOf_46 rfl ?_
        refine l_m_all hC hK hX (i := 0) (by decide) dX8_densityOf_47 (v := aLen (m_all S)) rfl ?_
        refine lv_iconst (v := nI (1)) hC.1 hC.2.1 dX8_densityOf_48 rfl ?_
        refine n_add hC (a := aLen (m_all S)) (b := 1) dX8_densityOf_49 ?_
        refine lv_i2d hC.1 hC.2.1 dX8_densityOf_50 ?_
        refine lv_ddiv hC.1 hC.2.1 dX8_densityOf_51 (vf64_of (FP.Core.ddiv_out (shS_ok (gM_4 (m_all S) p0 ef3) _) (FP.Core.i2d_fin _) (i2d_nz (by omega) (by omega)))) ?_
        refine r_dreturn hC hr hlk hX dX8_densityOf_52 ?_
        obtain rfl : i = cS (selAM (m_all S) p0 false) (aLen (m_all S) + 1) := by omega
        exact ⟨fw3, bg3, ef3, _, rfl, hLR3, rfl⟩
      · skip
        have hef := hes3 i (by omega)
        refine lv_dload_n hC.1 hC.2.1 dX8_densityOf_20 rfl (lv_at hl 1 rfl) ?_
        refine lv_dconst1 hC.1 hC.2.1 dX8_densityOf_21 ?_
        refine lv_iconst (v := nI (1)) hC.1 hC.2.1 dX8_densityOf_22 rfl ?_
        refine lv_aload_n hC.1 hC.2.1 dX8_densityOf_23 rfl (lv_at hl 2 rfl) ?_
        refine lv_iload_n hC.1 hC.2.1 dX8_densityOf_24 rfl (lv_at hl 3 rfl) ?_
        refine lv_iload hC.1 hC.2.1 dX8_densityOf_25 (lv_at hl 0 rfl) ?_
        refine cv_I (As := [.int (nI (p0)), .int (nI (i))]) (rest := [.int (nI (1)), .double (FP.dconst1), .double (shS (gM (m_all S) p0 ef3) i)]) hC hK hA hX (c_X8_slipsOf l G am (w_nends (w_endAt (w_begin (w_fewest (S) (fw3)) (bg3)) (ef3)) (cS (selAM (m_all S) (p0) false) (aLen (m_all S) + 1))) (p0) (i) (kM (m_all S) (p0) ((ef3) (i))) hp0 hpl (by omega) (show ef3 i ≤ 120 from by omega) (hck3 (ef3 i) (by omega))) (cwV 2 hC.2.2.2.2 gX8_densityOf_X8_slipsOf rfl rfl rfl hd_X8_slipsOf ⟨Nat.le_of_ble_eq_true rfl, Nat.le_of_ble_eq_true rfl⟩) (ci := 8) (q := (RX8, TX8, 21)) rfl (q0 := 0) rfl dX8_densityOf_27 rfl hl.1 rfl (Nat.le_of_ble_eq_true rfl) ⟨(Nat.zero_le _), (Nat.zero_le _)⟩ (fun r9 S9 H locs hp9 hX => ?_)
        obtain ⟨h9, hS9⟩ := hp9
        rw [hS9] at hX
        obtain rfl : r9 = nI (dM (m_all S) (p0) ((ef3) (i))) := h9
        replace hX : HH G A s.heap (wM G am (w_nends (w_endAt (w_begin (w_fewest (S) (fw3)) (bg3)) (ef3)) (cS (selAM (m_all S) (p0) false) (aLen (m_all S) + 1)))) H locs := hX
        refine n_top (y := nI ((gM (m_all S) p0 ef3) i)) (congrArg nI hef.2) ?_
        refine n_add hC (a := 1) (b := (gM (m_all S) p0 ef3) i) dX8_densityOf_30 ?_
        refine lv_i2d hC.1 hC.2.1 dX8_densityOf_31 ?_
        refine lv_ddiv hC.1 hC.2.1 dX8_densityOf_32 (vf64_of (share_ok hgi)) ?_
        refine lv_dadd hC.1 hC.2.1 dX8_densityOf_33 (vf64_of (shS_ok (gM_4 (m_all S) p0 ef3) (i + 1))) ?_
        refine lv_dstore_n (lv' := [(2, .double (FP.dadd (shS (gM (m_all S) p0 ef3) i) (FP.ddiv (FP.dconst1) (FP.i2d (nI ((1) + ((gM (m_all S) p0 ef3) i))))))), (4, .int (nI (i))), (0, .ref (am 0)), (1, .int (nI (p0)))]) hC.1 hC.2.1 dX8_densityOf_34 rfl hl (by decide) rfl (fun ls hl => ?_)
        refine lv_iinc (v := nI (i + 1)) (lv' := [(4, .int (nI (i + 1))), (2, .double (FP.dadd (shS (gM (m_all S) p0 ef3) i) (FP.ddiv (FP.dconst1) (FP.i2d (nI ((1) + ((gM (m_all S) p0 ef3) i))))))), (0, .ref (am 0)), (1, .int (nI (p0)))]) hC.1 hC.2.1 dX8_densityOf_35 hl (k := 1) rfl (n_inc1 _) (by decide) rfl (fun ls hl => ?_)
        refine lv_goto (tgt := 11) hC.1 hC.2.1 dX8_densityOf_38 (by decide) ?_
        refine ih11 (i + 1) ?_ ?_ _ _ ls hX (lv_sub hl [0, 1, 2, 3] rfl)
        · omega
        · omega
  refine loop11 _ (0) ?_ (Nat.lt_succ_self _) _ _ ls hX (lv_sub hl [0, 1, 2, 3] rfl)
  · omega
theorem fi_X8_acted_X8 : ∀ w ∈ wsX80, w ∈ wsX8_acted := by decide +kernel
set_option maxHeartbeats 4000000 in
set_option maxRecDepth 100000 in
theorem c_X8_acted (l : Launch) (G : GX) (am : Nat → Nat) (S : MS) (hh0 : m_hlong S ≤ 4) (v0 : Int32) : CtI l yX8_acted wsX8_acted { frames := 0, cells := 0, slots := 0, locals := 0 } G (wM G am) (S) [.ref (am 0), .int (v0)] (fun r S' => r = v0 ∧ ∃ h, S' = w_hlong (w_hist S h) (mHl S + 1) ∧ recM S h) 0 0 := by
  refine CtI.of (cc := cX8_acted) (maxL := 3) (ret := some .int) (by decide +kernel) rfl (Nat.le_of_ble_eq_true rfl) ?_
  intro p e s m args below meth c ls A hC hr hlk hin hK hA hX hl
  have hl : lv_has ls 3 [(0, .ref (am 0)), (1, .int (v0))] := hl
  refine lv_aload_n hC.1 hC.2.1 dX8_acted_0 rfl (lv_at hl 0 rfl) ?_
  refine g_m_hlong hC fi_X8_acted_X8 hK hX (wd9 hC 1 rfl) dX8_acted_1 (v := m_hlong S) rfl ?_
  refine lv_iconst (v := nI (4)) hC.1 hC.2.1 dX8_acted_4 rfl ?_
  refine n_icmp_ne hC (a := m_hlong S) (b := 4) (tgt := 49) dX8_acted_5 (by decide) (by omega) (by decide) (fun c5 => ?_) (fun c5 => ?_)
  · skip
    refine lv_iconst (v := nI (0)) hC.1 hC.2.1 dX8_acted_49 rfl ?_
    refine lv_istore_n (lv' := [(2, .int (nI (0))), (0, .ref (am 0)), (1, .int (v0))]) hC.1 hC.2.1 dX8_acted_50 rfl hl (by decide) rfl (fun ls hl => ?_)
    have loop51 : ∀ (n9 : Nat) (k : Nat) (f3 : Nat → Nat) (g : Nat), (k ≤ 496) → (g = mHl S) → (g ≤ 3) → (∀ j i, j < g → i < 496 → f3 (496 * j + i) = m_hist S (496 * (j + mHd S) + i)) → (∀ i, i < k → f3 (496 * g + i) = m_kept S i) → 496 - k < n9 → ∀ (H : Heap) (locs : List Loc) (ls : Array Slot), HH G A s.heap (wM G am (w_hlong (w_hist (S) (f3)) (g))) H locs → lv_has ls 3 [(2, .int (nI (k))), (0, .ref (am 0)), (1, .int (v0))] → W p l e { frames := 0, cells := 0, slots := 0, locals := 0 } s m args below meth c H locs 0 0 (EndI G (wM G am) A (fun r S' => r = v0 ∧ ∃ h, S' = w_hlong (w_hist S h) (mHl S + 1) ∧ recM S h) below args s 0 0) (F0 m 51 ls []) := by
      intro n9
      induction n9 with
      | zero => intro k f3 g hk hg hg3 hf3 hf4 hn9; exact absurd hn9 (Nat.not_lt_zero _)
      | succ n9 ih51 =>
        intro k f3 g hk hg hg3 hf3 hf4 hn9 H locs ls hX hl
        refine lv_iload_n hC.1 hC.2.1 dX8_acted_51 rfl (lv_at hl 0 rfl) ?_
        refine lv_sipush (v := nI (496)) hC.1 hC.2.1 dX8_acted_52 (by decide +kernel) ?_
        refine n_icmp_ge hC (a := k) (b := 496) (tgt := 85) dX8_acted_55 (by decide) (by omega) (by decide) (fun c55 => ?_) (fun c55 => ?_)
        · skip
          refine lv_aload_n hC.1 hC.2.1 dX8_acted_85 rfl (lv_at hl 1 rfl) ?_
          refine lv_dup hC.1 hC.2.1 dX8_acted_86 rfl ?_
          refine g_m_hlong hC fi_X8_acted_X8 hK hX (wd9 hC 1 rfl) dX8_acted_87 (v := g) rfl ?_
          refine lv_iconst (v := nI (1)) hC.1 hC.2.1 dX8_acted_90 rfl ?_
          refine n_add hC (a := g) (b := 1) dX8_acted_91 ?_
          refine p_m_hlong hC fi_X8_acted_X8 hK hX (v := g + 1) (wd9 hC 1 rfl) dX8_acted_92 (fun H locs hX => ?_)
          replace hX : HH G A s.heap (wM G am (w_hlong (w_hist (S) (f3)) (g + 1))) H locs := hX
          refine lv_iload_n hC.1 hC.2.1 dX8_acted_95 rfl (lv_at hl 2 rfl) ?_
          refine r_ireturn hC hr hlk hX dX8_acted_96 ?_
          obtain rfl : k = 496 := by omega
          subst hg
          exact ⟨rfl, f3, rfl, hf3, hf4⟩
        · skip
          refine lv_aload_n hC.1 hC.2.1 dX8_acted_58 rfl (lv_at hl 1 rfl) ?_
          refine g_m_hist hC fi_X8_acted_X8 hK hX (wd9 hC 2 rfl) dX8_acted_59 ?_
          refine lv_sipush (v := nI (496)) hC.1 hC.2.1 dX8_acted_62 (by decide +kernel) ?_
          refine lv_aload_n hC.1 hC.2.1 dX8_acted_65 rfl (lv_at hl 1 rfl) ?_
          refine g_m_hlong hC fi_X8_acted_X8 hK hX (wd9 hC 1 rfl) dX8_acted_66 (v := g) rfl ?_
          refine n_mul hC (a := 496) (b := g) dX8_acted_69 ?_
          refine lv_iload_n hC.1 hC.2.1 dX8_acted_70 rfl (lv_at hl 0 rfl) ?_
          refine n_add hC (a := 496 * g) (b := k) dX8_acted_71 ?_
          refine lv_aload_n hC.1 hC.2.1 dX8_acted_72 rfl (lv_at hl 1 rfl) ?_
          refine g_m_kept hC fi_X8_acted_X8 hK hX (wd9 hC 3 rfl) dX8_acted_73 ?_
          refine lv_iload_n hC.1 hC.2.1 dX8_acted_76 rfl (lv_at hl 0 rfl) ?_
          refine l_m_kept hC hK hX (i := k) (by omega) dX8_acted_77 (v := (m_kept S) k) rfl ?_
          refine s_m_hist hC hK hX (i := (496 * g) + (k)) (v := (m_kept S) k) (by omega) dX8_acted_78 (fun H locs hX => ?_)
          replace hX : HH G A s.heap (wM G am (w_hlong (w_hist (S) (va_up (f3) ((496 * g) + (k)) ((m_kept S) k))) (g))) H locs := hX
          refine lv_iinc (v := nI (k + 1)) (lv' := [(2, .int (nI (k + 1))), (0, .ref (am 0)), (1, .int (v0))]) hC.1 hC.2.1 dX8_acted_79 hl (k := 0) rfl (n_inc1 _) (by decide) rfl (fun ls hl => ?_)
          refine lv_goto (tgt := 51) hC.1 hC.2.1 dX8_acted_82 (by decide) ?_
          refine ih51 (k + 1) (va_up (f3) ((496 * g) + (k)) ((m_kept S) k)) (g) ?_ ?_ ?_ ?_ ?_ ?_ _ _ ls hX (lv_sub hl [0, 1, 2] rfl)
          · omega
          · exact hg
          · omega
          · exact fun j i9 h1 h2 => by rw [va_up_ne _ _ (by omega)]; exact hf3 j i9 h1 h2
          · exact fun j hj => by
              by_cases h : j = k
              · subst h; exact va_up_self _ _ _
              · rw [va_up_ne _ _ (by omega)]; exact hf4 j (by omega)
          · omega
    refine loop51 _ (0) (m_hist S) (m_hlong S) ?_ ?_ ?_ ?_ ?_ (Nat.lt_succ_self _) _ _ ls hX (lv_sub hl [0, 1, 2] rfl)
    · omega
    · unfold mHl; rw [if_neg c5]
    · omega
    · exact fun j i9 h1 h2 => by
        unfold mHd; rw [if_neg c5]; rfl
    · exact fun j h => absurd h (Nat.not_lt_zero _)
  · skip
    refine lv_iconst (v := nI (0)) hC.1 hC.2.1 dX8_acted_8 rfl ?_
    refine lv_istore_n (lv' := [(2, .int (nI (0))), (0, .ref (am 0)), (1, .int (v0))]) hC.1 hC.2.1 dX8_acted_9 rfl hl (by decide) rfl (fun ls hl => ?_)
    have loop10 : ∀ (n9 : Nat) (i : Nat) (f : Nat → Nat), (i ≤ 1488) → (∀ j, j < i → f j = m_hist S (j + 496)) → (∀ j, i ≤ j → f j = m_hist S j) → 1488 - i < n9 → ∀ (H : Heap) (locs : List Loc) (ls : Array Slot), HH G A s.heap (wM G am (w_hist (S) (f))) H locs → lv_has ls 3 [(2, .int (nI (i))), (0, .ref (am 0)), (1, .int (v0))] → W p l e { frames := 0, cells := 0, slots := 0, locals := 0 } s m args below meth c H locs 0 0 (EndI G (wM G am) A (fun r S' => r = v0 ∧ ∃ h, S' = w_hlong (w_hist S h) (mHl S + 1) ∧ recM S h) below args s 0 0) (F0 m 10 ls []) := by
      intro n9
      induction n9 with
      | zero => intro i f hi hf hf2 hn9; exact absurd hn9 (Nat.not_lt_zero _)
      | succ n9 ih10 =>
        intro i f hi hf hf2 hn9 H locs ls hX hl
        refine lv_iload_n hC.1 hC.2.1 dX8_acted_10 rfl (lv_at hl 0 rfl) ?_
        refine lv_sipush (v := nI (1488)) hC.1 hC.2.1 dX8_acted_11 (by decide +kernel) ?_
        refine n_icmp_ge hC (a := i) (b := 1488) (tgt := 39) dX8_acted_14 (by decide) (by omega) (by decide) (fun c14 => ?_) (fun c14 => ?_)
        · skip
          refine lv_aload_n hC.1 hC.2.1 dX8_acted_39 rfl (lv_at hl 1 rfl) ?_
          refine lv_dup hC.1 hC.2.1 dX8_acted_40 rfl ?_
          refine g_m_hlong hC fi_X8_acted_X8 hK hX (wd9 hC 1 rfl) dX8_acted_41 (v := m_hlong S) rfl ?_
          refine lv_iconst (v := nI (1)) hC.1 hC.2.1 dX8_acted_44 rfl ?_
          refine n_sub hC (a := m_hlong S) (b := 1) dX8_acted_45 (by omega) ?_
          refine p_m_hlong hC fi_X8_acted_X8 hK hX (v := (m_hlong S) - (1)) (wd9 hC 1 rfl) dX8_acted_46 (fun H locs hX => ?_)
          replace hX : HH G A s.heap (wM G am (w_hlong (w_hist (S) (f)) ((m_hlong S) - (1)))) H locs := hX
          refine lv_iconst (v := nI (0)) hC.1 hC.2.1 dX8_acted_49 rfl ?_
          refine lv_istore_n (lv' := [(2, .int (nI (0))), (0, .ref (am 0)), (1, .int (v0))]) hC.1 hC.2.1 dX8_acted_50 rfl hl (by decide) rfl (fun ls hl => ?_)
          have loop51 : ∀ (n9 : Nat) (k : Nat) (f3 : Nat → Nat) (g : Nat), (k ≤ 496) → (g = mHl S) → (g ≤ 3) → (∀ j i, j < g → i < 496 → f3 (496 * j + i) = m_hist S (496 * (j + mHd S) + i)) → (∀ i, i < k → f3 (496 * g + i) = m_kept S i) → 496 - k < n9 → ∀ (H : Heap) (locs : List Loc) (ls : Array Slot), HH G A s.heap (wM G am (w_hlong (w_hist (S) (f3)) (g))) H locs → lv_has ls 3 [(2, .int (nI (k))), (0, .ref (am 0)), (1, .int (v0))] → W p l e { frames := 0, cells := 0, slots := 0, locals := 0 } s m args below meth c H locs 0 0 (EndI G (wM G am) A (fun r S' => r = v0 ∧ ∃ h, S' = w_hlong (w_hist S h) (mHl S + 1) ∧ recM S h) below args s 0 0) (F0 m 51 ls []) := by
            intro n9
            induction n9 with
            | zero => intro k f3 g hk hg hg3 hf3 hf4 hn9; exact absurd hn9 (Nat.not_lt_zero _)
            | succ n9 ih51 =>
              intro k f3 g hk hg hg3 hf3 hf4 hn9 H locs ls hX hl
              refine lv_iload_n hC.1 hC.2.1 dX8_acted_51 rfl (lv_at hl 0 rfl) ?_
              refine lv_sipush (v := nI (496)) hC.1 hC.2.1 dX8_acted_52 (by decide +kernel) ?_
              refine n_icmp_ge hC (a := k) (b := 496) (tgt := 85) dX8_acted_55 (by decide) (by omega) (by decide) (fun c55 => ?_) (fun c55 => ?_)
              · skip
                refine lv_aload_n hC.1 hC.2.1 dX8_acted_85 rfl (lv_at hl 1 rfl) ?_
                refine lv_dup hC.1 hC.2.1 dX8_acted_86 rfl ?_
                refine g_m_hlong hC fi_X8_acted_X8 hK hX (wd9 hC 1 rfl) dX8_acted_87 (v := g) rfl ?_
                refine lv_iconst (v := nI (1)) hC.1 hC.2.1 dX8_acted_90 rfl ?_
                refine n_add hC (a := g) (b := 1) dX8_acted_91 ?_
                refine p_m_hlong hC fi_X8_acted_X8 hK hX (v := g + 1) (wd9 hC 1 rfl) dX8_acted_92 (fun H locs hX => ?_)
                replace hX : HH G A s.heap (wM G am (w_hlong (w_hist (S) (f3)) (g + 1))) H locs := hX
                refine lv_iload_n hC.1 hC.2.1 dX8_acted_95 rfl (lv_at hl 2 rfl) ?_
                refine r_ireturn hC hr hlk hX dX8_acted_96 ?_
                obtain rfl : k = 496 := by omega
                subst hg
                exact ⟨rfl, f3, rfl, hf3, hf4⟩
              · skip
                refine lv_aload_n hC.1 hC.2.1 dX8_acted_58 rfl (lv_at hl 1 rfl) ?_
                refine g_m_hist hC fi_X8_acted_X8 hK hX (wd9 hC 2 rfl) dX8_acted_59 ?_
                refine lv_sipush (v := nI (496)) hC.1 hC.2.1 dX8_acted_62 (by decide +kernel) ?_
                refine lv_aload_n hC.1 hC.2.1 dX8_acted_65 rfl (lv_at hl 1 rfl) ?_
                refine g_m_hlong hC fi_X8_acted_X8 hK hX (wd9 hC 1 rfl) dX8_acted_66 (v := g) rfl ?_
                refine n_mul hC (a := 496) (b := g) dX8_acted_69 ?_
                refine lv_iload_n hC.1 hC.2.1 dX8_acted_70 rfl (lv_at hl 0 rfl) ?_
                refine n_add hC (a := 496 * g) (b := k) dX8_acted_71 ?_
                refine lv_aload_n hC.1 hC.2.1 dX8_acted_72 rfl (lv_at hl 1 rfl) ?_
                refine g_m_kept hC fi_X8_acted_X8 hK hX (wd9 hC 3 rfl) dX8_acted_73 ?_
                refine lv_iload_n hC.1 hC.2.1 dX8_acted_76 rfl (lv_at hl 0 rfl) ?_
                refine l_m_kept hC hK hX (i := k) (by omega) dX8_acted_77 (v := (m_kept S) k) rfl ?_
                refine s_m_hist hC hK hX (i := (496 * g) + (k)) (v := (m_kept S) k) (by omega) dX8_acted_78 (fun H locs hX => ?_)
                replace hX : HH G A s.heap (wM G am (w_hlong (w_hist (S) (va_up (f3) ((496 * g) + (k)) ((m_kept S) k))) (g))) H locs := hX
                refine lv_iinc (v := nI (k + 1)) (lv' := [(2, .int (nI (k + 1))), (0, .ref (am 0)), (1, .int (v0))]) hC.1 hC.2.1 dX8_acted_79 hl (k := 0) rfl (n_inc1 _) (by decide) rfl (fun ls hl => ?_)
                refine lv_goto (tgt := 51) hC.1 hC.2.1 dX8_acted_82 (by decide) ?_
                refine ih51 (k + 1) (va_up (f3) ((496 * g) + (k)) ((m_kept S) k)) (g) ?_ ?_ ?_ ?_ ?_ ?_ _ _ ls hX (lv_sub hl [0, 1, 2] rfl)
                · omega
                · exact hg
                · omega
                · exact fun j i9 h1 h2 => by rw [va_up_ne _ _ (by omega)]; exact hf3 j i9 h1 h2
                · exact fun j hj => by
                    by_cases h : j = k
                    · subst h; exact va_up_self _ _ _
                    · rw [va_up_ne _ _ (by omega)]; exact hf4 j (by omega)
                · omega
          refine loop51 _ (0) (f) ((m_hlong S) - (1)) ?_ ?_ ?_ ?_ ?_ (Nat.lt_succ_self _) _ _ ls hX (lv_sub hl [0, 1, 2] rfl)
          · omega
          · unfold mHl; rw [if_pos c5]; omega
          · omega
          · exact fun j i9 h1 h2 => by
              unfold mHd; rw [if_pos c5, hf _ (by omega)]; exact congrArg _ (by omega)
          · exact fun j h => absurd h (Nat.not_lt_zero _)
        · skip
          refine lv_aload_n hC.1 hC.2.1 dX8_acted_17 rfl (lv_at hl 1 rfl) ?_
          refine g_m_hist hC fi_X8_acted_X8 hK hX (wd9 hC 2 rfl) dX8_acted_18 ?_
          refine lv_iload_n hC.1 hC.2.1 dX8_acted_21 rfl (lv_at hl 0 rfl) ?_
          refine lv_aload_n hC.1 hC.2.1 dX8_acted_22 rfl (lv_at hl 1 rfl) ?_
          refine g_m_hist hC fi_X8_acted_X8 hK hX (wd9 hC 2 rfl) dX8_acted_23 ?_
          refine lv_iload_n hC.1 hC.2.1 dX8_acted_26 rfl (lv_at hl 0 rfl) ?_
          refine lv_sipush (v := nI (496)) hC.1 hC.2.1 dX8_acted_27 (by decide +kernel) ?_
          refine n_add hC (a := i) (b := 496) dX8_acted_30 ?_
          refine l_m_hist hC hK hX (i := i + 496) (by omega) dX8_acted_31 (v := f (i + 496)) rfl ?_
          refine s_m_hist hC hK hX (i := i) (v := f (i + 496)) (by omega) dX8_acted_32 (fun H locs hX => ?_)
          replace hX : HH G A s.heap (wM G am (w_hist (S) (va_up (f) (i) (f (i + 496))))) H locs := hX
          refine lv_iinc (v := nI (i + 1)) (lv' := [(2, .int (nI (i + 1))), (0, .ref (am 0)), (1, .int (v0))]) hC.1 hC.2.1 dX8_acted_33 hl (k := 0) rfl (n_inc1 _) (by decide) rfl (fun ls hl => ?_)
          refine lv_goto (tgt := 10) hC.1 hC.2.1 dX8_acted_36 (by decide) ?_
          refine ih10 (i + 1) (va_up (f) (i) (f (i + 496))) ?_ ?_ ?_ ?_ _ _ ls hX (lv_sub hl [0, 1, 2] rfl)
          · omega
          · exact fun j hj => by
              by_cases h : j = i
              · subst h; exact (va_up_self _ _ _).trans (hf2 _ (by omega))
              · rw [va_up_ne _ _ h]; exact hf j (by omega)
          · exact fun j hj => by rw [va_up_ne _ _ (by omega)]; exact hf2 j (by omega)
          · omega
    refine loop10 _ (0) (m_hist S) ?_ ?_ ?_ (Nat.lt_succ_self _) _ _ ls hX (lv_sub hl [0, 1, 2] rfl)
    · omega
    · exact fun j h => absurd h (Nat.not_lt_zero _)
    · exact fun j _ => rfl
theorem fi_X8_fits_X8 : ∀ w ∈ wsX80, w ∈ wsX8_fits := by decide +kernel
set_option maxHeartbeats 4000000 in
set_option maxRecDepth 100000 in
theorem c_X8_fits (l : Launch) (G : GX) (am : Nat → Nat) (S : MS) (hok : okA (m_all S)) (p0 f0 t0 : Nat) (hp0 : p0 < 6) (hft : f0 ≤ t0) (ht0 : t0 ≤ aLen (m_all S)) : CtV l yX8_fits wsX8_fits { frames := 2, cells := 0, slots := 0, locals := 45 } G (wM G am) (S) [.ref (am 0), .int (nI (p0)), .int (nI (f0)), .int (nI (t0))] (fun S' => ∃ f, S' = w_part S f ∧ ∀ i ee, i ≤ aPl (m_all S) p0 → ee ≤ t0 - f0 → f (121 * i + ee) = dw (aTt (m_all S) p0) f0 (ee) (i)) 0 0 := by
  refine CtV.of (cc := cX8_fits) (maxL := 9) (ret := none) (by decide +kernel) rfl (Nat.le_of_ble_eq_true rfl) ?_
  intro p e s m args below meth c ls A hC hr hlk hin hK hA hX hl
  have hl : lv_has ls 9 [(0, .ref (am 0)), (1, .int (nI (p0))), (2, .int (nI (f0))), (3, .int (nI (t0)))] := hl
  have hokk := hok
  obtain ⟨hLn, hPc, hMs, hTx, hPt⟩ := hok
  obtain ⟨hpl, hbd, htk⟩ := hPt p0 hp0
  refine lv_iconst (v := nI (0)) hC.1 hC.2.1 dX8_fits_0 rfl ?_
  refine lv_istore (lv' := [(4, .int (nI (0))), (0, .ref (am 0)), (1, .int (nI (p0))), (2, .int (nI (f0))), (3, .int (nI (t0)))]) hC.1 hC.2.1 dX8_fits_1 hl (by decide) rfl (fun ls hl => ?_)
  have loop3 : ∀ (n9 : Nat) (i : Nat) (f : Nat → Nat), (i ≤ aPl (m_all S) p0 + 1) → (∀ j e9, j < i → e9 ≤ t0 - f0 → f (121 * j + e9) = dw (aTt (m_all S) p0) f0 (e9) (j)) → aPl (m_all S) p0 + 1 - i < n9 → ∀ (H : Heap) (locs : List Loc) (ls : Array Slot), HH G A s.heap (wM G am (w_part (S) (f))) H locs → lv_has ls 9 [(4, .int (nI (i))), (0, .ref (am 0)), (1, .int (nI (p0))), (2, .int (nI (f0))), (3, .int (nI (t0)))] → W p l e { frames := 2, cells := 0, slots := 0, locals := 45 } s m args below meth c H locs 0 0 (EndV G (wM G am) A (fun S' => ∃ f, S' = w_part S f ∧ ∀ i ee, i ≤ aPl (m_all S) p0 → ee ≤ t0 - f0 → f (121 * i + ee) = dw (aTt (m_all S) p0) f0 (ee) (i)) below args s 0 0) (F0 m 3 ls []) := by
    intro n9
    induction n9 with
    | zero => intro i f hi hf hn9; exact absurd hn9 (Nat.not_lt_zero _)
    | succ n9 ih3 =>
      intro i f hi hf hn9 H locs ls hX hl
      refine lv_iload hC.1 hC.2.1 dX8_fits_3 (lv_at hl 0 rfl) ?_
      refine lv_aload_n hC.1 hC.2.1 dX8_fits_5 rfl (lv_at hl 1 rfl) ?_
      refine lv_iload_n hC.1 hC.2.1 dX8_fits_6 rfl (lv_at hl 2 rfl) ?_
      refine cv_I (As := [.int (nI (p0))]) (rest := [.int (nI (i))]) hC hK hA hX (c_X8_places l G am (w_part (S) (f)) (p0) (by omega)) (cwV 1 hC.2.2.2.2 gX8_fits_X8_places rfl rfl rfl hd_X8_places ⟨Nat.le_of_ble_eq_true rfl, Nat.le_of_ble_eq_true rfl⟩) (ci := 8) (q := (RX8, TX8, 21)) rfl (q0 := 0) rfl dX8_fits_7 rfl hl.1 rfl (Nat.le_of_ble_eq_true rfl) ⟨(Nat.zero_le _), (Nat.zero_le _)⟩ (fun r9 S9 H locs hp9 hX => ?_)
      obtain ⟨rfl, hS9⟩ := hp9
      rw [hS9] at hX
      replace hX : HH G A s.heap (wM G am (w_part (S) (f))) H locs := hX
      refine n_icmp_gt hC (a := i) (b := aPl (m_all S) (p0)) (tgt := 241) dX8_fits_10 (by decide) (by omega) (by omega) (fun c10 => ?_) (fun c10 => ?_)
      · skip
        refine r_return hC hr hlk hX dX8_fits_241 ?_
        exact ⟨f, rfl, fun i9 e9 h1 h2 => hf i9 e9 (by omega) h2⟩
      · skip
        refine lv_iconst (v := nI (0)) hC.1 hC.2.1 dX8_fits_13 rfl ?_
        refine lv_istore (lv' := [(5, .int (nI (0))), (4, .int (nI (i))), (0, .ref (am 0)), (1, .int (nI (p0))), (2, .int (nI (f0))), (3, .int (nI (t0)))]) hC.1 hC.2.1 dX8_fits_14 hl (by decide) rfl (fun ls hl => ?_)
        have loop16 : ∀ (n9 : Nat) (ee : Nat) (f2 : Nat → Nat), (ee ≤ t0 - f0 + 1) → (∀ j e9, j < i → e9 ≤ t0 - f0 → f2 (121 * j + e9) = dw (aTt (m_all S) p0) f0 (e9) (j)) → (∀ e9, e9 < ee → f2 (121 * i + e9) = dw (aTt (m_all S) p0) f0 (e9) (i)) → t0 - f0 + 1 - ee < n9 → ∀ (H : Heap) (locs : List Loc) (ls : Array Slot), HH G A s.heap (wM G am (w_part (S) (f2))) H locs → lv_has ls 9 [(5, .int (nI (ee))), (4, .int (nI (i))), (0, .ref (am 0)), (1, .int (nI (p0))), (2, .int (nI (f0))), (3, .int (nI (t0)))] → W p l e { frames := 2, cells := 0, slots := 0, locals := 45 } s m args below meth c H locs 0 0 (EndV G (wM G am) A (fun S' => ∃ f, S' = w_part S f ∧ ∀ i ee, i ≤ aPl (m_all S) p0 → ee ≤ t0 - f0 → f (121 * i + ee) = dw (aTt (m_all S) p0) f0 (ee) (i)) below args s 0 0) (F0 m 16 ls []) := by
          intro n9
          induction n9 with
          | zero => intro ee f2 he hf2 hrow hn9; exact absurd hn9 (Nat.not_lt_zero _)
          | succ n9 ih16 =>
            intro ee f2 he hf2 hrow hn9 H locs ls hX hl
            refine lv_iload hC.1 hC.2.1 dX8_fits_16 (lv_at hl 0 rfl) ?_
            refine lv_iload_n hC.1 hC.2.1 dX8_fits_18 rfl (lv_at hl 5 rfl) ?_
            refine lv_iload_n hC.1 hC.2.1 dX8_fits_19 rfl (lv_at hl 4 rfl) ?_
            refine n_sub hC (a := t0) (b := f0) dX8_fits_20 (by omega) ?_
            refine n_icmp_gt hC (a := ee) (b := t0 - f0) (tgt := 235) dX8_fits_21 (by decide) (by omega) (by omega) (fun c21 => ?_) (fun c21 => ?_)
            · skip
              refine lv_iinc (v := nI (i + 1)) (lv' := [(4, .int (nI (i + 1))), (5, .int (nI (ee))), (0, .ref (am 0)), (1, .int (nI (p0))), (2, .int (nI (f0))), (3, .int (nI (t0)))]) hC.1 hC.2.1 dX8_fits_235 hl (k := 1) rfl (n_inc1 _) (by decide) rfl (fun ls hl => ?_)
              refine lv_goto (tgt := 3) hC.1 hC.2.1 dX8_fits_238 (by decide) ?_
              refine ih3 (i + 1) (f2) ?_ ?_ ?_ _ _ ls hX (lv_sub hl [0, 2, 3, 4, 5] rfl)
              · omega
              · exact fun j e9 h1 h2 => by
                  by_cases h : j = i
                  · subst h; exact hrow e9 (by omega)
                  · exact hf2 j e9 (by omega) h2
              · omega
            · skip
              refine lv_bipush (v := nI (121)) hC.1 hC.2.1 dX8_fits_24 (by decide +kernel) ?_
              refine lv_iload hC.1 hC.2.1 dX8_fits_26 (lv_at hl 1 rfl) ?_
              refine n_mul hC (a := 121) (b := i) dX8_fits_28 ?_
              refine lv_iload hC.1 hC.2.1 dX8_fits_29 (lv_at hl 0 rfl) ?_
              refine n_add hC (a := 121 * i) (b := ee) dX8_fits_31 ?_
              refine lv_istore (lv' := [(6, .int (nI ((121 * i) + (ee)))), (5, .int (nI (ee))), (4, .int (nI (i))), (0, .ref (am 0)), (1, .int (nI (p0))), (2, .int (nI (f0))), (3, .int (nI (t0)))]) hC.1 hC.2.1 dX8_fits_32 hl (by decide) rfl (fun ls hl => ?_)
              have hL1 : 0 < ee → f2 (121 * i + ee - 1) = dw (aTt (m_all S) p0) f0 (ee - 1) (i) := fun h => by
                have h9 := hrow (ee - 1) (by omega)
                rwa [show 121 * i + (ee - 1) = 121 * i + ee - 1 by omega] at h9
              have hU : 0 < i → f2 (121 * i + ee - 121) = dw (aTt (m_all S) p0) f0 (ee) (i - 1) := fun h => by
                have h9 := hf2 (i - 1) ee (by omega) (by omega)
                rwa [show 121 * (i - 1) + ee = 121 * i + ee - 121 by omega] at h9
              have hD : 0 < i → 0 < ee → f2 (121 * i + ee - 121 - 1) = dw (aTt (m_all S) p0) f0 (ee - 1) (i - 1) := fun h h0 => by
                have h9 := hf2 (i - 1) (ee - 1) (by omega) (by omega)
                rwa [show 121 * (i - 1) + (ee - 1) = 121 * i + ee - 121 - 1 by omega] at h9
              have hz1 := dw_le (aTt (m_all S) p0) f0 (e := ee - 1) (i := i) (by omega) (by omega)
              have hz2 := dw_le (aTt (m_all S) p0) f0 (e := ee) (i := i - 1) (by omega) (by omega)
              have hz3 := dw_le (aTt (m_all S) p0) f0 (e := ee - 1) (i := i - 1) (by omega) (by omega)
              have join51 : ∀ (q0 : Nat) (H : Heap) (locs : List Loc) (ls : Array Slot), (q0 = if i = 0 ∧ ee = 0 then 0 else 1000) → (q0 ≤ 1000) → HH G A s.heap (wM G am (w_part (S) (f2))) H locs → lv_has ls 9 [(6, .int (nI ((121 * i) + (ee)))), (5, .int (nI (ee))), (4, .int (nI (i))), (0, .ref (am 0)), (1, .int (nI (p0))), (2, .int (nI (f0))), (3, .int (nI (t0)))] → W p l e { frames := 2, cells := 0, slots := 0, locals := 45 } s m args below meth c H locs 0 0 (EndV G (wM G am) A (fun S' => ∃ f, S' = w_part S f ∧ ∀ i ee, i ≤ aPl (m_all S) p0 → ee ≤ t0 - f0 → f (121 * i + ee) = dw (aTt (m_all S) p0) f0 (ee) (i)) below args s 0 0) (F0 m 51 ls [.int (nI (q0))]) := by
                intro q0 H locs ls hq0 hb0 hX hl
                refine lv_istore (lv' := [(7, .int (nI (q0))), (6, .int (nI ((121 * i) + (ee)))), (5, .int (nI (ee))), (4, .int (nI (i))), (0, .ref (am 0)), (1, .int (nI (p0))), (2, .int (nI (f0))), (3, .int (nI (t0)))]) hC.1 hC.2.1 dX8_fits_51 hl (by decide) rfl (fun ls hl => ?_)
                have join90 : ∀ (q1 : Nat) (H : Heap) (locs : List Loc) (ls : Array Slot), (q1 = if 0 < ee then min (dw (aTt (m_all S) p0) f0 (ee - 1) (i) + 1) q0 else q0) → (q1 ≤ 1000) → HH G A s.heap (wM G am (w_part (S) (f2))) H locs → lv_has ls 9 [(7, .int (nI (q0))), (6, .int (nI ((121 * i) + (ee)))), (5, .int (nI (ee))), (4, .int (nI (i))), (0, .ref (am 0)), (1, .int (nI (p0))), (2, .int (nI (f0))), (3, .int (nI (t0)))] → W p l e { frames := 2, cells := 0, slots := 0, locals := 45 } s m args below meth c H locs 0 0 (EndV G (wM G am) A (fun S' => ∃ f, S' = w_part S f ∧ ∀ i ee, i ≤ aPl (m_all S) p0 → ee ≤ t0 - f0 → f (121 * i + ee) = dw (aTt (m_all S) p0) f0 (ee) (i)) below args s 0 0) (F0 m 90 ls [.int (nI (q1))]) := by
                  intro q1 H locs ls hq1 hb1 hX hl
                  refine lv_istore (lv' := [(7, .int (nI (q1))), (6, .int (nI ((121 * i) + (ee)))), (5, .int (nI (ee))), (4, .int (nI (i))), (0, .ref (am 0)), (1, .int (nI (p0))), (2, .int (nI (f0))), (3, .int (nI (t0)))]) hC.1 hC.2.1 dX8_fits_90 hl (by decide) rfl (fun ls hl => ?_)
                  have join131 : ∀ (q2 : Nat) (H : Heap) (locs : List Loc) (ls : Array Slot), (q2 = if 0 < i then min (dw (aTt (m_all S) p0) f0 (ee) (i - 1) + 1) q1 else q1) → (q2 ≤ 1000) → HH G A s.heap (wM G am (w_part (S) (f2))) H locs → lv_has ls 9 [(7, .int (nI (q1))), (6, .int (nI ((121 * i) + (ee)))), (5, .int (nI (ee))), (4, .int (nI (i))), (0, .ref (am 0)), (1, .int (nI (p0))), (2, .int (nI (f0))), (3, .int (nI (t0)))] → W p l e { frames := 2, cells := 0, slots := 0, locals := 45 } s m args below meth c H locs 0 0 (EndV G (wM G am) A (fun S' => ∃ f, S' = w_part S f ∧ ∀ i ee, i ≤ aPl (m_all S) p0 → ee ≤ t0 - f0 → f (121 * i + ee) = dw (aTt (m_all S) p0) f0 (ee) (i)) below args s 0 0) (F0 m 131 ls [.int (nI (q2))]) := by
                    intro q2 H locs ls hq2 hb2 hX hl
                    refine lv_istore (lv' := [(7, .int (nI (q2))), (6, .int (nI ((121 * i) + (ee)))), (5, .int (nI (ee))), (4, .int (nI (i))), (0, .ref (am 0)), (1, .int (nI (p0))), (2, .int (nI (f0))), (3, .int (nI (t0)))]) hC.1 hC.2.1 dX8_fits_131 hl (by decide) rfl (fun ls hl => ?_)
                    have join166 : ∀ (H : Heap) (locs : List Loc) (ls : Array Slot), HH G A s.heap (wM G am (w_part (S) (f2))) H locs → lv_has ls 9 [(7, .int (nI (q2))), (6, .int (nI ((121 * i) + (ee)))), (5, .int (nI (ee))), (4, .int (nI (i))), (0, .ref (am 0)), (1, .int (nI (p0))), (2, .int (nI (f0))), (3, .int (nI (t0)))] → W p l e { frames := 2, cells := 0, slots := 0, locals := 45 } s m args below meth c H locs 0 0 (EndV G (wM G am) A (fun S' => ∃ f, S' = w_part S f ∧ ∀ i ee, i ≤ aPl (m_all S) p0 → ee ≤ t0 - f0 → f (121 * i + ee) = dw (aTt (m_all S) p0) f0 (ee) (i)) below args s 0 0) (F0 m 166 ls [.int (nI (byN (aTt (m_all S) p0) f0 ee i))]) := by
                      intro  H locs ls  hX hl
                      refine lv_istore (lv' := [(8, .int (nI (byN (aTt (m_all S) p0) f0 ee i))), (7, .int (nI (q2))), (6, .int (nI ((121 * i) + (ee)))), (5, .int (nI (ee))), (4, .int (nI (i))), (0, .ref (am 0)), (1, .int (nI (p0))), (2, .int (nI (f0))), (3, .int (nI (t0)))]) hC.1 hC.2.1 dX8_fits_166 hl (by decide) rfl (fun ls hl => ?_)
                      have hbyl := byN_le (aTt (m_all S) p0) f0 ee i
                      have join218 : ∀ (q3 : Nat) (H : Heap) (locs : List Loc) (ls : Array Slot), (q3 = if 0 < i ∧ 0 < ee then min (dw (aTt (m_all S) p0) f0 (ee - 1) (i - 1) + byN (aTt (m_all S) p0) f0 ee i) q2 else q2) → (q3 ≤ 1000) → HH G A s.heap (wM G am (w_part (S) (f2))) H locs → lv_has ls 9 [(8, .int (nI (byN (aTt (m_all S) p0) f0 ee i))), (7, .int (nI (q2))), (6, .int (nI ((121 * i) + (ee)))), (5, .int (nI (ee))), (4, .int (nI (i))), (0, .ref (am 0)), (1, .int (nI (p0))), (2, .int (nI (f0))), (3, .int (nI (t0)))] → W p l e { frames := 2, cells := 0, slots := 0, locals := 45 } s m args below meth c H locs 0 0 (EndV G (wM G am) A (fun S' => ∃ f, S' = w_part S f ∧ ∀ i ee, i ≤ aPl (m_all S) p0 → ee ≤ t0 - f0 → f (121 * i + ee) = dw (aTt (m_all S) p0) f0 (ee) (i)) below args s 0 0) (F0 m 218 ls [.int (nI (q3))]) := by
                        intro q3 H locs ls hq3 hb3 hX hl
                        refine lv_istore (lv' := [(7, .int (nI (q3))), (8, .int (nI (byN (aTt (m_all S) p0) f0 ee i))), (6, .int (nI ((121 * i) + (ee)))), (5, .int (nI (ee))), (4, .int (nI (i))), (0, .ref (am 0)), (1, .int (nI (p0))), (2, .int (nI (f0))), (3, .int (nI (t0)))]) hC.1 hC.2.1 dX8_fits_218 hl (by decide) rfl (fun ls hl => ?_)
                        refine lv_aload_n hC.1 hC.2.1 dX8_fits_220 rfl (lv_at hl 5 rfl) ?_
                        refine g_m_part hC fi_X8_fits_X8 hK hX (wd9 hC 1 rfl) dX8_fits_221 ?_
                        refine lv_iload hC.1 hC.2.1 dX8_fits_224 (lv_at hl 2 rfl) ?_
                        refine lv_iload hC.1 hC.2.1 dX8_fits_226 (lv_at hl 0 rfl) ?_
                        refine s_m_part hC hK hX (i := (121 * i) + (ee)) (v := q3) (by omega) dX8_fits_228 (fun H locs hX => ?_)
                        replace hX : HH G A s.heap (wM G am (w_part (S) (va_up (f2) ((121 * i) + (ee)) (q3)))) H locs := hX
                        refine lv_iinc (v := nI (ee + 1)) (lv' := [(5, .int (nI (ee + 1))), (7, .int (nI (q3))), (8, .int (nI (byN (aTt (m_all S) p0) f0 ee i))), (6, .int (nI ((121 * i) + (ee)))), (4, .int (nI (i))), (0, .ref (am 0)), (1, .int (nI (p0))), (2, .int (nI (f0))), (3, .int (nI (t0)))]) hC.1 hC.2.1 dX8_fits_229 hl (k := 3) rfl (n_inc1 _) (by decide) rfl (fun ls hl => ?_)
                        refine lv_goto (tgt := 16) hC.1 hC.2.1 dX8_fits_232 (by decide) ?_
                        refine ih16 (ee + 1) (va_up (f2) ((121 * i) + (ee)) (q3)) ?_ ?_ ?_ ?_ _ _ ls hX (lv_sub hl [0, 4, 5, 6, 7, 8] rfl)
                        · omega
                        · exact fun j e9 h1 h2 => by rw [va_up_ne _ _ (by omega)]; exact hf2 j e9 h1 h2
                        · exact fun e9 h1 => by
                            by_cases h : e9 = ee
                            · subst h; exact (va_up_self _ _ _).trans (dw_fin (by omega) (by omega) hq0 hq1 hq2 hq3)
                            · rw [va_up_ne _ _ (by omega)]; exact hrow e9 (by omega)
                        · omega
                      refine lv_iload hC.1 hC.2.1 dX8_fits_168 (lv_at hl 4 rfl) ?_
                      refine n_if_le hC (a := i) (tgt := 216) dX8_fits_170 (by decide) (by omega) (fun c170 => ?_) (fun c170 => ?_)
                      · skip
                        refine lv_iload hC.1 hC.2.1 dX8_fits_216 (lv_at hl 1 rfl) ?_
                        refine join218 (q2) _ _ ls ?_ ?_ hX (lv_sub hl [0, 1, 2, 3, 4, 5, 6, 7, 8] rfl)
                        · first | (rw [if_neg (by omega)]; done) | (rw [if_pos ⟨by omega, by omega⟩]; omega)
                        · first | rfl | omega | (rw [if_pos (by first | assumption | omega)]) | (rw [if_neg (by first | assumption | omega | simp_all)])
                      · skip
                        refine lv_iload hC.1 hC.2.1 dX8_fits_173 (lv_at hl 3 rfl) ?_
                        refine n_if_le hC (a := ee) (tgt := 216) dX8_fits_175 (by decide) (by omega) (fun c175 => ?_) (fun c175 => ?_)
                        · skip
                          refine lv_iload hC.1 hC.2.1 dX8_fits_216 (lv_at hl 1 rfl) ?_
                          refine join218 (q2) _ _ ls ?_ ?_ hX (lv_sub hl [0, 1, 2, 3, 4, 5, 6, 7, 8] rfl)
                          · first | (rw [if_neg (by omega)]; done) | (rw [if_pos ⟨by omega, by omega⟩]; omega)
                          · first | rfl | omega | (rw [if_pos (by first | assumption | omega)]) | (rw [if_neg (by first | assumption | omega | simp_all)])
                        · skip
                          refine lv_aload_n hC.1 hC.2.1 dX8_fits_178 rfl (lv_at hl 5 rfl) ?_
                          refine g_m_part hC fi_X8_fits_X8 hK hX (wd9 hC 1 rfl) dX8_fits_179 ?_
                          refine lv_iload hC.1 hC.2.1 dX8_fits_182 (lv_at hl 2 rfl) ?_
                          refine lv_bipush (v := nI (121)) hC.1 hC.2.1 dX8_fits_184 (by decide +kernel) ?_
                          refine n_sub hC (a := (121 * i) + (ee)) (b := 121) dX8_fits_186 (by omega) ?_
                          refine lv_iconst (v := nI (1)) hC.1 hC.2.1 dX8_fits_187 rfl ?_
                          refine n_sub hC (a := ((121 * i) + (ee)) - (121)) (b := 1) dX8_fits_188 (by omega) ?_
                          refine l_m_part hC hK hX (i := (((121 * i) + (ee)) - (121)) - (1)) (by omega) dX8_fits_189 (v := dw (aTt (m_all S) p0) f0 (ee - 1) (i - 1)) (hD (by omega) (by omega)) ?_
                          refine lv_iload hC.1 hC.2.1 dX8_fits_190 (lv_at hl 0 rfl) ?_
                          refine n_add hC (a := dw (aTt (m_all S) p0) f0 (ee - 1) (i - 1)) (b := byN (aTt (m_all S) p0) f0 ee i) dX8_fits_192 ?_
                          refine lv_iload hC.1 hC.2.1 dX8_fits_193 (lv_at hl 1 rfl) ?_
                          refine n_icmp_ge hC (a := (dw (aTt (m_all S) p0) f0 (ee - 1) (i - 1)) + (byN (aTt (m_all S) p0) f0 ee i)) (b := q2) (tgt := 216) dX8_fits_195 (by decide) (by omega) (by omega) (fun c195 => ?_) (fun c195 => ?_)
                          · skip
                            refine lv_iload hC.1 hC.2.1 dX8_fits_216 (lv_at hl 1 rfl) ?_
                            refine join218 (q2) _ _ ls ?_ ?_ hX (lv_sub hl [0, 1, 2, 3, 4, 5, 6, 7, 8] rfl)
                            · first | (rw [if_neg (by omega)]; done) | (rw [if_pos ⟨by omega, by omega⟩]; omega)
                            · first | rfl | omega | (rw [if_pos (by first | assumption | omega)]) | (rw [if_neg (by first | assumption | omega | simp_all)])
                          · skip
                            refine lv_aload_n hC.1 hC.2.1 dX8_fits_198 rfl (lv_at hl 5 rfl) ?_
                            refine g_m_part hC fi_X8_fits_X8 hK hX (wd9 hC 1 rfl) dX8_fits_199 ?_
                            refine lv_iload hC.1 hC.2.1 dX8_fits_202 (lv_at hl 2 rfl) ?_
                            refine lv_bipush (v := nI (121)) hC.1 hC.2.1 dX8_fits_204 (by decide +kernel) ?_
                            refine n_sub hC (a := (121 * i) + (ee)) (b := 121) dX8_fits_206 (by omega) ?_
                            refine lv_iconst (v := nI (1)) hC.1 hC.2.1 dX8_fits_207 rfl ?_
                            refine n_sub hC (a := ((121 * i) + (ee)) - (121)) (b := 1) dX8_fits_208 (by omega) ?_
                            refine l_m_part hC hK hX (i := (((121 * i) + (ee)) - (121)) - (1)) (by omega) dX8_fits_209 (v := f2 ((((121 * i) + (ee)) - (121)) - (1))) rfl ?_
                            refine lv_iload hC.1 hC.2.1 dX8_fits_210 (lv_at hl 0 rfl) ?_
                            refine n_add hC (a := f2 ((((121 * i) + (ee)) - (121)) - (1))) (b := byN (aTt (m_all S) p0) f0 ee i) dX8_fits_212 ?_
                            refine lv_goto (tgt := 218) hC.1 hC.2.1 dX8_fits_213 (by decide) ?_
                            refine join218 ((f2 ((((121 * i) + (ee)) - (121)) - (1))) + (byN (aTt (m_all S) p0) f0 ee i)) _ _ ls ?_ ?_ hX (lv_sub hl [0, 1, 2, 3, 4, 5, 6, 7, 8] rfl)
                            · first | (rw [if_neg (by omega)]; done) | (rw [if_pos ⟨by omega, by omega⟩]; omega)
                            · first | rfl | omega | (rw [if_pos (by first | assumption | omega)]) | (rw [if_neg (by first | assumption | omega | simp_all)])
                    refine lv_iload hC.1 hC.2.1 dX8_fits_133 (lv_at hl 3 rfl) ?_
                    refine n_if_le hC (a := i) (tgt := 165) dX8_fits_135 (by decide) (by omega) (fun c135 => ?_) (fun c135 => ?_)
                    · skip
                      refine lv_iconst (v := nI (1)) hC.1 hC.2.1 dX8_fits_165 rfl ?_
                      refine n_top (y := nI (byN (aTt (m_all S) p0) f0 ee i)) (by unfold byN; first | rw [if_pos ⟨by omega, by omega, by assumption⟩] | rw [if_neg (fun z => absurd z.1 (by omega))] | rw [if_neg (fun z => absurd z.2.1 (by omega))] | rw [if_neg (fun z => by have z2 := z.2.2; rw [c158] at z2; exact absurd z2 (by decide))]) ?_
                      refine join166  _ _ ls  hX (lv_sub hl [0, 1, 2, 3, 4, 5, 6, 7] rfl)
                    · skip
                      refine lv_iload hC.1 hC.2.1 dX8_fits_138 (lv_at hl 2 rfl) ?_
                      refine n_if_le hC (a := ee) (tgt := 165) dX8_fits_140 (by decide) (by omega) (fun c140 => ?_) (fun c140 => ?_)
                      · skip
                        refine lv_iconst (v := nI (1)) hC.1 hC.2.1 dX8_fits_165 rfl ?_
                        refine n_top (y := nI (byN (aTt (m_all S) p0) f0 ee i)) (by unfold byN; first | rw [if_pos ⟨by omega, by omega, by assumption⟩] | rw [if_neg (fun z => absurd z.1 (by omega))] | rw [if_neg (fun z => absurd z.2.1 (by omega))] | rw [if_neg (fun z => by have z2 := z.2.2; rw [c158] at z2; exact absurd z2 (by decide))]) ?_
                        refine join166  _ _ ls  hX (lv_sub hl [0, 1, 2, 3, 4, 5, 6, 7] rfl)
                      · skip
                        refine lv_aload_n hC.1 hC.2.1 dX8_fits_143 rfl (lv_at hl 4 rfl) ?_
                        refine lv_iload_n hC.1 hC.2.1 dX8_fits_144 rfl (lv_at hl 5 rfl) ?_
                        refine lv_iload hC.1 hC.2.1 dX8_fits_145 (lv_at hl 3 rfl) ?_
                        refine lv_iconst (v := nI (1)) hC.1 hC.2.1 dX8_fits_147 rfl ?_
                        refine n_sub hC (a := i) (b := 1) dX8_fits_148 (by omega) ?_
                        refine lv_iload_n hC.1 hC.2.1 dX8_fits_149 rfl (lv_at hl 6 rfl) ?_
                        refine lv_iload hC.1 hC.2.1 dX8_fits_150 (lv_at hl 2 rfl) ?_
                        refine n_add hC (a := f0) (b := ee) dX8_fits_152 ?_
                        refine lv_iconst (v := nI (1)) hC.1 hC.2.1 dX8_fits_153 rfl ?_
                        refine n_sub hC (a := f0 + ee) (b := 1) dX8_fits_154 (by omega) ?_
                        refine cv_I (As := [.int (nI (p0)), .int (nI (i - 1)), .int (nI ((f0 + ee) - (1)))]) (rest := []) hC hK hA hX (c_X8_isTaken l G am (w_part (S) (f2)) (p0) (i - 1) ((f0 + ee) - (1)) hp0 (by omega) (by omega) (hTx _ (by omega)) (Nat.lt_trans (htk _ (by omega)) (by decide))) (cwV 3 hC.2.2.2.2 gX8_fits_X8_isTaken rfl rfl rfl hd_X8_isTaken ⟨Nat.le_of_ble_eq_true rfl, Nat.le_of_ble_eq_true rfl⟩) (ci := 8) (q := (RX8, TX8, 21)) rfl (q0 := 0) rfl dX8_fits_155 rfl hl.1 rfl (Nat.le_of_ble_eq_true rfl) ⟨(Nat.zero_le _), (Nat.zero_le _)⟩ (fun r9 S9 H locs hp9 hX => ?_)
                        obtain ⟨rfl, hS9⟩ := hp9
                        rw [hS9] at hX
                        replace hX : HH G A s.heap (wM G am (w_part (S) (f2))) H locs := hX
                        refine b_if_eq hC (b := aTt (m_all S) (p0) (i - 1) ((f0 + ee) - (1))) (tgt := 165) dX8_fits_158 (by decide) (fun c158 => ?_) (fun c158 => ?_)
                        · skip
                          refine lv_iconst (v := nI (1)) hC.1 hC.2.1 dX8_fits_165 rfl ?_
                          refine n_top (y := nI (byN (aTt (m_all S) p0) f0 ee i)) (by unfold byN; first | rw [if_pos ⟨by omega, by omega, by assumption⟩] | rw [if_neg (fun z => absurd z.1 (by omega))] | rw [if_neg (fun z => absurd z.2.1 (by omega))] | rw [if_neg (fun z => by have z2 := z.2.2; rw [c158] at z2; exact absurd z2 (by decide))]) ?_
                          refine join166  _ _ ls  hX (lv_sub hl [0, 1, 2, 3, 4, 5, 6, 7] rfl)
                        · skip
                          refine lv_iconst (v := nI (0)) hC.1 hC.2.1 dX8_fits_161 rfl ?_
                          refine lv_goto (tgt := 166) hC.1 hC.2.1 dX8_fits_162 (by decide) ?_
                          refine n_top (y := nI (byN (aTt (m_all S) p0) f0 ee i)) (by unfold byN; first | rw [if_pos ⟨by omega, by omega, by assumption⟩] | rw [if_neg (fun z => absurd z.1 (by omega))] | rw [if_neg (fun z => absurd z.2.1 (by omega))] | rw [if_neg (fun z => by have z2 := z.2.2; rw [c158] at z2; exact absurd z2 (by decide))]) ?_
                          refine join166  _ _ ls  hX (lv_sub hl [0, 1, 2, 3, 4, 5, 6, 7] rfl)
                  refine lv_iload hC.1 hC.2.1 dX8_fits_92 (lv_at hl 3 rfl) ?_
                  refine n_if_le hC (a := i) (tgt := 129) dX8_fits_94 (by decide) (by omega) (fun c94 => ?_) (fun c94 => ?_)
                  · skip
                    refine lv_iload hC.1 hC.2.1 dX8_fits_129 (lv_at hl 0 rfl) ?_
                    refine join131 (q1) _ _ ls ?_ ?_ hX (lv_sub hl [0, 1, 2, 3, 4, 5, 6, 7] rfl)
                    · first | (rw [if_neg (by omega)]; done) | (rw [if_pos (by omega)]; omega)
                    · first | rfl | omega | (rw [if_pos (by first | assumption | omega)]) | (rw [if_neg (by first | assumption | omega | simp_all)])
                  · skip
                    refine lv_aload_n hC.1 hC.2.1 dX8_fits_97 rfl (lv_at hl 4 rfl) ?_
                    refine g_m_part hC fi_X8_fits_X8 hK hX (wd9 hC 1 rfl) dX8_fits_98 ?_
                    refine lv_iload hC.1 hC.2.1 dX8_fits_101 (lv_at hl 1 rfl) ?_
                    refine lv_bipush (v := nI (121)) hC.1 hC.2.1 dX8_fits_103 (by decide +kernel) ?_
                    refine n_sub hC (a := (121 * i) + (ee)) (b := 121) dX8_fits_105 (by omega) ?_
                    refine l_m_part hC hK hX (i := ((121 * i) + (ee)) - (121)) (by omega) dX8_fits_106 (v := dw (aTt (m_all S) p0) f0 (ee) (i - 1)) (hU (by omega)) ?_
                    refine lv_iconst (v := nI (1)) hC.1 hC.2.1 dX8_fits_107 rfl ?_
                    refine n_add hC (a := dw (aTt (m_all S) p0) f0 (ee) (i - 1)) (b := 1) dX8_fits_108 ?_
                    refine lv_iload hC.1 hC.2.1 dX8_fits_109 (lv_at hl 0 rfl) ?_
                    refine n_icmp_ge hC (a := (dw (aTt (m_all S) p0) f0 (ee) (i - 1)) + (1)) (b := q1) (tgt := 129) dX8_fits_111 (by decide) (by omega) (by omega) (fun c111 => ?_) (fun c111 => ?_)
                    · skip
                      refine lv_iload hC.1 hC.2.1 dX8_fits_129 (lv_at hl 0 rfl) ?_
                      refine join131 (q1) _ _ ls ?_ ?_ hX (lv_sub hl [0, 1, 2, 3, 4, 5, 6, 7] rfl)
                      · first | (rw [if_neg (by omega)]; done) | (rw [if_pos (by omega)]; omega)
                      · first | rfl | omega | (rw [if_pos (by first | assumption | omega)]) | (rw [if_neg (by first | assumption | omega | simp_all)])
                    · skip
                      refine lv_aload_n hC.1 hC.2.1 dX8_fits_114 rfl (lv_at hl 4 rfl) ?_
                      refine g_m_part hC fi_X8_fits_X8 hK hX (wd9 hC 1 rfl) dX8_fits_115 ?_
                      refine lv_iload hC.1 hC.2.1 dX8_fits_118 (lv_at hl 1 rfl) ?_
                      refine lv_bipush (v := nI (121)) hC.1 hC.2.1 dX8_fits_120 (by decide +kernel) ?_
                      refine n_sub hC (a := (121 * i) + (ee)) (b := 121) dX8_fits_122 (by omega) ?_
                      refine l_m_part hC hK hX (i := ((121 * i) + (ee)) - (121)) (by omega) dX8_fits_123 (v := dw (aTt (m_all S) p0) f0 (ee) (i - 1)) (hU (by omega)) ?_
                      refine lv_iconst (v := nI (1)) hC.1 hC.2.1 dX8_fits_124 rfl ?_
                      refine n_add hC (a := dw (aTt (m_all S) p0) f0 (ee) (i - 1)) (b := 1) dX8_fits_125 ?_
                      refine lv_goto (tgt := 131) hC.1 hC.2.1 dX8_fits_126 (by decide) ?_
                      refine join131 ((dw (aTt (m_all S) p0) f0 (ee) (i - 1)) + (1)) _ _ ls ?_ ?_ hX (lv_sub hl [0, 1, 2, 3, 4, 5, 6, 7] rfl)
                      · first | (rw [if_neg (by omega)]; done) | (rw [if_pos (by omega)]; omega)
                      · first | rfl | omega | (rw [if_pos (by first | assumption | omega)]) | (rw [if_neg (by first | assumption | omega | simp_all)])
                refine lv_iload hC.1 hC.2.1 dX8_fits_53 (lv_at hl 2 rfl) ?_
                refine n_if_le hC (a := ee) (tgt := 88) dX8_fits_55 (by decide) (by omega) (fun c55 => ?_) (fun c55 => ?_)
                · skip
                  refine lv_iload hC.1 hC.2.1 dX8_fits_88 (lv_at hl 0 rfl) ?_
                  refine join90 (q0) _ _ ls ?_ ?_ hX (lv_sub hl [0, 1, 2, 3, 4, 5, 6, 7] rfl)
                  · first | (rw [if_neg (by omega)]; done) | (rw [if_pos (by omega)]; omega)
                  · first | rfl | omega | (rw [if_pos (by first | assumption | omega)]) | (rw [if_neg (by first | assumption | omega | simp_all)])
                · skip
                  refine lv_aload_n hC.1 hC.2.1 dX8_fits_58 rfl (lv_at hl 4 rfl) ?_
                  refine g_m_part hC fi_X8_fits_X8 hK hX (wd9 hC 1 rfl) dX8_fits_59 ?_
                  refine lv_iload hC.1 hC.2.1 dX8_fits_62 (lv_at hl 1 rfl) ?_
                  refine lv_iconst (v := nI (1)) hC.1 hC.2.1 dX8_fits_64 rfl ?_
                  refine n_sub hC (a := (121 * i) + (ee)) (b := 1) dX8_fits_65 (by omega) ?_
                  refine l_m_part hC hK hX (i := ((121 * i) + (ee)) - (1)) (by omega) dX8_fits_66 (v := dw (aTt (m_all S) p0) f0 (ee - 1) (i)) (hL1 (by omega)) ?_
                  refine lv_iconst (v := nI (1)) hC.1 hC.2.1 dX8_fits_67 rfl ?_
                  refine n_add hC (a := dw (aTt (m_all S) p0) f0 (ee - 1) (i)) (b := 1) dX8_fits_68 ?_
                  refine lv_iload hC.1 hC.2.1 dX8_fits_69 (lv_at hl 0 rfl) ?_
                  refine n_icmp_ge hC (a := (dw (aTt (m_all S) p0) f0 (ee - 1) (i)) + (1)) (b := q0) (tgt := 88) dX8_fits_71 (by decide) (by omega) (by omega) (fun c71 => ?_) (fun c71 => ?_)
                  · skip
                    refine lv_iload hC.1 hC.2.1 dX8_fits_88 (lv_at hl 0 rfl) ?_
                    refine join90 (q0) _ _ ls ?_ ?_ hX (lv_sub hl [0, 1, 2, 3, 4, 5, 6, 7] rfl)
                    · first | (rw [if_neg (by omega)]; done) | (rw [if_pos (by omega)]; omega)
                    · first | rfl | omega | (rw [if_pos (by first | assumption | omega)]) | (rw [if_neg (by first | assumption | omega | simp_all)])
                  · skip
                    refine lv_aload_n hC.1 hC.2.1 dX8_fits_74 rfl (lv_at hl 4 rfl) ?_
                    refine g_m_part hC fi_X8_fits_X8 hK hX (wd9 hC 1 rfl) dX8_fits_75 ?_
                    refine lv_iload hC.1 hC.2.1 dX8_fits_78 (lv_at hl 1 rfl) ?_
                    refine lv_iconst (v := nI (1)) hC.1 hC.2.1 dX8_fits_80 rfl ?_
                    refine n_sub hC (a := (121 * i) + (ee)) (b := 1) dX8_fits_81 (by omega) ?_
                    refine l_m_part hC hK hX (i := ((121 * i) + (ee)) - (1)) (by omega) dX8_fits_82 (v := dw (aTt (m_all S) p0) f0 (ee - 1) (i)) (hL1 (by omega)) ?_
                    refine lv_iconst (v := nI (1)) hC.1 hC.2.1 dX8_fits_83 rfl ?_
                    refine n_add hC (a := dw (aTt (m_all S) p0) f0 (ee - 1) (i)) (b := 1) dX8_fits_84 ?_
                    refine lv_goto (tgt := 90) hC.1 hC.2.1 dX8_fits_85 (by decide) ?_
                    refine join90 ((dw (aTt (m_all S) p0) f0 (ee - 1) (i)) + (1)) _ _ ls ?_ ?_ hX (lv_sub hl [0, 1, 2, 3, 4, 5, 6, 7] rfl)
                    · first | (rw [if_neg (by omega)]; done) | (rw [if_pos (by omega)]; omega)
                    · first | rfl | omega | (rw [if_pos (by first | assumption | omega)]) | (rw [if_neg (by first | assumption | omega | simp_all)])
              refine lv_iload hC.1 hC.2.1 dX8_fits_34 (lv_at hl 2 rfl) ?_
              refine n_if_ne hC (a := i) (tgt := 48) dX8_fits_36 (by decide) (by omega) (fun c36 => ?_) (fun c36 => ?_)
              · skip
                refine lv_sipush (v := nI (1000)) hC.1 hC.2.1 dX8_fits_48 (by decide +kernel) ?_
                refine join51 (1000) _ _ ls ?_ ?_ hX (lv_sub hl [0, 1, 2, 3, 4, 5, 6] rfl)
                · first | rw [if_pos (by omega)] | rw [if_neg (by omega)]
                · first | rfl | omega | (rw [if_pos (by first | assumption | omega)]) | (rw [if_neg (by first | assumption | omega | simp_all)])
              · skip
                refine lv_iload hC.1 hC.2.1 dX8_fits_39 (lv_at hl 1 rfl) ?_
                refine n_if_ne hC (a := ee) (tgt := 48) dX8_fits_41 (by decide) (by omega) (fun c41 => ?_) (fun c41 => ?_)
                · skip
                  refine lv_sipush (v := nI (1000)) hC.1 hC.2.1 dX8_fits_48 (by decide +kernel) ?_
                  refine join51 (1000) _ _ ls ?_ ?_ hX (lv_sub hl [0, 1, 2, 3, 4, 5, 6] rfl)
                  · first | rw [if_pos (by omega)] | rw [if_neg (by omega)]
                  · first | rfl | omega | (rw [if_pos (by first | assumption | omega)]) | (rw [if_neg (by first | assumption | omega | simp_all)])
                · skip
                  refine lv_iconst (v := nI (0)) hC.1 hC.2.1 dX8_fits_44 rfl ?_
                  refine lv_goto (tgt := 51) hC.1 hC.2.1 dX8_fits_45 (by decide) ?_
                  refine join51 (0) _ _ ls ?_ ?_ hX (lv_sub hl [0, 1, 2, 3, 4, 5, 6] rfl)
                  · first | rw [if_pos (by omega)] | rw [if_neg (by omega)]
                  · first | rfl | omega | (rw [if_pos (by first | assumption | omega)]) | (rw [if_neg (by first | assumption | omega | simp_all)])
        refine loop16 _ (0) (f) ?_ ?_ ?_ (Nat.lt_succ_self _) _ _ ls hX (lv_sub hl [0, 1, 2, 3, 4, 5] rfl)
        · omega
        · exact hf
        · exact fun e9 h => absurd h (Nat.not_lt_zero _)
  refine loop3 _ (0) (m_part S) ?_ ?_ (Nat.lt_succ_self _) _ _ ls hX (lv_sub hl [0, 1, 2, 3, 4] rfl)
  · omega
  · exact fun j e9 h => absurd h (Nat.not_lt_zero _)
theorem fi_X8_goesBack_X8 : ∀ w ∈ wsX80, w ∈ wsX8_goesBack := by decide +kernel
set_option maxHeartbeats 4000000 in
set_option maxRecDepth 100000 in
theorem c_X8_goesBack (l : Launch) (G : GX) (am : Nat → Nat) (S : MS) (hok : okA (m_all S)) (p0 f0 t0 : Nat) (hp0 : p0 < 6) (hft : f0 ≤ t0) (ht0 : t0 ≤ aLen (m_all S)) (hpf : ∀ i ee, i ≤ aPl (m_all S) p0 → ee ≤ t0 - f0 → m_part S (121 * i + ee) = dw (aTt (m_all S) p0) f0 (ee) (i)) : CtV l yX8_goesBack wsX8_goesBack { frames := 2, cells := 0, slots := 0, locals := 45 } G (wM G am) (S) [.ref (am 0), .int (nI (p0)), .int (nI (f0)), .int (nI (t0))] (fun S' => ∃ a b c, S' = w_exchanged (w_leftOut (w_putIn S a) b) c ∧ wsum a b c = wcol (aTt (m_all S) p0) f0 (t0 - f0) (aPl (m_all S) p0)) 0 0 := by
  refine CtV.of (cc := cX8_goesBack) (maxL := 9) (ret := none) (by decide +kernel) rfl (Nat.le_of_ble_eq_true rfl) ?_
  intro p e s m args below meth c ls A hC hr hlk hin hK hA hX hl
  have hl : lv_has ls 9 [(0, .ref (am 0)), (1, .int (nI (p0))), (2, .int (nI (f0))), (3, .int (nI (t0)))] := hl
  have hokk := hok
  obtain ⟨hLn, hPc, hMs, hTx, hPt⟩ := hok
  obtain ⟨hpl, hbd, htk⟩ := hPt p0 hp0
  refine lv_aload_n hC.1 hC.2.1 dX8_goesBack_0 rfl (lv_at hl 0 rfl) ?_
  refine lv_iconst (v := nI (0)) hC.1 hC.2.1 dX8_goesBack_1 rfl ?_
  refine p_m_putIn hC fi_X8_goesBack_X8 hK hX (v := 0) (wd9 hC 1 rfl) dX8_goesBack_2 (fun H locs hX => ?_)
  replace hX : HH G A s.heap (wM G am (w_putIn (S) (0))) H locs := hX
  refine lv_aload_n hC.1 hC.2.1 dX8_goesBack_5 rfl (lv_at hl 0 rfl) ?_
  refine lv_iconst (v := nI (0)) hC.1 hC.2.1 dX8_goesBack_6 rfl ?_
  refine p_m_leftOut hC fi_X8_goesBack_X8 hK hX (v := 0) (wd9 hC 2 rfl) dX8_goesBack_7 (fun H locs hX => ?_)
  replace hX : HH G A s.heap (wM G am (w_leftOut (w_putIn (S) (0)) (0))) H locs := hX
  refine lv_aload_n hC.1 hC.2.1 dX8_goesBack_10 rfl (lv_at hl 0 rfl) ?_
  refine lv_iconst (v := nI (0)) hC.1 hC.2.1 dX8_goesBack_11 rfl ?_
  refine p_m_exchanged hC fi_X8_goesBack_X8 hK hX (v := 0) (wd9 hC 3 rfl) dX8_goesBack_12 (fun H locs hX => ?_)
  replace hX : HH G A s.heap (wM G am (w_exchanged (w_leftOut (w_putIn (S) (0)) (0)) (0))) H locs := hX
  refine lv_aload_n hC.1 hC.2.1 dX8_goesBack_15 rfl (lv_at hl 0 rfl) ?_
  refine lv_iload_n hC.1 hC.2.1 dX8_goesBack_16 rfl (lv_at hl 1 rfl) ?_
  refine cv_I (As := [.int (nI (p0))]) (rest := []) hC hK hA hX (c_X8_places l G am (w_exchanged (w_leftOut (w_putIn (S) (0)) (0)) (0)) (p0) (by omega)) (cwV 1 hC.2.2.2.2 gX8_goesBack_X8_places rfl rfl rfl hd_X8_places ⟨Nat.le_of_ble_eq_true rfl, Nat.le_of_ble_eq_true rfl⟩) (ci := 8) (q := (RX8, TX8, 21)) rfl (q0 := 0) rfl dX8_goesBack_17 rfl hl.1 rfl (Nat.le_of_ble_eq_true rfl) ⟨(Nat.zero_le _), (Nat.zero_le _)⟩ (fun r9 S9 H locs hp9 hX => ?_)
  obtain ⟨rfl, hS9⟩ := hp9
  rw [hS9] at hX
  replace hX : HH G A s.heap (wM G am (w_exchanged (w_leftOut (w_putIn (S) (0)) (0)) (0))) H locs := hX
  refine lv_istore (lv' := [(4, .int (nI (aPl (m_all S) (p0)))), (0, .ref (am 0)), (1, .int (nI (p0))), (2, .int (nI (f0))), (3, .int (nI (t0)))]) hC.1 hC.2.1 dX8_goesBack_20 hl (by decide) rfl (fun ls hl => ?_)
  refine lv_iload_n hC.1 hC.2.1 dX8_goesBack_22 rfl (lv_at hl 4 rfl) ?_
  refine lv_iload_n hC.1 hC.2.1 dX8_goesBack_23 rfl (lv_at hl 3 rfl) ?_
  refine n_sub hC (a := t0) (b := f0) dX8_goesBack_24 (by omega) ?_
  refine lv_istore (lv' := [(5, .int (nI (t0 - f0))), (4, .int (nI (aPl (m_all S) (p0)))), (0, .ref (am 0)), (1, .int (nI (p0))), (2, .int (nI (f0))), (3, .int (nI (t0)))]) hC.1 hC.2.1 dX8_goesBack_25 hl (by decide) rfl (fun ls hl => ?_)
  have loop27 : ∀ (n9 : Nat) (i : Nat) (ee : Nat) (qa : Nat) (qb : Nat) (qc : Nat), (i ≤ aPl (m_all S) p0) → (ee ≤ t0 - f0) → (wcol (aTt (m_all S) p0) f0 (ee) (i) + wsum qa qb qc = wcol (aTt (m_all S) p0) f0 (t0 - f0) (aPl (m_all S) p0)) → i + ee < n9 → ∀ (H : Heap) (locs : List Loc) (ls : Array Slot), HH G A s.heap (wM G am (w_exchanged (w_leftOut (w_putIn (S) (qa)) (qb)) (qc))) H locs → lv_has ls 9 [(5, .int (nI (ee))), (4, .int (nI (i))), (0, .ref (am 0)), (1, .int (nI (p0))), (2, .int (nI (f0))), (3, .int (nI (t0)))] → W p l e { frames := 2, cells := 0, slots := 0, locals := 45 } s m args below meth c H locs 0 0 (EndV G (wM G am) A (fun S' => ∃ a b c, S' = w_exchanged (w_leftOut (w_putIn S a) b) c ∧ wsum a b c = wcol (aTt (m_all S) p0) f0 (t0 - f0) (aPl (m_all S) p0)) below args s 0 0) (F0 m 27 ls []) := by
    intro n9
    induction n9 with
    | zero => intro i ee qa qb qc hi he hw hn9; exact absurd hn9 (Nat.not_lt_zero _)
    | succ n9 ih27 =>
      intro i ee qa qb qc hi he hw hn9 H locs ls hX hl
      have hbnd : qa + qb + qc ≤ 1000 := by
        obtain ⟨a9, b9, c9, h9, h8⟩ := wcol_lo (aTt (m_all S) p0) f0 (e := t0 - f0) (i := aPl (m_all S) p0) (by omega) (by omega)
        unfold wsum at hw
        omega
      refine lv_iload hC.1 hC.2.1 dX8_goesBack_27 (lv_at hl 1 rfl) ?_
      refine n_if_gt hC (a := i) (tgt := 37) dX8_goesBack_29 (by decide) (by omega) (fun c29 => ?_) (fun c29 => ?_)
      · skip
        have hP := hpf i ee (by omega) (by omega)
        have hL1 : 0 < ee → m_part S (121 * i + ee - 1) = dw (aTt (m_all S) p0) f0 (ee - 1) (i) := fun h => by
          have h9 := hpf i (ee - 1) (by omega) (by omega)
          rwa [show 121 * i + (ee - 1) = 121 * i + ee - 1 by omega] at h9
        have hD : 0 < i → 0 < ee → m_part S (121 * i + ee - 121 - 1) = dw (aTt (m_all S) p0) f0 (ee - 1) (i - 1) := fun h h0 => by
          have h9 := hpf (i - 1) (ee - 1) (by omega) (by omega)
          rwa [show 121 * (i - 1) + (ee - 1) = 121 * i + ee - 121 - 1 by omega] at h9
        have hz0 := dw_le (aTt (m_all S) p0) f0 (e := ee) (i := i) (by omega) (by omega)
        have hz1 := dw_le (aTt (m_all S) p0) f0 (e := ee - 1) (i := i) (by omega) (by omega)
        have hz3 := dw_le (aTt (m_all S) p0) f0 (e := ee - 1) (i := i - 1) (by omega) (by omega)
        refine lv_bipush (v := nI (121)) hC.1 hC.2.1 dX8_goesBack_37 (by decide +kernel) ?_
        refine lv_iload hC.1 hC.2.1 dX8_goesBack_39 (lv_at hl 1 rfl) ?_
        refine n_mul hC (a := 121) (b := i) dX8_goesBack_41 ?_
        refine lv_iload hC.1 hC.2.1 dX8_goesBack_42 (lv_at hl 0 rfl) ?_
        refine n_add hC (a := 121 * i) (b := ee) dX8_goesBack_44 ?_
        refine lv_istore (lv' := [(6, .int (nI ((121 * i) + (ee)))), (5, .int (nI (ee))), (4, .int (nI (i))), (0, .ref (am 0)), (1, .int (nI (p0))), (2, .int (nI (f0))), (3, .int (nI (t0)))]) hC.1 hC.2.1 dX8_goesBack_45 hl (by decide) rfl (fun ls hl => ?_)
        have join62 : ∀ (H : Heap) (locs : List Loc) (ls : Array Slot), HH G A s.heap (wM G am (w_exchanged (w_leftOut (w_putIn (S) (qa)) (qb)) (qc))) H locs → lv_has ls 9 [(6, .int (nI ((121 * i) + (ee)))), (5, .int (nI (ee))), (4, .int (nI (i))), (0, .ref (am 0)), (1, .int (nI (p0))), (2, .int (nI (f0))), (3, .int (nI (t0)))] → W p l e { frames := 2, cells := 0, slots := 0, locals := 45 } s m args below meth c H locs 0 0 (EndV G (wM G am) A (fun S' => ∃ a b c, S' = w_exchanged (w_leftOut (w_putIn S a) b) c ∧ wsum a b c = wcol (aTt (m_all S) p0) f0 (t0 - f0) (aPl (m_all S) p0)) below args s 0 0) (F0 m 62 ls [.int (bI (decide (0 < i ∧ 0 < ee)))]) := by
          intro  H locs ls  hX hl
          refine lv_istore (lv' := [(7, .int (bI (decide (0 < i ∧ 0 < ee)))), (6, .int (nI ((121 * i) + (ee)))), (5, .int (nI (ee))), (4, .int (nI (i))), (0, .ref (am 0)), (1, .int (nI (p0))), (2, .int (nI (f0))), (3, .int (nI (t0)))]) hC.1 hC.2.1 dX8_goesBack_62 hl (by decide) rfl (fun ls hl => ?_)
          have join92 : ∀ (H : Heap) (locs : List Loc) (ls : Array Slot), HH G A s.heap (wM G am (w_exchanged (w_leftOut (w_putIn (S) (qa)) (qb)) (qc))) H locs → lv_has ls 9 [(7, .int (bI (decide (0 < i ∧ 0 < ee)))), (6, .int (nI ((121 * i) + (ee)))), (5, .int (nI (ee))), (4, .int (nI (i))), (0, .ref (am 0)), (1, .int (nI (p0))), (2, .int (nI (f0))), (3, .int (nI (t0)))] → W p l e { frames := 2, cells := 0, slots := 0, locals := 45 } s m args below meth c H locs 0 0 (EndV G (wM G am) A (fun S' => ∃ a b c, S' = w_exchanged (w_leftOut (w_putIn S a) b) c ∧ wsum a b c = wcol (aTt (m_all S) p0) f0 (t0 - f0) (aPl (m_all S) p0)) below args s 0 0) (F0 m 92 ls [.int (bI (decide ((0 < i ∧ 0 < ee) ∧ aTt (m_all S) p0 (i - 1) (f0 + ee - 1) = true)))]) := by
            intro  H locs ls  hX hl
            refine lv_istore (lv' := [(8, .int (bI (decide ((0 < i ∧ 0 < ee) ∧ aTt (m_all S) p0 (i - 1) (f0 + ee - 1) = true)))), (7, .int (bI (decide (0 < i ∧ 0 < ee)))), (6, .int (nI ((121 * i) + (ee)))), (5, .int (nI (ee))), (4, .int (nI (i))), (0, .ref (am 0)), (1, .int (nI (p0))), (2, .int (nI (f0))), (3, .int (nI (t0)))]) hC.1 hC.2.1 dX8_goesBack_92 hl (by decide) rfl (fun ls hl => ?_)
            refine lv_iload hC.1 hC.2.1 dX8_goesBack_94 (lv_at hl 0 rfl) ?_
            refine b_if_eq hC (b := decide ((0 < i ∧ 0 < ee) ∧ aTt (m_all S) p0 (i - 1) (f0 + ee - 1) = true)) (tgt := 130) dX8_goesBack_96 (by decide) (fun c96 => ?_) (fun c96 => ?_)
            · skip
              refine lv_iload hC.1 hC.2.1 dX8_goesBack_130 (lv_at hl 1 rfl) ?_
              refine b_if_eq hC (b := decide (0 < i ∧ 0 < ee)) (tgt := 183) dX8_goesBack_132 (by decide) (fun c132 => ?_) (fun c132 => ?_)
              · skip
                refine lv_iload hC.1 hC.2.1 dX8_goesBack_183 (lv_at hl 3 rfl) ?_
                refine n_if_le hC (a := ee) (tgt := 225) dX8_goesBack_185 (by decide) (by omega) (fun c185 => ?_) (fun c185 => ?_)
                · skip
                  have hi9 : 0 < i := by
                    refine Nat.pos_of_ne_zero (fun z => ?_)
                    have he9 : 0 < ee := by omega
                    have k9 := dw_pos (tk := aTt (m_all S) p0) (fr := f0) (e := ee - 1) (by omega)
                    rw [Nat.sub_add_cancel (show 1 ≤ ee by omega)] at k9
                    first | (exfalso; omega) | (rw [z] at c206; omega)
                  refine lv_aload_n hC.1 hC.2.1 dX8_goesBack_225 rfl (lv_at hl 5 rfl) ?_
                  refine lv_dup hC.1 hC.2.1 dX8_goesBack_226 rfl ?_
                  refine g_m_leftOut hC fi_X8_goesBack_X8 hK hX (wd9 hC 2 rfl) dX8_goesBack_227 (v := qb) rfl ?_
                  refine lv_iconst (v := nI (1)) hC.1 hC.2.1 dX8_goesBack_230 rfl ?_
                  refine n_add hC (a := qb) (b := 1) dX8_goesBack_231 ?_
                  refine p_m_leftOut hC fi_X8_goesBack_X8 hK hX (v := qb + 1) (wd9 hC 2 rfl) dX8_goesBack_232 (fun H locs hX => ?_)
                  replace hX : HH G A s.heap (wM G am (w_exchanged (w_leftOut (w_putIn (S) (qa)) (qb + 1)) (qc))) H locs := hX
                  refine lv_iinc (v := nI (i - 1)) (lv' := [(4, .int (nI (i - 1))), (8, .int (bI (decide ((0 < i ∧ 0 < ee) ∧ aTt (m_all S) p0 (i - 1) (f0 + ee - 1) = true)))), (7, .int (bI (decide (0 < i ∧ 0 < ee)))), (6, .int (nI ((121 * i) + (ee)))), (5, .int (nI (ee))), (0, .ref (am 0)), (1, .int (nI (p0))), (2, .int (nI (f0))), (3, .int (nI (t0)))]) hC.1 hC.2.1 dX8_goesBack_235 hl (k := 4) rfl (n_dec1 (by omega)) (by decide) rfl (fun ls hl => ?_)
                  refine lv_goto (tgt := 27) hC.1 hC.2.1 dX8_goesBack_238 (by decide) ?_
                  refine ih27 (i - 1) (ee) (qa) (qb + 1) (qc) ?_ ?_ ?_ ?_ _ _ ls hX (lv_sub hl [4, 0, 5, 6, 7, 8] rfl)
                  · omega
                  · omega
                  · have hd9 : 0 < i → 0 < ee → dw (aTt (m_all S) p0) f0 (ee) (i) ≠ dw (aTt (m_all S) p0) f0 (ee - 1) (i - 1) + ex9 (aTt (m_all S) p0) (i - 1) (f0 + (ee - 1)) := fun h1 h2 => by
                      rw [show f0 + (ee - 1) = f0 + ee - 1 by omega]
                      unfold ex9
                      by_cases hb9 : aTt (m_all S) p0 (i - 1) (f0 + ee - 1) = true
                      · rw [if_pos hb9]
                        first | (have c9 := c118; omega) | exact absurd ⟨⟨h1, h2⟩, hb9⟩ (of_decide_eq_false c96)
                      · rw [if_neg hb9]
                        first | (have c9 := c161; omega) | exact absurd ⟨h1, h2⟩ (of_decide_eq_false c132) | exact absurd (of_decide_eq_true c137).2 hb9
                    have k9 := back_left (tk := aTt (m_all S) p0) (fr := f0) (e := ee) (i := i - 1) (by omega) (by omega) (fun h => by rw [Nat.sub_add_cancel (show 1 ≤ i by omega)]; exact hd9 hi9 h) (fun h => by rw [Nat.sub_add_cancel (show 1 ≤ i by omega)]; first | (have c9 := c206; omega) | omega)
                    rw [Nat.sub_add_cancel (show 1 ≤ i by omega)] at k9
                    unfold wsum at hw ⊢
                    omega
                  · omega
                · skip
                  refine lv_aload_n hC.1 hC.2.1 dX8_goesBack_188 rfl (lv_at hl 5 rfl) ?_
                  refine g_m_part hC fi_X8_goesBack_X8 hK hX (wd9 hC 4 rfl) dX8_goesBack_189 ?_
                  refine lv_iload hC.1 hC.2.1 dX8_goesBack_192 (lv_at hl 2 rfl) ?_
                  refine l_m_part hC hK hX (i := (121 * i) + (ee)) (by omega) dX8_goesBack_194 (v := dw (aTt (m_all S) p0) f0 (ee) (i)) hP ?_
                  refine lv_aload_n hC.1 hC.2.1 dX8_goesBack_195 rfl (lv_at hl 5 rfl) ?_
                  refine g_m_part hC fi_X8_goesBack_X8 hK hX (wd9 hC 4 rfl) dX8_goesBack_196 ?_
                  refine lv_iload hC.1 hC.2.1 dX8_goesBack_199 (lv_at hl 2 rfl) ?_
                  refine lv_iconst (v := nI (1)) hC.1 hC.2.1 dX8_goesBack_201 rfl ?_
                  refine n_sub hC (a := (121 * i) + (ee)) (b := 1) dX8_goesBack_202 (by omega) ?_
                  refine l_m_part hC hK hX (i := ((121 * i) + (ee)) - (1)) (by omega) dX8_goesBack_203 (v := dw (aTt (m_all S) p0) f0 (ee - 1) (i)) (hL1 (by omega)) ?_
                  refine lv_iconst (v := nI (1)) hC.1 hC.2.1 dX8_goesBack_204 rfl ?_
                  refine n_add hC (a := dw (aTt (m_all S) p0) f0 (ee - 1) (i)) (b := 1) dX8_goesBack_205 ?_
                  refine n_icmp_ne hC (a := dw (aTt (m_all S) p0) f0 (ee) (i)) (b := (dw (aTt (m_all S) p0) f0 (ee - 1) (i)) + (1)) (tgt := 225) dX8_goesBack_206 (by decide) (by omega) (by omega) (fun c206 => ?_) (fun c206 => ?_)
                  · skip
                    have hi9 : 0 < i := by
                      refine Nat.pos_of_ne_zero (fun z => ?_)
                      have he9 : 0 < ee := by omega
                      have k9 := dw_pos (tk := aTt (m_all S) p0) (fr := f0) (e := ee - 1) (by omega)
                      rw [Nat.sub_add_cancel (show 1 ≤ ee by omega)] at k9
                      first | (exfalso; omega) | (rw [z] at c206; omega)
                    refine lv_aload_n hC.1 hC.2.1 dX8_goesBack_225 rfl (lv_at hl 5 rfl) ?_
                    refine lv_dup hC.1 hC.2.1 dX8_goesBack_226 rfl ?_
                    refine g_m_leftOut hC fi_X8_goesBack_X8 hK hX (wd9 hC 2 rfl) dX8_goesBack_227 (v := qb) rfl ?_
                    refine lv_iconst (v := nI (1)) hC.1 hC.2.1 dX8_goesBack_230 rfl ?_
                    refine n_add hC (a := qb) (b := 1) dX8_goesBack_231 ?_
                    refine p_m_leftOut hC fi_X8_goesBack_X8 hK hX (v := qb + 1) (wd9 hC 2 rfl) dX8_goesBack_232 (fun H locs hX => ?_)
                    replace hX : HH G A s.heap (wM G am (w_exchanged (w_leftOut (w_putIn (S) (qa)) (qb + 1)) (qc))) H locs := hX
                    refine lv_iinc (v := nI (i - 1)) (lv' := [(4, .int (nI (i - 1))), (8, .int (bI (decide ((0 < i ∧ 0 < ee) ∧ aTt (m_all S) p0 (i - 1) (f0 + ee - 1) = true)))), (7, .int (bI (decide (0 < i ∧ 0 < ee)))), (6, .int (nI ((121 * i) + (ee)))), (5, .int (nI (ee))), (0, .ref (am 0)), (1, .int (nI (p0))), (2, .int (nI (f0))), (3, .int (nI (t0)))]) hC.1 hC.2.1 dX8_goesBack_235 hl (k := 4) rfl (n_dec1 (by omega)) (by decide) rfl (fun ls hl => ?_)
                    refine lv_goto (tgt := 27) hC.1 hC.2.1 dX8_goesBack_238 (by decide) ?_
                    refine ih27 (i - 1) (ee) (qa) (qb + 1) (qc) ?_ ?_ ?_ ?_ _ _ ls hX (lv_sub hl [4, 0, 5, 6, 7, 8] rfl)
                    · omega
                    · omega
                    · have hd9 : 0 < i → 0 < ee → dw (aTt (m_all S) p0) f0 (ee) (i) ≠ dw (aTt (m_all S) p0) f0 (ee - 1) (i - 1) + ex9 (aTt (m_all S) p0) (i - 1) (f0 + (ee - 1)) := fun h1 h2 => by
                        rw [show f0 + (ee - 1) = f0 + ee - 1 by omega]
                        unfold ex9
                        by_cases hb9 : aTt (m_all S) p0 (i - 1) (f0 + ee - 1) = true
                        · rw [if_pos hb9]
                          first | (have c9 := c118; omega) | exact absurd ⟨⟨h1, h2⟩, hb9⟩ (of_decide_eq_false c96)
                        · rw [if_neg hb9]
                          first | (have c9 := c161; omega) | exact absurd ⟨h1, h2⟩ (of_decide_eq_false c132) | exact absurd (of_decide_eq_true c137).2 hb9
                      have k9 := back_left (tk := aTt (m_all S) p0) (fr := f0) (e := ee) (i := i - 1) (by omega) (by omega) (fun h => by rw [Nat.sub_add_cancel (show 1 ≤ i by omega)]; exact hd9 hi9 h) (fun h => by rw [Nat.sub_add_cancel (show 1 ≤ i by omega)]; first | (have c9 := c206; omega) | omega)
                      rw [Nat.sub_add_cancel (show 1 ≤ i by omega)] at k9
                      unfold wsum at hw ⊢
                      omega
                    · omega
                  · skip
                    refine lv_aload_n hC.1 hC.2.1 dX8_goesBack_209 rfl (lv_at hl 5 rfl) ?_
                    refine lv_dup hC.1 hC.2.1 dX8_goesBack_210 rfl ?_
                    refine g_m_putIn hC fi_X8_goesBack_X8 hK hX (wd9 hC 1 rfl) dX8_goesBack_211 (v := qa) rfl ?_
                    refine lv_iconst (v := nI (1)) hC.1 hC.2.1 dX8_goesBack_214 rfl ?_
                    refine n_add hC (a := qa) (b := 1) dX8_goesBack_215 ?_
                    refine p_m_putIn hC fi_X8_goesBack_X8 hK hX (v := qa + 1) (wd9 hC 1 rfl) dX8_goesBack_216 (fun H locs hX => ?_)
                    replace hX : HH G A s.heap (wM G am (w_exchanged (w_leftOut (w_putIn (S) (qa + 1)) (qb)) (qc))) H locs := hX
                    refine lv_iinc (v := nI (ee - 1)) (lv' := [(5, .int (nI (ee - 1))), (8, .int (bI (decide ((0 < i ∧ 0 < ee) ∧ aTt (m_all S) p0 (i - 1) (f0 + ee - 1) = true)))), (7, .int (bI (decide (0 < i ∧ 0 < ee)))), (6, .int (nI ((121 * i) + (ee)))), (4, .int (nI (i))), (0, .ref (am 0)), (1, .int (nI (p0))), (2, .int (nI (f0))), (3, .int (nI (t0)))]) hC.1 hC.2.1 dX8_goesBack_219 hl (k := 3) rfl (n_dec1 (by omega)) (by decide) rfl (fun ls hl => ?_)
                    refine lv_goto (tgt := 238) hC.1 hC.2.1 dX8_goesBack_222 (by decide) ?_
                    refine lv_goto (tgt := 27) hC.1 hC.2.1 dX8_goesBack_238 (by decide) ?_
                    refine ih27 (i) (ee - 1) (qa + 1) (qb) (qc) ?_ ?_ ?_ ?_ _ _ ls hX (lv_sub hl [0, 4, 5, 6, 7, 8] rfl)
                    · omega
                    · omega
                    · have hd9 : 0 < i → 0 < ee → dw (aTt (m_all S) p0) f0 (ee) (i) ≠ dw (aTt (m_all S) p0) f0 (ee - 1) (i - 1) + ex9 (aTt (m_all S) p0) (i - 1) (f0 + (ee - 1)) := fun h1 h2 => by
                        rw [show f0 + (ee - 1) = f0 + ee - 1 by omega]
                        unfold ex9
                        by_cases hb9 : aTt (m_all S) p0 (i - 1) (f0 + ee - 1) = true
                        · rw [if_pos hb9]
                          first | (have c9 := c118; omega) | exact absurd ⟨⟨h1, h2⟩, hb9⟩ (of_decide_eq_false c96)
                        · rw [if_neg hb9]
                          first | (have c9 := c161; omega) | exact absurd ⟨h1, h2⟩ (of_decide_eq_false c132) | exact absurd (of_decide_eq_true c137).2 hb9
                      have k9 := back_put (tk := aTt (m_all S) p0) (fr := f0) (e := ee - 1) (i := i) (by omega) (by omega) (fun h => by rw [Nat.sub_add_cancel (show 1 ≤ ee by omega)]; exact hd9 h (by omega)) (by rw [Nat.sub_add_cancel (show 1 ≤ ee by omega)]; omega)
                      rw [Nat.sub_add_cancel (show 1 ≤ ee by omega)] at k9
                      unfold wsum at hw ⊢
                      omega
                    · omega
              · skip
                have t132 := of_decide_eq_true c132
                refine lv_iload hC.1 hC.2.1 dX8_goesBack_135 (lv_at hl 0 rfl) ?_
                refine b_if_ne hC (b := decide ((0 < i ∧ 0 < ee) ∧ aTt (m_all S) p0 (i - 1) (f0 + ee - 1) = true)) (tgt := 183) dX8_goesBack_137 (by decide) (fun c137 => ?_) (fun c137 => ?_)
                · skip
                  refine lv_iload hC.1 hC.2.1 dX8_goesBack_183 (lv_at hl 3 rfl) ?_
                  refine n_if_le hC (a := ee) (tgt := 225) dX8_goesBack_185 (by decide) (by omega) (fun c185 => ?_) (fun c185 => ?_)
                  · skip
                    have hi9 : 0 < i := by
                      refine Nat.pos_of_ne_zero (fun z => ?_)
                      have he9 : 0 < ee := by omega
                      have k9 := dw_pos (tk := aTt (m_all S) p0) (fr := f0) (e := ee - 1) (by omega)
                      rw [Nat.sub_add_cancel (show 1 ≤ ee by omega)] at k9
                      first | (exfalso; omega) | (rw [z] at c206; omega)
                    refine lv_aload_n hC.1 hC.2.1 dX8_goesBack_225 rfl (lv_at hl 5 rfl) ?_
                    refine lv_dup hC.1 hC.2.1 dX8_goesBack_226 rfl ?_
                    refine g_m_leftOut hC fi_X8_goesBack_X8 hK hX (wd9 hC 2 rfl) dX8_goesBack_227 (v := qb) rfl ?_
                    refine lv_iconst (v := nI (1)) hC.1 hC.2.1 dX8_goesBack_230 rfl ?_
                    refine n_add hC (a := qb) (b := 1) dX8_goesBack_231 ?_
                    refine p_m_leftOut hC fi_X8_goesBack_X8 hK hX (v := qb + 1) (wd9 hC 2 rfl) dX8_goesBack_232 (fun H locs hX => ?_)
                    replace hX : HH G A s.heap (wM G am (w_exchanged (w_leftOut (w_putIn (S) (qa)) (qb + 1)) (qc))) H locs := hX
                    refine lv_iinc (v := nI (i - 1)) (lv' := [(4, .int (nI (i - 1))), (8, .int (bI (decide ((0 < i ∧ 0 < ee) ∧ aTt (m_all S) p0 (i - 1) (f0 + ee - 1) = true)))), (7, .int (bI (decide (0 < i ∧ 0 < ee)))), (6, .int (nI ((121 * i) + (ee)))), (5, .int (nI (ee))), (0, .ref (am 0)), (1, .int (nI (p0))), (2, .int (nI (f0))), (3, .int (nI (t0)))]) hC.1 hC.2.1 dX8_goesBack_235 hl (k := 4) rfl (n_dec1 (by omega)) (by decide) rfl (fun ls hl => ?_)
                    refine lv_goto (tgt := 27) hC.1 hC.2.1 dX8_goesBack_238 (by decide) ?_
                    refine ih27 (i - 1) (ee) (qa) (qb + 1) (qc) ?_ ?_ ?_ ?_ _ _ ls hX (lv_sub hl [4, 0, 5, 6, 7, 8] rfl)
                    · omega
                    · omega
                    · have hd9 : 0 < i → 0 < ee → dw (aTt (m_all S) p0) f0 (ee) (i) ≠ dw (aTt (m_all S) p0) f0 (ee - 1) (i - 1) + ex9 (aTt (m_all S) p0) (i - 1) (f0 + (ee - 1)) := fun h1 h2 => by
                        rw [show f0 + (ee - 1) = f0 + ee - 1 by omega]
                        unfold ex9
                        by_cases hb9 : aTt (m_all S) p0 (i - 1) (f0 + ee - 1) = true
                        · rw [if_pos hb9]
                          first | (have c9 := c118; omega) | exact absurd ⟨⟨h1, h2⟩, hb9⟩ (of_decide_eq_false c96)
                        · rw [if_neg hb9]
                          first | (have c9 := c161; omega) | exact absurd ⟨h1, h2⟩ (of_decide_eq_false c132) | exact absurd (of_decide_eq_true c137).2 hb9
                      have k9 := back_left (tk := aTt (m_all S) p0) (fr := f0) (e := ee) (i := i - 1) (by omega) (by omega) (fun h => by rw [Nat.sub_add_cancel (show 1 ≤ i by omega)]; exact hd9 hi9 h) (fun h => by rw [Nat.sub_add_cancel (show 1 ≤ i by omega)]; first | (have c9 := c206; omega) | omega)
                      rw [Nat.sub_add_cancel (show 1 ≤ i by omega)] at k9
                      unfold wsum at hw ⊢
                      omega
                    · omega
                  · skip
                    refine lv_aload_n hC.1 hC.2.1 dX8_goesBack_188 rfl (lv_at hl 5 rfl) ?_
                    refine g_m_part hC fi_X8_goesBack_X8 hK hX (wd9 hC 4 rfl) dX8_goesBack_189 ?_
                    refine lv_iload hC.1 hC.2.1 dX8_goesBack_192 (lv_at hl 2 rfl) ?_
                    refine l_m_part hC hK hX (i := (121 * i) + (ee)) (by omega) dX8_goesBack_194 (v := dw (aTt (m_all S) p0) f0 (ee) (i)) hP ?_
                    refine lv_aload_n hC.1 hC.2.1 dX8_goesBack_195 rfl (lv_at hl 5 rfl) ?_
                    refine g_m_part hC fi_X8_goesBack_X8 hK hX (wd9 hC 4 rfl) dX8_goesBack_196 ?_
                    refine lv_iload hC.1 hC.2.1 dX8_goesBack_199 (lv_at hl 2 rfl) ?_
                    refine lv_iconst (v := nI (1)) hC.1 hC.2.1 dX8_goesBack_201 rfl ?_
                    refine n_sub hC (a := (121 * i) + (ee)) (b := 1) dX8_goesBack_202 (by omega) ?_
                    refine l_m_part hC hK hX (i := ((121 * i) + (ee)) - (1)) (by omega) dX8_goesBack_203 (v := dw (aTt (m_all S) p0) f0 (ee - 1) (i)) (hL1 (by omega)) ?_
                    refine lv_iconst (v := nI (1)) hC.1 hC.2.1 dX8_goesBack_204 rfl ?_
                    refine n_add hC (a := dw (aTt (m_all S) p0) f0 (ee - 1) (i)) (b := 1) dX8_goesBack_205 ?_
                    refine n_icmp_ne hC (a := dw (aTt (m_all S) p0) f0 (ee) (i)) (b := (dw (aTt (m_all S) p0) f0 (ee - 1) (i)) + (1)) (tgt := 225) dX8_goesBack_206 (by decide) (by omega) (by omega) (fun c206 => ?_) (fun c206 => ?_)
                    · skip
                      have hi9 : 0 < i := by
                        refine Nat.pos_of_ne_zero (fun z => ?_)
                        have he9 : 0 < ee := by omega
                        have k9 := dw_pos (tk := aTt (m_all S) p0) (fr := f0) (e := ee - 1) (by omega)
                        rw [Nat.sub_add_cancel (show 1 ≤ ee by omega)] at k9
                        first | (exfalso; omega) | (rw [z] at c206; omega)
                      refine lv_aload_n hC.1 hC.2.1 dX8_goesBack_225 rfl (lv_at hl 5 rfl) ?_
                      refine lv_dup hC.1 hC.2.1 dX8_goesBack_226 rfl ?_
                      refine g_m_leftOut hC fi_X8_goesBack_X8 hK hX (wd9 hC 2 rfl) dX8_goesBack_227 (v := qb) rfl ?_
                      refine lv_iconst (v := nI (1)) hC.1 hC.2.1 dX8_goesBack_230 rfl ?_
                      refine n_add hC (a := qb) (b := 1) dX8_goesBack_231 ?_
                      refine p_m_leftOut hC fi_X8_goesBack_X8 hK hX (v := qb + 1) (wd9 hC 2 rfl) dX8_goesBack_232 (fun H locs hX => ?_)
                      replace hX : HH G A s.heap (wM G am (w_exchanged (w_leftOut (w_putIn (S) (qa)) (qb + 1)) (qc))) H locs := hX
                      refine lv_iinc (v := nI (i - 1)) (lv' := [(4, .int (nI (i - 1))), (8, .int (bI (decide ((0 < i ∧ 0 < ee) ∧ aTt (m_all S) p0 (i - 1) (f0 + ee - 1) = true)))), (7, .int (bI (decide (0 < i ∧ 0 < ee)))), (6, .int (nI ((121 * i) + (ee)))), (5, .int (nI (ee))), (0, .ref (am 0)), (1, .int (nI (p0))), (2, .int (nI (f0))), (3, .int (nI (t0)))]) hC.1 hC.2.1 dX8_goesBack_235 hl (k := 4) rfl (n_dec1 (by omega)) (by decide) rfl (fun ls hl => ?_)
                      refine lv_goto (tgt := 27) hC.1 hC.2.1 dX8_goesBack_238 (by decide) ?_
                      refine ih27 (i - 1) (ee) (qa) (qb + 1) (qc) ?_ ?_ ?_ ?_ _ _ ls hX (lv_sub hl [4, 0, 5, 6, 7, 8] rfl)
                      · omega
                      · omega
                      · have hd9 : 0 < i → 0 < ee → dw (aTt (m_all S) p0) f0 (ee) (i) ≠ dw (aTt (m_all S) p0) f0 (ee - 1) (i - 1) + ex9 (aTt (m_all S) p0) (i - 1) (f0 + (ee - 1)) := fun h1 h2 => by
                          rw [show f0 + (ee - 1) = f0 + ee - 1 by omega]
                          unfold ex9
                          by_cases hb9 : aTt (m_all S) p0 (i - 1) (f0 + ee - 1) = true
                          · rw [if_pos hb9]
                            first | (have c9 := c118; omega) | exact absurd ⟨⟨h1, h2⟩, hb9⟩ (of_decide_eq_false c96)
                          · rw [if_neg hb9]
                            first | (have c9 := c161; omega) | exact absurd ⟨h1, h2⟩ (of_decide_eq_false c132) | exact absurd (of_decide_eq_true c137).2 hb9
                        have k9 := back_left (tk := aTt (m_all S) p0) (fr := f0) (e := ee) (i := i - 1) (by omega) (by omega) (fun h => by rw [Nat.sub_add_cancel (show 1 ≤ i by omega)]; exact hd9 hi9 h) (fun h => by rw [Nat.sub_add_cancel (show 1 ≤ i by omega)]; first | (have c9 := c206; omega) | omega)
                        rw [Nat.sub_add_cancel (show 1 ≤ i by omega)] at k9
                        unfold wsum at hw ⊢
                        omega
                      · omega
                    · skip
                      refine lv_aload_n hC.1 hC.2.1 dX8_goesBack_209 rfl (lv_at hl 5 rfl) ?_
                      refine lv_dup hC.1 hC.2.1 dX8_goesBack_210 rfl ?_
                      refine g_m_putIn hC fi_X8_goesBack_X8 hK hX (wd9 hC 1 rfl) dX8_goesBack_211 (v := qa) rfl ?_
                      refine lv_iconst (v := nI (1)) hC.1 hC.2.1 dX8_goesBack_214 rfl ?_
                      refine n_add hC (a := qa) (b := 1) dX8_goesBack_215 ?_
                      refine p_m_putIn hC fi_X8_goesBack_X8 hK hX (v := qa + 1) (wd9 hC 1 rfl) dX8_goesBack_216 (fun H locs hX => ?_)
                      replace hX : HH G A s.heap (wM G am (w_exchanged (w_leftOut (w_putIn (S) (qa + 1)) (qb)) (qc))) H locs := hX
                      refine lv_iinc (v := nI (ee - 1)) (lv' := [(5, .int (nI (ee - 1))), (8, .int (bI (decide ((0 < i ∧ 0 < ee) ∧ aTt (m_all S) p0 (i - 1) (f0 + ee - 1) = true)))), (7, .int (bI (decide (0 < i ∧ 0 < ee)))), (6, .int (nI ((121 * i) + (ee)))), (4, .int (nI (i))), (0, .ref (am 0)), (1, .int (nI (p0))), (2, .int (nI (f0))), (3, .int (nI (t0)))]) hC.1 hC.2.1 dX8_goesBack_219 hl (k := 3) rfl (n_dec1 (by omega)) (by decide) rfl (fun ls hl => ?_)
                      refine lv_goto (tgt := 238) hC.1 hC.2.1 dX8_goesBack_222 (by decide) ?_
                      refine lv_goto (tgt := 27) hC.1 hC.2.1 dX8_goesBack_238 (by decide) ?_
                      refine ih27 (i) (ee - 1) (qa + 1) (qb) (qc) ?_ ?_ ?_ ?_ _ _ ls hX (lv_sub hl [0, 4, 5, 6, 7, 8] rfl)
                      · omega
                      · omega
                      · have hd9 : 0 < i → 0 < ee → dw (aTt (m_all S) p0) f0 (ee) (i) ≠ dw (aTt (m_all S) p0) f0 (ee - 1) (i - 1) + ex9 (aTt (m_all S) p0) (i - 1) (f0 + (ee - 1)) := fun h1 h2 => by
                          rw [show f0 + (ee - 1) = f0 + ee - 1 by omega]
                          unfold ex9
                          by_cases hb9 : aTt (m_all S) p0 (i - 1) (f0 + ee - 1) = true
                          · rw [if_pos hb9]
                            first | (have c9 := c118; omega) | exact absurd ⟨⟨h1, h2⟩, hb9⟩ (of_decide_eq_false c96)
                          · rw [if_neg hb9]
                            first | (have c9 := c161; omega) | exact absurd ⟨h1, h2⟩ (of_decide_eq_false c132) | exact absurd (of_decide_eq_true c137).2 hb9
                        have k9 := back_put (tk := aTt (m_all S) p0) (fr := f0) (e := ee - 1) (i := i) (by omega) (by omega) (fun h => by rw [Nat.sub_add_cancel (show 1 ≤ ee by omega)]; exact hd9 h (by omega)) (by rw [Nat.sub_add_cancel (show 1 ≤ ee by omega)]; omega)
                        rw [Nat.sub_add_cancel (show 1 ≤ ee by omega)] at k9
                        unfold wsum at hw ⊢
                        omega
                      · omega
                · skip
                  refine lv_aload_n hC.1 hC.2.1 dX8_goesBack_140 rfl (lv_at hl 5 rfl) ?_
                  refine g_m_part hC fi_X8_goesBack_X8 hK hX (wd9 hC 4 rfl) dX8_goesBack_141 ?_
                  refine lv_iload hC.1 hC.2.1 dX8_goesBack_144 (lv_at hl 2 rfl) ?_
                  refine l_m_part hC hK hX (i := (121 * i) + (ee)) (by omega) dX8_goesBack_146 (v := dw (aTt (m_all S) p0) f0 (ee) (i)) hP ?_
                  refine lv_aload_n hC.1 hC.2.1 dX8_goesBack_147 rfl (lv_at hl 5 rfl) ?_
                  refine g_m_part hC fi_X8_goesBack_X8 hK hX (wd9 hC 4 rfl) dX8_goesBack_148 ?_
                  refine lv_iload hC.1 hC.2.1 dX8_goesBack_151 (lv_at hl 2 rfl) ?_
                  refine lv_bipush (v := nI (121)) hC.1 hC.2.1 dX8_goesBack_153 (by decide +kernel) ?_
                  refine n_sub hC (a := (121 * i) + (ee)) (b := 121) dX8_goesBack_155 (by omega) ?_
                  refine lv_iconst (v := nI (1)) hC.1 hC.2.1 dX8_goesBack_156 rfl ?_
                  refine n_sub hC (a := ((121 * i) + (ee)) - (121)) (b := 1) dX8_goesBack_157 (by omega) ?_
                  refine l_m_part hC hK hX (i := (((121 * i) + (ee)) - (121)) - (1)) (by omega) dX8_goesBack_158 (v := dw (aTt (m_all S) p0) f0 (ee - 1) (i - 1)) (hD (by omega) (by omega)) ?_
                  refine lv_iconst (v := nI (1)) hC.1 hC.2.1 dX8_goesBack_159 rfl ?_
                  refine n_add hC (a := dw (aTt (m_all S) p0) f0 (ee - 1) (i - 1)) (b := 1) dX8_goesBack_160 ?_
                  refine n_icmp_ne hC (a := dw (aTt (m_all S) p0) f0 (ee) (i)) (b := (dw (aTt (m_all S) p0) f0 (ee - 1) (i - 1)) + (1)) (tgt := 183) dX8_goesBack_161 (by decide) (by omega) (by omega) (fun c161 => ?_) (fun c161 => ?_)
                  · skip
                    refine lv_iload hC.1 hC.2.1 dX8_goesBack_183 (lv_at hl 3 rfl) ?_
                    refine n_if_le hC (a := ee) (tgt := 225) dX8_goesBack_185 (by decide) (by omega) (fun c185 => ?_) (fun c185 => ?_)
                    · skip
                      have hi9 : 0 < i := by
                        refine Nat.pos_of_ne_zero (fun z => ?_)
                        have he9 : 0 < ee := by omega
                        have k9 := dw_pos (tk := aTt (m_all S) p0) (fr := f0) (e := ee - 1) (by omega)
                        rw [Nat.sub_add_cancel (show 1 ≤ ee by omega)] at k9
                        first | (exfalso; omega) | (rw [z] at c206; omega)
                      refine lv_aload_n hC.1 hC.2.1 dX8_goesBack_225 rfl (lv_at hl 5 rfl) ?_
                      refine lv_dup hC.1 hC.2.1 dX8_goesBack_226 rfl ?_
                      refine g_m_leftOut hC fi_X8_goesBack_X8 hK hX (wd9 hC 2 rfl) dX8_goesBack_227 (v := qb) rfl ?_
                      refine lv_iconst (v := nI (1)) hC.1 hC.2.1 dX8_goesBack_230 rfl ?_
                      refine n_add hC (a := qb) (b := 1) dX8_goesBack_231 ?_
                      refine p_m_leftOut hC fi_X8_goesBack_X8 hK hX (v := qb + 1) (wd9 hC 2 rfl) dX8_goesBack_232 (fun H locs hX => ?_)
                      replace hX : HH G A s.heap (wM G am (w_exchanged (w_leftOut (w_putIn (S) (qa)) (qb + 1)) (qc))) H locs := hX
                      refine lv_iinc (v := nI (i - 1)) (lv' := [(4, .int (nI (i - 1))), (8, .int (bI (decide ((0 < i ∧ 0 < ee) ∧ aTt (m_all S) p0 (i - 1) (f0 + ee - 1) = true)))), (7, .int (bI (decide (0 < i ∧ 0 < ee)))), (6, .int (nI ((121 * i) + (ee)))), (5, .int (nI (ee))), (0, .ref (am 0)), (1, .int (nI (p0))), (2, .int (nI (f0))), (3, .int (nI (t0)))]) hC.1 hC.2.1 dX8_goesBack_235 hl (k := 4) rfl (n_dec1 (by omega)) (by decide) rfl (fun ls hl => ?_)
                      refine lv_goto (tgt := 27) hC.1 hC.2.1 dX8_goesBack_238 (by decide) ?_
                      refine ih27 (i - 1) (ee) (qa) (qb + 1) (qc) ?_ ?_ ?_ ?_ _ _ ls hX (lv_sub hl [4, 0, 5, 6, 7, 8] rfl)
                      · omega
                      · omega
                      · have hd9 : 0 < i → 0 < ee → dw (aTt (m_all S) p0) f0 (ee) (i) ≠ dw (aTt (m_all S) p0) f0 (ee - 1) (i - 1) + ex9 (aTt (m_all S) p0) (i - 1) (f0 + (ee - 1)) := fun h1 h2 => by
                          rw [show f0 + (ee - 1) = f0 + ee - 1 by omega]
                          unfold ex9
                          by_cases hb9 : aTt (m_all S) p0 (i - 1) (f0 + ee - 1) = true
                          · rw [if_pos hb9]
                            first | (have c9 := c118; omega) | exact absurd ⟨⟨h1, h2⟩, hb9⟩ (of_decide_eq_false c96)
                          · rw [if_neg hb9]
                            first | (have c9 := c161; omega) | exact absurd ⟨h1, h2⟩ (of_decide_eq_false c132) | exact absurd (of_decide_eq_true c137).2 hb9
                        have k9 := back_left (tk := aTt (m_all S) p0) (fr := f0) (e := ee) (i := i - 1) (by omega) (by omega) (fun h => by rw [Nat.sub_add_cancel (show 1 ≤ i by omega)]; exact hd9 hi9 h) (fun h => by rw [Nat.sub_add_cancel (show 1 ≤ i by omega)]; first | (have c9 := c206; omega) | omega)
                        rw [Nat.sub_add_cancel (show 1 ≤ i by omega)] at k9
                        unfold wsum at hw ⊢
                        omega
                      · omega
                    · skip
                      refine lv_aload_n hC.1 hC.2.1 dX8_goesBack_188 rfl (lv_at hl 5 rfl) ?_
                      refine g_m_part hC fi_X8_goesBack_X8 hK hX (wd9 hC 4 rfl) dX8_goesBack_189 ?_
                      refine lv_iload hC.1 hC.2.1 dX8_goesBack_192 (lv_at hl 2 rfl) ?_
                      refine l_m_part hC hK hX (i := (121 * i) + (ee)) (by omega) dX8_goesBack_194 (v := dw (aTt (m_all S) p0) f0 (ee) (i)) hP ?_
                      refine lv_aload_n hC.1 hC.2.1 dX8_goesBack_195 rfl (lv_at hl 5 rfl) ?_
                      refine g_m_part hC fi_X8_goesBack_X8 hK hX (wd9 hC 4 rfl) dX8_goesBack_196 ?_
                      refine lv_iload hC.1 hC.2.1 dX8_goesBack_199 (lv_at hl 2 rfl) ?_
                      refine lv_iconst (v := nI (1)) hC.1 hC.2.1 dX8_goesBack_201 rfl ?_
                      refine n_sub hC (a := (121 * i) + (ee)) (b := 1) dX8_goesBack_202 (by omega) ?_
                      refine l_m_part hC hK hX (i := ((121 * i) + (ee)) - (1)) (by omega) dX8_goesBack_203 (v := dw (aTt (m_all S) p0) f0 (ee - 1) (i)) (hL1 (by omega)) ?_
                      refine lv_iconst (v := nI (1)) hC.1 hC.2.1 dX8_goesBack_204 rfl ?_
                      refine n_add hC (a := dw (aTt (m_all S) p0) f0 (ee - 1) (i)) (b := 1) dX8_goesBack_205 ?_
                      refine n_icmp_ne hC (a := dw (aTt (m_all S) p0) f0 (ee) (i)) (b := (dw (aTt (m_all S) p0) f0 (ee - 1) (i)) + (1)) (tgt := 225) dX8_goesBack_206 (by decide) (by omega) (by omega) (fun c206 => ?_) (fun c206 => ?_)
                      · skip
                        have hi9 : 0 < i := by
                          refine Nat.pos_of_ne_zero (fun z => ?_)
                          have he9 : 0 < ee := by omega
                          have k9 := dw_pos (tk := aTt (m_all S) p0) (fr := f0) (e := ee - 1) (by omega)
                          rw [Nat.sub_add_cancel (show 1 ≤ ee by omega)] at k9
                          first | (exfalso; omega) | (rw [z] at c206; omega)
                        refine lv_aload_n hC.1 hC.2.1 dX8_goesBack_225 rfl (lv_at hl 5 rfl) ?_
                        refine lv_dup hC.1 hC.2.1 dX8_goesBack_226 rfl ?_
                        refine g_m_leftOut hC fi_X8_goesBack_X8 hK hX (wd9 hC 2 rfl) dX8_goesBack_227 (v := qb) rfl ?_
                        refine lv_iconst (v := nI (1)) hC.1 hC.2.1 dX8_goesBack_230 rfl ?_
                        refine n_add hC (a := qb) (b := 1) dX8_goesBack_231 ?_
                        refine p_m_leftOut hC fi_X8_goesBack_X8 hK hX (v := qb + 1) (wd9 hC 2 rfl) dX8_goesBack_232 (fun H locs hX => ?_)
                        replace hX : HH G A s.heap (wM G am (w_exchanged (w_leftOut (w_putIn (S) (qa)) (qb + 1)) (qc))) H locs := hX
                        refine lv_iinc (v := nI (i - 1)) (lv' := [(4, .int (nI (i - 1))), (8, .int (bI (decide ((0 < i ∧ 0 < ee) ∧ aTt (m_all S) p0 (i - 1) (f0 + ee - 1) = true)))), (7, .int (bI (decide (0 < i ∧ 0 < ee)))), (6, .int (nI ((121 * i) + (ee)))), (5, .int (nI (ee))), (0, .ref (am 0)), (1, .int (nI (p0))), (2, .int (nI (f0))), (3, .int (nI (t0)))]) hC.1 hC.2.1 dX8_goesBack_235 hl (k := 4) rfl (n_dec1 (by omega)) (by decide) rfl (fun ls hl => ?_)
                        refine lv_goto (tgt := 27) hC.1 hC.2.1 dX8_goesBack_238 (by decide) ?_
                        refine ih27 (i - 1) (ee) (qa) (qb + 1) (qc) ?_ ?_ ?_ ?_ _ _ ls hX (lv_sub hl [4, 0, 5, 6, 7, 8] rfl)
                        · omega
                        · omega
                        · have hd9 : 0 < i → 0 < ee → dw (aTt (m_all S) p0) f0 (ee) (i) ≠ dw (aTt (m_all S) p0) f0 (ee - 1) (i - 1) + ex9 (aTt (m_all S) p0) (i - 1) (f0 + (ee - 1)) := fun h1 h2 => by
                            rw [show f0 + (ee - 1) = f0 + ee - 1 by omega]
                            unfold ex9
                            by_cases hb9 : aTt (m_all S) p0 (i - 1) (f0 + ee - 1) = true
                            · rw [if_pos hb9]
                              first | (have c9 := c118; omega) | exact absurd ⟨⟨h1, h2⟩, hb9⟩ (of_decide_eq_false c96)
                            · rw [if_neg hb9]
                              first | (have c9 := c161; omega) | exact absurd ⟨h1, h2⟩ (of_decide_eq_false c132) | exact absurd (of_decide_eq_true c137).2 hb9
                          have k9 := back_left (tk := aTt (m_all S) p0) (fr := f0) (e := ee) (i := i - 1) (by omega) (by omega) (fun h => by rw [Nat.sub_add_cancel (show 1 ≤ i by omega)]; exact hd9 hi9 h) (fun h => by rw [Nat.sub_add_cancel (show 1 ≤ i by omega)]; first | (have c9 := c206; omega) | omega)
                          rw [Nat.sub_add_cancel (show 1 ≤ i by omega)] at k9
                          unfold wsum at hw ⊢
                          omega
                        · omega
                      · skip
                        refine lv_aload_n hC.1 hC.2.1 dX8_goesBack_209 rfl (lv_at hl 5 rfl) ?_
                        refine lv_dup hC.1 hC.2.1 dX8_goesBack_210 rfl ?_
                        refine g_m_putIn hC fi_X8_goesBack_X8 hK hX (wd9 hC 1 rfl) dX8_goesBack_211 (v := qa) rfl ?_
                        refine lv_iconst (v := nI (1)) hC.1 hC.2.1 dX8_goesBack_214 rfl ?_
                        refine n_add hC (a := qa) (b := 1) dX8_goesBack_215 ?_
                        refine p_m_putIn hC fi_X8_goesBack_X8 hK hX (v := qa + 1) (wd9 hC 1 rfl) dX8_goesBack_216 (fun H locs hX => ?_)
                        replace hX : HH G A s.heap (wM G am (w_exchanged (w_leftOut (w_putIn (S) (qa + 1)) (qb)) (qc))) H locs := hX
                        refine lv_iinc (v := nI (ee - 1)) (lv' := [(5, .int (nI (ee - 1))), (8, .int (bI (decide ((0 < i ∧ 0 < ee) ∧ aTt (m_all S) p0 (i - 1) (f0 + ee - 1) = true)))), (7, .int (bI (decide (0 < i ∧ 0 < ee)))), (6, .int (nI ((121 * i) + (ee)))), (4, .int (nI (i))), (0, .ref (am 0)), (1, .int (nI (p0))), (2, .int (nI (f0))), (3, .int (nI (t0)))]) hC.1 hC.2.1 dX8_goesBack_219 hl (k := 3) rfl (n_dec1 (by omega)) (by decide) rfl (fun ls hl => ?_)
                        refine lv_goto (tgt := 238) hC.1 hC.2.1 dX8_goesBack_222 (by decide) ?_
                        refine lv_goto (tgt := 27) hC.1 hC.2.1 dX8_goesBack_238 (by decide) ?_
                        refine ih27 (i) (ee - 1) (qa + 1) (qb) (qc) ?_ ?_ ?_ ?_ _ _ ls hX (lv_sub hl [0, 4, 5, 6, 7, 8] rfl)
                        · omega
                        · omega
                        · have hd9 : 0 < i → 0 < ee → dw (aTt (m_all S) p0) f0 (ee) (i) ≠ dw (aTt (m_all S) p0) f0 (ee - 1) (i - 1) + ex9 (aTt (m_all S) p0) (i - 1) (f0 + (ee - 1)) := fun h1 h2 => by
                            rw [show f0 + (ee - 1) = f0 + ee - 1 by omega]
                            unfold ex9
                            by_cases hb9 : aTt (m_all S) p0 (i - 1) (f0 + ee - 1) = true
                            · rw [if_pos hb9]
                              first | (have c9 := c118; omega) | exact absurd ⟨⟨h1, h2⟩, hb9⟩ (of_decide_eq_false c96)
                            · rw [if_neg hb9]
                              first | (have c9 := c161; omega) | exact absurd ⟨h1, h2⟩ (of_decide_eq_false c132) | exact absurd (of_decide_eq_true c137).2 hb9
                          have k9 := back_put (tk := aTt (m_all S) p0) (fr := f0) (e := ee - 1) (i := i) (by omega) (by omega) (fun h => by rw [Nat.sub_add_cancel (show 1 ≤ ee by omega)]; exact hd9 h (by omega)) (by rw [Nat.sub_add_cancel (show 1 ≤ ee by omega)]; omega)
                          rw [Nat.sub_add_cancel (show 1 ≤ ee by omega)] at k9
                          unfold wsum at hw ⊢
                          omega
                        · omega
                  · skip
                    refine lv_aload_n hC.1 hC.2.1 dX8_goesBack_164 rfl (lv_at hl 5 rfl) ?_
                    refine lv_dup hC.1 hC.2.1 dX8_goesBack_165 rfl ?_
                    refine g_m_exchanged hC fi_X8_goesBack_X8 hK hX (wd9 hC 3 rfl) dX8_goesBack_166 (v := qc) rfl ?_
                    refine lv_iconst (v := nI (1)) hC.1 hC.2.1 dX8_goesBack_169 rfl ?_
                    refine n_add hC (a := qc) (b := 1) dX8_goesBack_170 ?_
                    refine p_m_exchanged hC fi_X8_goesBack_X8 hK hX (v := qc + 1) (wd9 hC 3 rfl) dX8_goesBack_171 (fun H locs hX => ?_)
                    replace hX : HH G A s.heap (wM G am (w_exchanged (w_leftOut (w_putIn (S) (qa)) (qb)) (qc + 1))) H locs := hX
                    refine lv_iinc (v := nI (i - 1)) (lv' := [(4, .int (nI (i - 1))), (8, .int (bI (decide ((0 < i ∧ 0 < ee) ∧ aTt (m_all S) p0 (i - 1) (f0 + ee - 1) = true)))), (7, .int (bI (decide (0 < i ∧ 0 < ee)))), (6, .int (nI ((121 * i) + (ee)))), (5, .int (nI (ee))), (0, .ref (am 0)), (1, .int (nI (p0))), (2, .int (nI (f0))), (3, .int (nI (t0)))]) hC.1 hC.2.1 dX8_goesBack_174 hl (k := 4) rfl (n_dec1 (by omega)) (by decide) rfl (fun ls hl => ?_)
                    refine lv_iinc (v := nI (ee - 1)) (lv' := [(5, .int (nI (ee - 1))), (4, .int (nI (i - 1))), (8, .int (bI (decide ((0 < i ∧ 0 < ee) ∧ aTt (m_all S) p0 (i - 1) (f0 + ee - 1) = true)))), (7, .int (bI (decide (0 < i ∧ 0 < ee)))), (6, .int (nI ((121 * i) + (ee)))), (0, .ref (am 0)), (1, .int (nI (p0))), (2, .int (nI (f0))), (3, .int (nI (t0)))]) hC.1 hC.2.1 dX8_goesBack_177 hl (k := 4) rfl (n_dec1 (by omega)) (by decide) rfl (fun ls hl => ?_)
                    refine lv_goto (tgt := 238) hC.1 hC.2.1 dX8_goesBack_180 (by decide) ?_
                    refine lv_goto (tgt := 27) hC.1 hC.2.1 dX8_goesBack_238 (by decide) ?_
                    refine ih27 (i - 1) (ee - 1) (qa) (qb) (qc + 1) ?_ ?_ ?_ ?_ _ _ ls hX (lv_sub hl [0, 1, 5, 6, 7, 8] rfl)
                    · omega
                    · omega
                    · have t9 := (of_decide_eq_true c132)
                      have u9 : ¬ aTt (m_all S) p0 (i - 1) (f0 + (ee - 1)) = true := fun z => of_decide_eq_false c137 ⟨t9, by rwa [show f0 + ee - 1 = f0 + (ee - 1) by omega]⟩
                      have x9 : ex9 (aTt (m_all S) p0) (i - 1) (f0 + (ee - 1)) = 1 := if_neg u9
                      have y9 : ey9 (aTt (m_all S) p0) (i - 1) (f0 + (ee - 1)) = 2097153 := if_neg u9
                      have k9 := back_diag (tk := aTt (m_all S) p0) (fr := f0) (e := ee - 1) (i := i - 1) (by omega) (by omega) (by rw [Nat.sub_add_cancel t9.2, Nat.sub_add_cancel t9.1, x9]; omega)
                      rw [Nat.sub_add_cancel t9.2, Nat.sub_add_cancel t9.1, y9] at k9
                      unfold wsum at hw ⊢
                      omega
                    · omega
            · skip
              have t96 := (of_decide_eq_true c96).1
              refine lv_aload_n hC.1 hC.2.1 dX8_goesBack_99 rfl (lv_at hl 5 rfl) ?_
              refine g_m_part hC fi_X8_goesBack_X8 hK hX (wd9 hC 4 rfl) dX8_goesBack_100 ?_
              refine lv_iload hC.1 hC.2.1 dX8_goesBack_103 (lv_at hl 2 rfl) ?_
              refine l_m_part hC hK hX (i := (121 * i) + (ee)) (by omega) dX8_goesBack_105 (v := dw (aTt (m_all S) p0) f0 (ee) (i)) hP ?_
              refine lv_aload_n hC.1 hC.2.1 dX8_goesBack_106 rfl (lv_at hl 5 rfl) ?_
              refine g_m_part hC fi_X8_goesBack_X8 hK hX (wd9 hC 4 rfl) dX8_goesBack_107 ?_
              refine lv_iload hC.1 hC.2.1 dX8_goesBack_110 (lv_at hl 2 rfl) ?_
              refine lv_bipush (v := nI (121)) hC.1 hC.2.1 dX8_goesBack_112 (by decide +kernel) ?_
              refine n_sub hC (a := (121 * i) + (ee)) (b := 121) dX8_goesBack_114 (by omega) ?_
              refine lv_iconst (v := nI (1)) hC.1 hC.2.1 dX8_goesBack_115 rfl ?_
              refine n_sub hC (a := ((121 * i) + (ee)) - (121)) (b := 1) dX8_goesBack_116 (by omega) ?_
              refine l_m_part hC hK hX (i := (((121 * i) + (ee)) - (121)) - (1)) (by omega) dX8_goesBack_117 (v := dw (aTt (m_all S) p0) f0 (ee - 1) (i - 1)) (hD (by omega) (by omega)) ?_
              refine n_icmp_ne hC (a := dw (aTt (m_all S) p0) f0 (ee) (i)) (b := dw (aTt (m_all S) p0) f0 (ee - 1) (i - 1)) (tgt := 130) dX8_goesBack_118 (by decide) (by omega) (by omega) (fun c118 => ?_) (fun c118 => ?_)
              · skip
                refine lv_iload hC.1 hC.2.1 dX8_goesBack_130 (lv_at hl 1 rfl) ?_
                refine b_if_eq hC (b := decide (0 < i ∧ 0 < ee)) (tgt := 183) dX8_goesBack_132 (by decide) (fun c132 => ?_) (fun c132 => ?_)
                · skip
                  refine lv_iload hC.1 hC.2.1 dX8_goesBack_183 (lv_at hl 3 rfl) ?_
                  refine n_if_le hC (a := ee) (tgt := 225) dX8_goesBack_185 (by decide) (by omega) (fun c185 => ?_) (fun c185 => ?_)
                  · skip
                    have hi9 : 0 < i := by
                      refine Nat.pos_of_ne_zero (fun z => ?_)
                      have he9 : 0 < ee := by omega
                      have k9 := dw_pos (tk := aTt (m_all S) p0) (fr := f0) (e := ee - 1) (by omega)
                      rw [Nat.sub_add_cancel (show 1 ≤ ee by omega)] at k9
                      first | (exfalso; omega) | (rw [z] at c206; omega)
                    refine lv_aload_n hC.1 hC.2.1 dX8_goesBack_225 rfl (lv_at hl 5 rfl) ?_
                    refine lv_dup hC.1 hC.2.1 dX8_goesBack_226 rfl ?_
                    refine g_m_leftOut hC fi_X8_goesBack_X8 hK hX (wd9 hC 2 rfl) dX8_goesBack_227 (v := qb) rfl ?_
                    refine lv_iconst (v := nI (1)) hC.1 hC.2.1 dX8_goesBack_230 rfl ?_
                    refine n_add hC (a := qb) (b := 1) dX8_goesBack_231 ?_
                    refine p_m_leftOut hC fi_X8_goesBack_X8 hK hX (v := qb + 1) (wd9 hC 2 rfl) dX8_goesBack_232 (fun H locs hX => ?_)
                    replace hX : HH G A s.heap (wM G am (w_exchanged (w_leftOut (w_putIn (S) (qa)) (qb + 1)) (qc))) H locs := hX
                    refine lv_iinc (v := nI (i - 1)) (lv' := [(4, .int (nI (i - 1))), (8, .int (bI (decide ((0 < i ∧ 0 < ee) ∧ aTt (m_all S) p0 (i - 1) (f0 + ee - 1) = true)))), (7, .int (bI (decide (0 < i ∧ 0 < ee)))), (6, .int (nI ((121 * i) + (ee)))), (5, .int (nI (ee))), (0, .ref (am 0)), (1, .int (nI (p0))), (2, .int (nI (f0))), (3, .int (nI (t0)))]) hC.1 hC.2.1 dX8_goesBack_235 hl (k := 4) rfl (n_dec1 (by omega)) (by decide) rfl (fun ls hl => ?_)
                    refine lv_goto (tgt := 27) hC.1 hC.2.1 dX8_goesBack_238 (by decide) ?_
                    refine ih27 (i - 1) (ee) (qa) (qb + 1) (qc) ?_ ?_ ?_ ?_ _ _ ls hX (lv_sub hl [4, 0, 5, 6, 7, 8] rfl)
                    · omega
                    · omega
                    · have hd9 : 0 < i → 0 < ee → dw (aTt (m_all S) p0) f0 (ee) (i) ≠ dw (aTt (m_all S) p0) f0 (ee - 1) (i - 1) + ex9 (aTt (m_all S) p0) (i - 1) (f0 + (ee - 1)) := fun h1 h2 => by
                        rw [show f0 + (ee - 1) = f0 + ee - 1 by omega]
                        unfold ex9
                        by_cases hb9 : aTt (m_all S) p0 (i - 1) (f0 + ee - 1) = true
                        · rw [if_pos hb9]
                          first | (have c9 := c118; omega) | exact absurd ⟨⟨h1, h2⟩, hb9⟩ (of_decide_eq_false c96)
                        · rw [if_neg hb9]
                          first | (have c9 := c161; omega) | exact absurd ⟨h1, h2⟩ (of_decide_eq_false c132) | exact absurd (of_decide_eq_true c137).2 hb9
                      have k9 := back_left (tk := aTt (m_all S) p0) (fr := f0) (e := ee) (i := i - 1) (by omega) (by omega) (fun h => by rw [Nat.sub_add_cancel (show 1 ≤ i by omega)]; exact hd9 hi9 h) (fun h => by rw [Nat.sub_add_cancel (show 1 ≤ i by omega)]; first | (have c9 := c206; omega) | omega)
                      rw [Nat.sub_add_cancel (show 1 ≤ i by omega)] at k9
                      unfold wsum at hw ⊢
                      omega
                    · omega
                  · skip
                    refine lv_aload_n hC.1 hC.2.1 dX8_goesBack_188 rfl (lv_at hl 5 rfl) ?_
                    refine g_m_part hC fi_X8_goesBack_X8 hK hX (wd9 hC 4 rfl) dX8_goesBack_189 ?_
                    refine lv_iload hC.1 hC.2.1 dX8_goesBack_192 (lv_at hl 2 rfl) ?_
                    refine l_m_part hC hK hX (i := (121 * i) + (ee)) (by omega) dX8_goesBack_194 (v := dw (aTt (m_all S) p0) f0 (ee) (i)) hP ?_
                    refine lv_aload_n hC.1 hC.2.1 dX8_goesBack_195 rfl (lv_at hl 5 rfl) ?_
                    refine g_m_part hC fi_X8_goesBack_X8 hK hX (wd9 hC 4 rfl) dX8_goesBack_196 ?_
                    refine lv_iload hC.1 hC.2.1 dX8_goesBack_199 (lv_at hl 2 rfl) ?_
                    refine lv_iconst (v := nI (1)) hC.1 hC.2.1 dX8_goesBack_201 rfl ?_
                    refine n_sub hC (a := (121 * i) + (ee)) (b := 1) dX8_goesBack_202 (by omega) ?_
                    refine l_m_part hC hK hX (i := ((121 * i) + (ee)) - (1)) (by omega) dX8_goesBack_203 (v := dw (aTt (m_all S) p0) f0 (ee - 1) (i)) (hL1 (by omega)) ?_
                    refine lv_iconst (v := nI (1)) hC.1 hC.2.1 dX8_goesBack_204 rfl ?_
                    refine n_add hC (a := dw (aTt (m_all S) p0) f0 (ee - 1) (i)) (b := 1) dX8_goesBack_205 ?_
                    refine n_icmp_ne hC (a := dw (aTt (m_all S) p0) f0 (ee) (i)) (b := (dw (aTt (m_all S) p0) f0 (ee - 1) (i)) + (1)) (tgt := 225) dX8_goesBack_206 (by decide) (by omega) (by omega) (fun c206 => ?_) (fun c206 => ?_)
                    · skip
                      have hi9 : 0 < i := by
                        refine Nat.pos_of_ne_zero (fun z => ?_)
                        have he9 : 0 < ee := by omega
                        have k9 := dw_pos (tk := aTt (m_all S) p0) (fr := f0) (e := ee - 1) (by omega)
                        rw [Nat.sub_add_cancel (show 1 ≤ ee by omega)] at k9
                        first | (exfalso; omega) | (rw [z] at c206; omega)
                      refine lv_aload_n hC.1 hC.2.1 dX8_goesBack_225 rfl (lv_at hl 5 rfl) ?_
                      refine lv_dup hC.1 hC.2.1 dX8_goesBack_226 rfl ?_
                      refine g_m_leftOut hC fi_X8_goesBack_X8 hK hX (wd9 hC 2 rfl) dX8_goesBack_227 (v := qb) rfl ?_
                      refine lv_iconst (v := nI (1)) hC.1 hC.2.1 dX8_goesBack_230 rfl ?_
                      refine n_add hC (a := qb) (b := 1) dX8_goesBack_231 ?_
                      refine p_m_leftOut hC fi_X8_goesBack_X8 hK hX (v := qb + 1) (wd9 hC 2 rfl) dX8_goesBack_232 (fun H locs hX => ?_)
                      replace hX : HH G A s.heap (wM G am (w_exchanged (w_leftOut (w_putIn (S) (qa)) (qb + 1)) (qc))) H locs := hX
                      refine lv_iinc (v := nI (i - 1)) (lv' := [(4, .int (nI (i - 1))), (8, .int (bI (decide ((0 < i ∧ 0 < ee) ∧ aTt (m_all S) p0 (i - 1) (f0 + ee - 1) = true)))), (7, .int (bI (decide (0 < i ∧ 0 < ee)))), (6, .int (nI ((121 * i) + (ee)))), (5, .int (nI (ee))), (0, .ref (am 0)), (1, .int (nI (p0))), (2, .int (nI (f0))), (3, .int (nI (t0)))]) hC.1 hC.2.1 dX8_goesBack_235 hl (k := 4) rfl (n_dec1 (by omega)) (by decide) rfl (fun ls hl => ?_)
                      refine lv_goto (tgt := 27) hC.1 hC.2.1 dX8_goesBack_238 (by decide) ?_
                      refine ih27 (i - 1) (ee) (qa) (qb + 1) (qc) ?_ ?_ ?_ ?_ _ _ ls hX (lv_sub hl [4, 0, 5, 6, 7, 8] rfl)
                      · omega
                      · omega
                      · have hd9 : 0 < i → 0 < ee → dw (aTt (m_all S) p0) f0 (ee) (i) ≠ dw (aTt (m_all S) p0) f0 (ee - 1) (i - 1) + ex9 (aTt (m_all S) p0) (i - 1) (f0 + (ee - 1)) := fun h1 h2 => by
                          rw [show f0 + (ee - 1) = f0 + ee - 1 by omega]
                          unfold ex9
                          by_cases hb9 : aTt (m_all S) p0 (i - 1) (f0 + ee - 1) = true
                          · rw [if_pos hb9]
                            first | (have c9 := c118; omega) | exact absurd ⟨⟨h1, h2⟩, hb9⟩ (of_decide_eq_false c96)
                          · rw [if_neg hb9]
                            first | (have c9 := c161; omega) | exact absurd ⟨h1, h2⟩ (of_decide_eq_false c132) | exact absurd (of_decide_eq_true c137).2 hb9
                        have k9 := back_left (tk := aTt (m_all S) p0) (fr := f0) (e := ee) (i := i - 1) (by omega) (by omega) (fun h => by rw [Nat.sub_add_cancel (show 1 ≤ i by omega)]; exact hd9 hi9 h) (fun h => by rw [Nat.sub_add_cancel (show 1 ≤ i by omega)]; first | (have c9 := c206; omega) | omega)
                        rw [Nat.sub_add_cancel (show 1 ≤ i by omega)] at k9
                        unfold wsum at hw ⊢
                        omega
                      · omega
                    · skip
                      refine lv_aload_n hC.1 hC.2.1 dX8_goesBack_209 rfl (lv_at hl 5 rfl) ?_
                      refine lv_dup hC.1 hC.2.1 dX8_goesBack_210 rfl ?_
                      refine g_m_putIn hC fi_X8_goesBack_X8 hK hX (wd9 hC 1 rfl) dX8_goesBack_211 (v := qa) rfl ?_
                      refine lv_iconst (v := nI (1)) hC.1 hC.2.1 dX8_goesBack_214 rfl ?_
                      refine n_add hC (a := qa) (b := 1) dX8_goesBack_215 ?_
                      refine p_m_putIn hC fi_X8_goesBack_X8 hK hX (v := qa + 1) (wd9 hC 1 rfl) dX8_goesBack_216 (fun H locs hX => ?_)
                      replace hX : HH G A s.heap (wM G am (w_exchanged (w_leftOut (w_putIn (S) (qa + 1)) (qb)) (qc))) H locs := hX
                      refine lv_iinc (v := nI (ee - 1)) (lv' := [(5, .int (nI (ee - 1))), (8, .int (bI (decide ((0 < i ∧ 0 < ee) ∧ aTt (m_all S) p0 (i - 1) (f0 + ee - 1) = true)))), (7, .int (bI (decide (0 < i ∧ 0 < ee)))), (6, .int (nI ((121 * i) + (ee)))), (4, .int (nI (i))), (0, .ref (am 0)), (1, .int (nI (p0))), (2, .int (nI (f0))), (3, .int (nI (t0)))]) hC.1 hC.2.1 dX8_goesBack_219 hl (k := 3) rfl (n_dec1 (by omega)) (by decide) rfl (fun ls hl => ?_)
                      refine lv_goto (tgt := 238) hC.1 hC.2.1 dX8_goesBack_222 (by decide) ?_
                      refine lv_goto (tgt := 27) hC.1 hC.2.1 dX8_goesBack_238 (by decide) ?_
                      refine ih27 (i) (ee - 1) (qa + 1) (qb) (qc) ?_ ?_ ?_ ?_ _ _ ls hX (lv_sub hl [0, 4, 5, 6, 7, 8] rfl)
                      · omega
                      · omega
                      · have hd9 : 0 < i → 0 < ee → dw (aTt (m_all S) p0) f0 (ee) (i) ≠ dw (aTt (m_all S) p0) f0 (ee - 1) (i - 1) + ex9 (aTt (m_all S) p0) (i - 1) (f0 + (ee - 1)) := fun h1 h2 => by
                          rw [show f0 + (ee - 1) = f0 + ee - 1 by omega]
                          unfold ex9
                          by_cases hb9 : aTt (m_all S) p0 (i - 1) (f0 + ee - 1) = true
                          · rw [if_pos hb9]
                            first | (have c9 := c118; omega) | exact absurd ⟨⟨h1, h2⟩, hb9⟩ (of_decide_eq_false c96)
                          · rw [if_neg hb9]
                            first | (have c9 := c161; omega) | exact absurd ⟨h1, h2⟩ (of_decide_eq_false c132) | exact absurd (of_decide_eq_true c137).2 hb9
                        have k9 := back_put (tk := aTt (m_all S) p0) (fr := f0) (e := ee - 1) (i := i) (by omega) (by omega) (fun h => by rw [Nat.sub_add_cancel (show 1 ≤ ee by omega)]; exact hd9 h (by omega)) (by rw [Nat.sub_add_cancel (show 1 ≤ ee by omega)]; omega)
                        rw [Nat.sub_add_cancel (show 1 ≤ ee by omega)] at k9
                        unfold wsum at hw ⊢
                        omega
                      · omega
                · skip
                  have t132 := of_decide_eq_true c132
                  refine lv_iload hC.1 hC.2.1 dX8_goesBack_135 (lv_at hl 0 rfl) ?_
                  refine b_if_ne hC (b := decide ((0 < i ∧ 0 < ee) ∧ aTt (m_all S) p0 (i - 1) (f0 + ee - 1) = true)) (tgt := 183) dX8_goesBack_137 (by decide) (fun c137 => ?_) (fun c137 => ?_)
                  · skip
                    refine lv_iload hC.1 hC.2.1 dX8_goesBack_183 (lv_at hl 3 rfl) ?_
                    refine n_if_le hC (a := ee) (tgt := 225) dX8_goesBack_185 (by decide) (by omega) (fun c185 => ?_) (fun c185 => ?_)
                    · skip
                      have hi9 : 0 < i := by
                        refine Nat.pos_of_ne_zero (fun z => ?_)
                        have he9 : 0 < ee := by omega
                        have k9 := dw_pos (tk := aTt (m_all S) p0) (fr := f0) (e := ee - 1) (by omega)
                        rw [Nat.sub_add_cancel (show 1 ≤ ee by omega)] at k9
                        first | (exfalso; omega) | (rw [z] at c206; omega)
                      refine lv_aload_n hC.1 hC.2.1 dX8_goesBack_225 rfl (lv_at hl 5 rfl) ?_
                      refine lv_dup hC.1 hC.2.1 dX8_goesBack_226 rfl ?_
                      refine g_m_leftOut hC fi_X8_goesBack_X8 hK hX (wd9 hC 2 rfl) dX8_goesBack_227 (v := qb) rfl ?_
                      refine lv_iconst (v := nI (1)) hC.1 hC.2.1 dX8_goesBack_230 rfl ?_
                      refine n_add hC (a := qb) (b := 1) dX8_goesBack_231 ?_
                      refine p_m_leftOut hC fi_X8_goesBack_X8 hK hX (v := qb + 1) (wd9 hC 2 rfl) dX8_goesBack_232 (fun H locs hX => ?_)
                      replace hX : HH G A s.heap (wM G am (w_exchanged (w_leftOut (w_putIn (S) (qa)) (qb + 1)) (qc))) H locs := hX
                      refine lv_iinc (v := nI (i - 1)) (lv' := [(4, .int (nI (i - 1))), (8, .int (bI (decide ((0 < i ∧ 0 < ee) ∧ aTt (m_all S) p0 (i - 1) (f0 + ee - 1) = true)))), (7, .int (bI (decide (0 < i ∧ 0 < ee)))), (6, .int (nI ((121 * i) + (ee)))), (5, .int (nI (ee))), (0, .ref (am 0)), (1, .int (nI (p0))), (2, .int (nI (f0))), (3, .int (nI (t0)))]) hC.1 hC.2.1 dX8_goesBack_235 hl (k := 4) rfl (n_dec1 (by omega)) (by decide) rfl (fun ls hl => ?_)
                      refine lv_goto (tgt := 27) hC.1 hC.2.1 dX8_goesBack_238 (by decide) ?_
                      refine ih27 (i - 1) (ee) (qa) (qb + 1) (qc) ?_ ?_ ?_ ?_ _ _ ls hX (lv_sub hl [4, 0, 5, 6, 7, 8] rfl)
                      · omega
                      · omega
                      · have hd9 : 0 < i → 0 < ee → dw (aTt (m_all S) p0) f0 (ee) (i) ≠ dw (aTt (m_all S) p0) f0 (ee - 1) (i - 1) + ex9 (aTt (m_all S) p0) (i - 1) (f0 + (ee - 1)) := fun h1 h2 => by
                          rw [show f0 + (ee - 1) = f0 + ee - 1 by omega]
                          unfold ex9
                          by_cases hb9 : aTt (m_all S) p0 (i - 1) (f0 + ee - 1) = true
                          · rw [if_pos hb9]
                            first | (have c9 := c118; omega) | exact absurd ⟨⟨h1, h2⟩, hb9⟩ (of_decide_eq_false c96)
                          · rw [if_neg hb9]
                            first | (have c9 := c161; omega) | exact absurd ⟨h1, h2⟩ (of_decide_eq_false c132) | exact absurd (of_decide_eq_true c137).2 hb9
                        have k9 := back_left (tk := aTt (m_all S) p0) (fr := f0) (e := ee) (i := i - 1) (by omega) (by omega) (fun h => by rw [Nat.sub_add_cancel (show 1 ≤ i by omega)]; exact hd9 hi9 h) (fun h => by rw [Nat.sub_add_cancel (show 1 ≤ i by omega)]; first | (have c9 := c206; omega) | omega)
                        rw [Nat.sub_add_cancel (show 1 ≤ i by omega)] at k9
                        unfold wsum at hw ⊢
                        omega
                      · omega
                    · skip
                      refine lv_aload_n hC.1 hC.2.1 dX8_goesBack_188 rfl (lv_at hl 5 rfl) ?_
                      refine g_m_part hC fi_X8_goesBack_X8 hK hX (wd9 hC 4 rfl) dX8_goesBack_189 ?_
                      refine lv_iload hC.1 hC.2.1 dX8_goesBack_192 (lv_at hl 2 rfl) ?_
                      refine l_m_part hC hK hX (i := (121 * i) + (ee)) (by omega) dX8_goesBack_194 (v := dw (aTt (m_all S) p0) f0 (ee) (i)) hP ?_
                      refine lv_aload_n hC.1 hC.2.1 dX8_goesBack_195 rfl (lv_at hl 5 rfl) ?_
                      refine g_m_part hC fi_X8_goesBack_X8 hK hX (wd9 hC 4 rfl) dX8_goesBack_196 ?_
                      refine lv_iload hC.1 hC.2.1 dX8_goesBack_199 (lv_at hl 2 rfl) ?_
                      refine lv_iconst (v := nI (1)) hC.1 hC.2.1 dX8_goesBack_201 rfl ?_
                      refine n_sub hC (a := (121 * i) + (ee)) (b := 1) dX8_goesBack_202 (by omega) ?_
                      refine l_m_part hC hK hX (i := ((121 * i) + (ee)) - (1)) (by omega) dX8_goesBack_203 (v := dw (aTt (m_all S) p0) f0 (ee - 1) (i)) (hL1 (by omega)) ?_
                      refine lv_iconst (v := nI (1)) hC.1 hC.2.1 dX8_goesBack_204 rfl ?_
                      refine n_add hC (a := dw (aTt (m_all S) p0) f0 (ee - 1) (i)) (b := 1) dX8_goesBack_205 ?_
                      refine n_icmp_ne hC (a := dw (aTt (m_all S) p0) f0 (ee) (i)) (b := (dw (aTt (m_all S) p0) f0 (ee - 1) (i)) + (1)) (tgt := 225) dX8_goesBack_206 (by decide) (by omega) (by omega) (fun c206 => ?_) (fun c206 => ?_)
                      · skip
                        have hi9 : 0 < i := by
                          refine Nat.pos_of_ne_zero (fun z => ?_)
                          have he9 : 0 < ee := by omega
                          have k9 := dw_pos (tk := aTt (m_all S) p0) (fr := f0) (e := ee - 1) (by omega)
                          rw [Nat.sub_add_cancel (show 1 ≤ ee by omega)] at k9
                          first | (exfalso; omega) | (rw [z] at c206; omega)
                        refine lv_aload_n hC.1 hC.2.1 dX8_goesBack_225 rfl (lv_at hl 5 rfl) ?_
                        refine lv_dup hC.1 hC.2.1 dX8_goesBack_226 rfl ?_
                        refine g_m_leftOut hC fi_X8_goesBack_X8 hK hX (wd9 hC 2 rfl) dX8_goesBack_227 (v := qb) rfl ?_
                        refine lv_iconst (v := nI (1)) hC.1 hC.2.1 dX8_goesBack_230 rfl ?_
                        refine n_add hC (a := qb) (b := 1) dX8_goesBack_231 ?_
                        refine p_m_leftOut hC fi_X8_goesBack_X8 hK hX (v := qb + 1) (wd9 hC 2 rfl) dX8_goesBack_232 (fun H locs hX => ?_)
                        replace hX : HH G A s.heap (wM G am (w_exchanged (w_leftOut (w_putIn (S) (qa)) (qb + 1)) (qc))) H locs := hX
                        refine lv_iinc (v := nI (i - 1)) (lv' := [(4, .int (nI (i - 1))), (8, .int (bI (decide ((0 < i ∧ 0 < ee) ∧ aTt (m_all S) p0 (i - 1) (f0 + ee - 1) = true)))), (7, .int (bI (decide (0 < i ∧ 0 < ee)))), (6, .int (nI ((121 * i) + (ee)))), (5, .int (nI (ee))), (0, .ref (am 0)), (1, .int (nI (p0))), (2, .int (nI (f0))), (3, .int (nI (t0)))]) hC.1 hC.2.1 dX8_goesBack_235 hl (k := 4) rfl (n_dec1 (by omega)) (by decide) rfl (fun ls hl => ?_)
                        refine lv_goto (tgt := 27) hC.1 hC.2.1 dX8_goesBack_238 (by decide) ?_
                        refine ih27 (i - 1) (ee) (qa) (qb + 1) (qc) ?_ ?_ ?_ ?_ _ _ ls hX (lv_sub hl [4, 0, 5, 6, 7, 8] rfl)
                        · omega
                        · omega
                        · have hd9 : 0 < i → 0 < ee → dw (aTt (m_all S) p0) f0 (ee) (i) ≠ dw (aTt (m_all S) p0) f0 (ee - 1) (i - 1) + ex9 (aTt (m_all S) p0) (i - 1) (f0 + (ee - 1)) := fun h1 h2 => by
                            rw [show f0 + (ee - 1) = f0 + ee - 1 by omega]
                            unfold ex9
                            by_cases hb9 : aTt (m_all S) p0 (i - 1) (f0 + ee - 1) = true
                            · rw [if_pos hb9]
                              first | (have c9 := c118; omega) | exact absurd ⟨⟨h1, h2⟩, hb9⟩ (of_decide_eq_false c96)
                            · rw [if_neg hb9]
                              first | (have c9 := c161; omega) | exact absurd ⟨h1, h2⟩ (of_decide_eq_false c132) | exact absurd (of_decide_eq_true c137).2 hb9
                          have k9 := back_left (tk := aTt (m_all S) p0) (fr := f0) (e := ee) (i := i - 1) (by omega) (by omega) (fun h => by rw [Nat.sub_add_cancel (show 1 ≤ i by omega)]; exact hd9 hi9 h) (fun h => by rw [Nat.sub_add_cancel (show 1 ≤ i by omega)]; first | (have c9 := c206; omega) | omega)
                          rw [Nat.sub_add_cancel (show 1 ≤ i by omega)] at k9
                          unfold wsum at hw ⊢
                          omega
                        · omega
                      · skip
                        refine lv_aload_n hC.1 hC.2.1 dX8_goesBack_209 rfl (lv_at hl 5 rfl) ?_
                        refine lv_dup hC.1 hC.2.1 dX8_goesBack_210 rfl ?_
                        refine g_m_putIn hC fi_X8_goesBack_X8 hK hX (wd9 hC 1 rfl) dX8_goesBack_211 (v := qa) rfl ?_
                        refine lv_iconst (v := nI (1)) hC.1 hC.2.1 dX8_goesBack_214 rfl ?_
                        refine n_add hC (a := qa) (b := 1) dX8_goesBack_215 ?_
                        refine p_m_putIn hC fi_X8_goesBack_X8 hK hX (v := qa + 1) (wd9 hC 1 rfl) dX8_goesBack_216 (fun H locs hX => ?_)
                        replace hX : HH G A s.heap (wM G am (w_exchanged (w_leftOut (w_putIn (S) (qa + 1)) (qb)) (qc))) H locs := hX
                        refine lv_iinc (v := nI (ee - 1)) (lv' := [(5, .int (nI (ee - 1))), (8, .int (bI (decide ((0 < i ∧ 0 < ee) ∧ aTt (m_all S) p0 (i - 1) (f0 + ee - 1) = true)))), (7, .int (bI (decide (0 < i ∧ 0 < ee)))), (6, .int (nI ((121 * i) + (ee)))), (4, .int (nI (i))), (0, .ref (am 0)), (1, .int (nI (p0))), (2, .int (nI (f0))), (3, .int (nI (t0)))]) hC.1 hC.2.1 dX8_goesBack_219 hl (k := 3) rfl (n_dec1 (by omega)) (by decide) rfl (fun ls hl => ?_)
                        refine lv_goto (tgt := 238) hC.1 hC.2.1 dX8_goesBack_222 (by decide) ?_
                        refine lv_goto (tgt := 27) hC.1 hC.2.1 dX8_goesBack_238 (by decide) ?_
                        refine ih27 (i) (ee - 1) (qa + 1) (qb) (qc) ?_ ?_ ?_ ?_ _ _ ls hX (lv_sub hl [0, 4, 5, 6, 7, 8] rfl)
                        · omega
                        · omega
                        · have hd9 : 0 < i → 0 < ee → dw (aTt (m_all S) p0) f0 (ee) (i) ≠ dw (aTt (m_all S) p0) f0 (ee - 1) (i - 1) + ex9 (aTt (m_all S) p0) (i - 1) (f0 + (ee - 1)) := fun h1 h2 => by
                            rw [show f0 + (ee - 1) = f0 + ee - 1 by omega]
                            unfold ex9
                            by_cases hb9 : aTt (m_all S) p0 (i - 1) (f0 + ee - 1) = true
                            · rw [if_pos hb9]
                              first | (have c9 := c118; omega) | exact absurd ⟨⟨h1, h2⟩, hb9⟩ (of_decide_eq_false c96)
                            · rw [if_neg hb9]
                              first | (have c9 := c161; omega) | exact absurd ⟨h1, h2⟩ (of_decide_eq_false c132) | exact absurd (of_decide_eq_true c137).2 hb9
                          have k9 := back_put (tk := aTt (m_all S) p0) (fr := f0) (e := ee - 1) (i := i) (by omega) (by omega) (fun h => by rw [Nat.sub_add_cancel (show 1 ≤ ee by omega)]; exact hd9 h (by omega)) (by rw [Nat.sub_add_cancel (show 1 ≤ ee by omega)]; omega)
                          rw [Nat.sub_add_cancel (show 1 ≤ ee by omega)] at k9
                          unfold wsum at hw ⊢
                          omega
                        · omega
                  · skip
                    refine lv_aload_n hC.1 hC.2.1 dX8_goesBack_140 rfl (lv_at hl 5 rfl) ?_
                    refine g_m_part hC fi_X8_goesBack_X8 hK hX (wd9 hC 4 rfl) dX8_goesBack_141 ?_
                    refine lv_iload hC.1 hC.2.1 dX8_goesBack_144 (lv_at hl 2 rfl) ?_
                    refine l_m_part hC hK hX (i := (121 * i) + (ee)) (by omega) dX8_goesBack_146 (v := dw (aTt (m_all S) p0) f0 (ee) (i)) hP ?_
                    refine lv_aload_n hC.1 hC.2.1 dX8_goesBack_147 rfl (lv_at hl 5 rfl) ?_
                    refine g_m_part hC fi_X8_goesBack_X8 hK hX (wd9 hC 4 rfl) dX8_goesBack_148 ?_
                    refine lv_iload hC.1 hC.2.1 dX8_goesBack_151 (lv_at hl 2 rfl) ?_
                    refine lv_bipush (v := nI (121)) hC.1 hC.2.1 dX8_goesBack_153 (by decide +kernel) ?_
                    refine n_sub hC (a := (121 * i) + (ee)) (b := 121) dX8_goesBack_155 (by omega) ?_
                    refine lv_iconst (v := nI (1)) hC.1 hC.2.1 dX8_goesBack_156 rfl ?_
                    refine n_sub hC (a := ((121 * i) + (ee)) - (121)) (b := 1) dX8_goesBack_157 (by omega) ?_
                    refine l_m_part hC hK hX (i := (((121 * i) + (ee)) - (121)) - (1)) (by omega) dX8_goesBack_158 (v := dw (aTt (m_all S) p0) f0 (ee - 1) (i - 1)) (hD (by omega) (by omega)) ?_
                    refine lv_iconst (v := nI (1)) hC.1 hC.2.1 dX8_goesBack_159 rfl ?_
                    refine n_add hC (a := dw (aTt (m_all S) p0) f0 (ee - 1) (i - 1)) (b := 1) dX8_goesBack_160 ?_
                    refine n_icmp_ne hC (a := dw (aTt (m_all S) p0) f0 (ee) (i)) (b := (dw (aTt (m_all S) p0) f0 (ee - 1) (i - 1)) + (1)) (tgt := 183) dX8_goesBack_161 (by decide) (by omega) (by omega) (fun c161 => ?_) (fun c161 => ?_)
                    · skip
                      refine lv_iload hC.1 hC.2.1 dX8_goesBack_183 (lv_at hl 3 rfl) ?_
                      refine n_if_le hC (a := ee) (tgt := 225) dX8_goesBack_185 (by decide) (by omega) (fun c185 => ?_) (fun c185 => ?_)
                      · skip
                        have hi9 : 0 < i := by
                          refine Nat.pos_of_ne_zero (fun z => ?_)
                          have he9 : 0 < ee := by omega
                          have k9 := dw_pos (tk := aTt (m_all S) p0) (fr := f0) (e := ee - 1) (by omega)
                          rw [Nat.sub_add_cancel (show 1 ≤ ee by omega)] at k9
                          first | (exfalso; omega) | (rw [z] at c206; omega)
                        refine lv_aload_n hC.1 hC.2.1 dX8_goesBack_225 rfl (lv_at hl 5 rfl) ?_
                        refine lv_dup hC.1 hC.2.1 dX8_goesBack_226 rfl ?_
                        refine g_m_leftOut hC fi_X8_goesBack_X8 hK hX (wd9 hC 2 rfl) dX8_goesBack_227 (v := qb) rfl ?_
                        refine lv_iconst (v := nI (1)) hC.1 hC.2.1 dX8_goesBack_230 rfl ?_
                        refine n_add hC (a := qb) (b := 1) dX8_goesBack_231 ?_
                        refine p_m_leftOut hC fi_X8_goesBack_X8 hK hX (v := qb + 1) (wd9 hC 2 rfl) dX8_goesBack_232 (fun H locs hX => ?_)
                        replace hX : HH G A s.heap (wM G am (w_exchanged (w_leftOut (w_putIn (S) (qa)) (qb + 1)) (qc))) H locs := hX
                        refine lv_iinc (v := nI (i - 1)) (lv' := [(4, .int (nI (i - 1))), (8, .int (bI (decide ((0 < i ∧ 0 < ee) ∧ aTt (m_all S) p0 (i - 1) (f0 + ee - 1) = true)))), (7, .int (bI (decide (0 < i ∧ 0 < ee)))), (6, .int (nI ((121 * i) + (ee)))), (5, .int (nI (ee))), (0, .ref (am 0)), (1, .int (nI (p0))), (2, .int (nI (f0))), (3, .int (nI (t0)))]) hC.1 hC.2.1 dX8_goesBack_235 hl (k := 4) rfl (n_dec1 (by omega)) (by decide) rfl (fun ls hl => ?_)
                        refine lv_goto (tgt := 27) hC.1 hC.2.1 dX8_goesBack_238 (by decide) ?_
                        refine ih27 (i - 1) (ee) (qa) (qb + 1) (qc) ?_ ?_ ?_ ?_ _ _ ls hX (lv_sub hl [4, 0, 5, 6, 7, 8] rfl)
                        · omega
                        · omega
                        · have hd9 : 0 < i → 0 < ee → dw (aTt (m_all S) p0) f0 (ee) (i) ≠ dw (aTt (m_all S) p0) f0 (ee - 1) (i - 1) + ex9 (aTt (m_all S) p0) (i - 1) (f0 + (ee - 1)) := fun h1 h2 => by
                            rw [show f0 + (ee - 1) = f0 + ee - 1 by omega]
                            unfold ex9
                            by_cases hb9 : aTt (m_all S) p0 (i - 1) (f0 + ee - 1) = true
                            · rw [if_pos hb9]
                              first | (have c9 := c118; omega) | exact absurd ⟨⟨h1, h2⟩, hb9⟩ (of_decide_eq_false c96)
                            · rw [if_neg hb9]
                              first | (have c9 := c161; omega) | exact absurd ⟨h1, h2⟩ (of_decide_eq_false c132) | exact absurd (of_decide_eq_true c137).2 hb9
                          have k9 := back_left (tk := aTt (m_all S) p0) (fr := f0) (e := ee) (i := i - 1) (by omega) (by omega) (fun h => by rw [Nat.sub_add_cancel (show 1 ≤ i by omega)]; exact hd9 hi9 h) (fun h => by rw [Nat.sub_add_cancel (show 1 ≤ i by omega)]; first | (have c9 := c206; omega) | omega)
                          rw [Nat.sub_add_cancel (show 1 ≤ i by omega)] at k9
                          unfold wsum at hw ⊢
                          omega
                        · omega
                      · skip
                        refine lv_aload_n hC.1 hC.2.1 dX8_goesBack_188 rfl (lv_at hl 5 rfl) ?_
                        refine g_m_part hC fi_X8_goesBack_X8 hK hX (wd9 hC 4 rfl) dX8_goesBack_189 ?_
                        refine lv_iload hC.1 hC.2.1 dX8_goesBack_192 (lv_at hl 2 rfl) ?_
                        refine l_m_part hC hK hX (i := (121 * i) + (ee)) (by omega) dX8_goesBack_194 (v := dw (aTt (m_all S) p0) f0 (ee) (i)) hP ?_
                        refine lv_aload_n hC.1 hC.2.1 dX8_goesBack_195 rfl (lv_at hl 5 rfl) ?_
                        refine g_m_part hC fi_X8_goesBack_X8 hK hX (wd9 hC 4 rfl) dX8_goesBack_196 ?_
                        refine lv_iload hC.1 hC.2.1 dX8_goesBack_199 (lv_at hl 2 rfl) ?_
                        refine lv_iconst (v := nI (1)) hC.1 hC.2.1 dX8_goesBack_201 rfl ?_
                        refine n_sub hC (a := (121 * i) + (ee)) (b := 1) dX8_goesBack_202 (by omega) ?_
                        refine l_m_part hC hK hX (i := ((121 * i) + (ee)) - (1)) (by omega) dX8_goesBack_203 (v := dw (aTt (m_all S) p0) f0 (ee - 1) (i)) (hL1 (by omega)) ?_
                        refine lv_iconst (v := nI (1)) hC.1 hC.2.1 dX8_goesBack_204 rfl ?_
                        refine n_add hC (a := dw (aTt (m_all S) p0) f0 (ee - 1) (i)) (b := 1) dX8_goesBack_205 ?_
                        refine n_icmp_ne hC (a := dw (aTt (m_all S) p0) f0 (ee) (i)) (b := (dw (aTt (m_all S) p0) f0 (ee - 1) (i)) + (1)) (tgt := 225) dX8_goesBack_206 (by decide) (by omega) (by omega) (fun c206 => ?_) (fun c206 => ?_)
                        · skip
                          have hi9 : 0 < i := by
                            refine Nat.pos_of_ne_zero (fun z => ?_)
                            have he9 : 0 < ee := by omega
                            have k9 := dw_pos (tk := aTt (m_all S) p0) (fr := f0) (e := ee - 1) (by omega)
                            rw [Nat.sub_add_cancel (show 1 ≤ ee by omega)] at k9
                            first | (exfalso; omega) | (rw [z] at c206; omega)
                          refine lv_aload_n hC.1 hC.2.1 dX8_goesBack_225 rfl (lv_at hl 5 rfl) ?_
                          refine lv_dup hC.1 hC.2.1 dX8_goesBack_226 rfl ?_
                          refine g_m_leftOut hC fi_X8_goesBack_X8 hK hX (wd9 hC 2 rfl) dX8_goesBack_227 (v := qb) rfl ?_
                          refine lv_iconst (v := nI (1)) hC.1 hC.2.1 dX8_goesBack_230 rfl ?_
                          refine n_add hC (a := qb) (b := 1) dX8_goesBack_231 ?_
                          refine p_m_leftOut hC fi_X8_goesBack_X8 hK hX (v := qb + 1) (wd9 hC 2 rfl) dX8_goesBack_232 (fun H locs hX => ?_)
                          replace hX : HH G A s.heap (wM G am (w_exchanged (w_leftOut (w_putIn (S) (qa)) (qb + 1)) (qc))) H locs := hX
                          refine lv_iinc (v := nI (i - 1)) (lv' := [(4, .int (nI (i - 1))), (8, .int (bI (decide ((0 < i ∧ 0 < ee) ∧ aTt (m_all S) p0 (i - 1) (f0 + ee - 1) = true)))), (7, .int (bI (decide (0 < i ∧ 0 < ee)))), (6, .int (nI ((121 * i) + (ee)))), (5, .int (nI (ee))), (0, .ref (am 0)), (1, .int (nI (p0))), (2, .int (nI (f0))), (3, .int (nI (t0)))]) hC.1 hC.2.1 dX8_goesBack_235 hl (k := 4) rfl (n_dec1 (by omega)) (by decide) rfl (fun ls hl => ?_)
                          refine lv_goto (tgt := 27) hC.1 hC.2.1 dX8_goesBack_238 (by decide) ?_
                          refine ih27 (i - 1) (ee) (qa) (qb + 1) (qc) ?_ ?_ ?_ ?_ _ _ ls hX (lv_sub hl [4, 0, 5, 6, 7, 8] rfl)
                          · omega
                          · omega
                          · have hd9 : 0 < i → 0 < ee → dw (aTt (m_all S) p0) f0 (ee) (i) ≠ dw (aTt (m_all S) p0) f0 (ee - 1) (i - 1) + ex9 (aTt (m_all S) p0) (i - 1) (f0 + (ee - 1)) := fun h1 h2 => by
                              rw [show f0 + (ee - 1) = f0 + ee - 1 by omega]
                              unfold ex9
                              by_cases hb9 : aTt (m_all S) p0 (i - 1) (f0 + ee - 1) = true
                              · rw [if_pos hb9]
                                first | (have c9 := c118; omega) | exact absurd ⟨⟨h1, h2⟩, hb9⟩ (of_decide_eq_false c96)
                              · rw [if_neg hb9]
                                first | (have c9 := c161; omega) | exact absurd ⟨h1, h2⟩ (of_decide_eq_false c132) | exact absurd (of_decide_eq_true c137).2 hb9
                            have k9 := back_left (tk := aTt (m_all S) p0) (fr := f0) (e := ee) (i := i - 1) (by omega) (by omega) (fun h => by rw [Nat.sub_add_cancel (show 1 ≤ i by omega)]; exact hd9 hi9 h) (fun h => by rw [Nat.sub_add_cancel (show 1 ≤ i by omega)]; first | (have c9 := c206; omega) | omega)
                            rw [Nat.sub_add_cancel (show 1 ≤ i by omega)] at k9
                            unfold wsum at hw ⊢
                            omega
                          · omega
                        · skip
                          refine lv_aload_n hC.1 hC.2.1 dX8_goesBack_209 rfl (lv_at hl 5 rfl) ?_
                          refine lv_dup hC.1 hC.2.1 dX8_goesBack_210 rfl ?_
                          refine g_m_putIn hC fi_X8_goesBack_X8 hK hX (wd9 hC 1 rfl) dX8_goesBack_211 (v := qa) rfl ?_
                          refine lv_iconst (v := nI (1)) hC.1 hC.2.1 dX8_goesBack_214 rfl ?_
                          refine n_add hC (a := qa) (b := 1) dX8_goesBack_215 ?_
                          refine p_m_putIn hC fi_X8_goesBack_X8 hK hX (v := qa + 1) (wd9 hC 1 rfl) dX8_goesBack_216 (fun H locs hX => ?_)
                          replace hX : HH G A s.heap (wM G am (w_exchanged (w_leftOut (w_putIn (S) (qa + 1)) (qb)) (qc))) H locs := hX
                          refine lv_iinc (v := nI (ee - 1)) (lv' := [(5, .int (nI (ee - 1))), (8, .int (bI (decide ((0 < i ∧ 0 < ee) ∧ aTt (m_all S) p0 (i - 1) (f0 + ee - 1) = true)))), (7, .int (bI (decide (0 < i ∧ 0 < ee)))), (6, .int (nI ((121 * i) + (ee)))), (4, .int (nI (i))), (0, .ref (am 0)), (1, .int (nI (p0))), (2, .int (nI (f0))), (3, .int (nI (t0)))]) hC.1 hC.2.1 dX8_goesBack_219 hl (k := 3) rfl (n_dec1 (by omega)) (by decide) rfl (fun ls hl => ?_)
                          refine lv_goto (tgt := 238) hC.1 hC.2.1 dX8_goesBack_222 (by decide) ?_
                          refine lv_goto (tgt := 27) hC.1 hC.2.1 dX8_goesBack_238 (by decide) ?_
                          refine ih27 (i) (ee - 1) (qa + 1) (qb) (qc) ?_ ?_ ?_ ?_ _ _ ls hX (lv_sub hl [0, 4, 5, 6, 7, 8] rfl)
                          · omega
                          · omega
                          · have hd9 : 0 < i → 0 < ee → dw (aTt (m_all S) p0) f0 (ee) (i) ≠ dw (aTt (m_all S) p0) f0 (ee - 1) (i - 1) + ex9 (aTt (m_all S) p0) (i - 1) (f0 + (ee - 1)) := fun h1 h2 => by
                              rw [show f0 + (ee - 1) = f0 + ee - 1 by omega]
                              unfold ex9
                              by_cases hb9 : aTt (m_all S) p0 (i - 1) (f0 + ee - 1) = true
                              · rw [if_pos hb9]
                                first | (have c9 := c118; omega) | exact absurd ⟨⟨h1, h2⟩, hb9⟩ (of_decide_eq_false c96)
                              · rw [if_neg hb9]
                                first | (have c9 := c161; omega) | exact absurd ⟨h1, h2⟩ (of_decide_eq_false c132) | exact absurd (of_decide_eq_true c137).2 hb9
                            have k9 := back_put (tk := aTt (m_all S) p0) (fr := f0) (e := ee - 1) (i := i) (by omega) (by omega) (fun h => by rw [Nat.sub_add_cancel (show 1 ≤ ee by omega)]; exact hd9 h (by omega)) (by rw [Nat.sub_add_cancel (show 1 ≤ ee by omega)]; omega)
                            rw [Nat.sub_add_cancel (show 1 ≤ ee by omega)] at k9
                            unfold wsum at hw ⊢
                            omega
                          · omega
                    · skip
                      refine lv_aload_n hC.1 hC.2.1 dX8_goesBack_164 rfl (lv_at hl 5 rfl) ?_
                      refine lv_dup hC.1 hC.2.1 dX8_goesBack_165 rfl ?_
                      refine g_m_exchanged hC fi_X8_goesBack_X8 hK hX (wd9 hC 3 rfl) dX8_goesBack_166 (v := qc) rfl ?_
                      refine lv_iconst (v := nI (1)) hC.1 hC.2.1 dX8_goesBack_169 rfl ?_
                      refine n_add hC (a := qc) (b := 1) dX8_goesBack_170 ?_
                      refine p_m_exchanged hC fi_X8_goesBack_X8 hK hX (v := qc + 1) (wd9 hC 3 rfl) dX8_goesBack_171 (fun H locs hX => ?_)
                      replace hX : HH G A s.heap (wM G am (w_exchanged (w_leftOut (w_putIn (S) (qa)) (qb)) (qc + 1))) H locs := hX
                      refine lv_iinc (v := nI (i - 1)) (lv' := [(4, .int (nI (i - 1))), (8, .int (bI (decide ((0 < i ∧ 0 < ee) ∧ aTt (m_all S) p0 (i - 1) (f0 + ee - 1) = true)))), (7, .int (bI (decide (0 < i ∧ 0 < ee)))), (6, .int (nI ((121 * i) + (ee)))), (5, .int (nI (ee))), (0, .ref (am 0)), (1, .int (nI (p0))), (2, .int (nI (f0))), (3, .int (nI (t0)))]) hC.1 hC.2.1 dX8_goesBack_174 hl (k := 4) rfl (n_dec1 (by omega)) (by decide) rfl (fun ls hl => ?_)
                      refine lv_iinc (v := nI (ee - 1)) (lv' := [(5, .int (nI (ee - 1))), (4, .int (nI (i - 1))), (8, .int (bI (decide ((0 < i ∧ 0 < ee) ∧ aTt (m_all S) p0 (i - 1) (f0 + ee - 1) = true)))), (7, .int (bI (decide (0 < i ∧ 0 < ee)))), (6, .int (nI ((121 * i) + (ee)))), (0, .ref (am 0)), (1, .int (nI (p0))), (2, .int (nI (f0))), (3, .int (nI (t0)))]) hC.1 hC.2.1 dX8_goesBack_177 hl (k := 4) rfl (n_dec1 (by omega)) (by decide) rfl (fun ls hl => ?_)
                      refine lv_goto (tgt := 238) hC.1 hC.2.1 dX8_goesBack_180 (by decide) ?_
                      refine lv_goto (tgt := 27) hC.1 hC.2.1 dX8_goesBack_238 (by decide) ?_
                      refine ih27 (i - 1) (ee - 1) (qa) (qb) (qc + 1) ?_ ?_ ?_ ?_ _ _ ls hX (lv_sub hl [0, 1, 5, 6, 7, 8] rfl)
                      · omega
                      · omega
                      · have t9 := (of_decide_eq_true c132)
                        have u9 : ¬ aTt (m_all S) p0 (i - 1) (f0 + (ee - 1)) = true := fun z => of_decide_eq_false c137 ⟨t9, by rwa [show f0 + ee - 1 = f0 + (ee - 1) by omega]⟩
                        have x9 : ex9 (aTt (m_all S) p0) (i - 1) (f0 + (ee - 1)) = 1 := if_neg u9
                        have y9 : ey9 (aTt (m_all S) p0) (i - 1) (f0 + (ee - 1)) = 2097153 := if_neg u9
                        have k9 := back_diag (tk := aTt (m_all S) p0) (fr := f0) (e := ee - 1) (i := i - 1) (by omega) (by omega) (by rw [Nat.sub_add_cancel t9.2, Nat.sub_add_cancel t9.1, x9]; omega)
                        rw [Nat.sub_add_cancel t9.2, Nat.sub_add_cancel t9.1, y9] at k9
                        unfold wsum at hw ⊢
                        omega
                      · omega
              · skip
                refine lv_iinc (v := nI (i - 1)) (lv' := [(4, .int (nI (i - 1))), (8, .int (bI (decide ((0 < i ∧ 0 < ee) ∧ aTt (m_all S) p0 (i - 1) (f0 + ee - 1) = true)))), (7, .int (bI (decide (0 < i ∧ 0 < ee)))), (6, .int (nI ((121 * i) + (ee)))), (5, .int (nI (ee))), (0, .ref (am 0)), (1, .int (nI (p0))), (2, .int (nI (f0))), (3, .int (nI (t0)))]) hC.1 hC.2.1 dX8_goesBack_121 hl (k := 4) rfl (n_dec1 (by omega)) (by decide) rfl (fun ls hl => ?_)
                refine lv_iinc (v := nI (ee - 1)) (lv' := [(5, .int (nI (ee - 1))), (4, .int (nI (i - 1))), (8, .int (bI (decide ((0 < i ∧ 0 < ee) ∧ aTt (m_all S) p0 (i - 1) (f0 + ee - 1) = true)))), (7, .int (bI (decide (0 < i ∧ 0 < ee)))), (6, .int (nI ((121 * i) + (ee)))), (0, .ref (am 0)), (1, .int (nI (p0))), (2, .int (nI (f0))), (3, .int (nI (t0)))]) hC.1 hC.2.1 dX8_goesBack_124 hl (k := 4) rfl (n_dec1 (by omega)) (by decide) rfl (fun ls hl => ?_)
                refine lv_goto (tgt := 238) hC.1 hC.2.1 dX8_goesBack_127 (by decide) ?_
                refine lv_goto (tgt := 27) hC.1 hC.2.1 dX8_goesBack_238 (by decide) ?_
                refine ih27 (i - 1) (ee - 1) (qa) (qb) (qc) ?_ ?_ ?_ ?_ _ _ ls hX (lv_sub hl [0, 1, 5, 6, 7, 8] rfl)
                · omega
                · omega
                · have t9 := (of_decide_eq_true c96)
                  have u9 : aTt (m_all S) p0 (i - 1) (f0 + (ee - 1)) = true := by rw [show f0 + (ee - 1) = f0 + ee - 1 by omega]; exact t9.2
                  have x9 : ex9 (aTt (m_all S) p0) (i - 1) (f0 + (ee - 1)) = 0 := if_pos u9
                  have y9 : ey9 (aTt (m_all S) p0) (i - 1) (f0 + (ee - 1)) = 0 := if_pos u9
                  have k9 := back_diag (tk := aTt (m_all S) p0) (fr := f0) (e := ee - 1) (i := i - 1) (by omega) (by omega) (by rw [Nat.sub_add_cancel t9.1.2, Nat.sub_add_cancel t9.1.1, x9]; omega)
                  rw [Nat.sub_add_cancel t9.1.2, Nat.sub_add_cancel t9.1.1, y9] at k9
                  omega
                · omega
          refine lv_iload hC.1 hC.2.1 dX8_goesBack_64 (lv_at hl 0 rfl) ?_
          refine b_if_eq hC (b := decide (0 < i ∧ 0 < ee)) (tgt := 91) dX8_goesBack_66 (by decide) (fun c66 => ?_) (fun c66 => ?_)
          · skip
            refine lv_iconst (v := nI (0)) hC.1 hC.2.1 dX8_goesBack_91 rfl ?_
            refine n_top (y := bI (decide ((0 < i ∧ 0 < ee) ∧ aTt (m_all S) p0 (i - 1) (f0 + ee - 1) = true))) (by first | exact bI_t ⟨of_decide_eq_true c66, c84⟩ | exact bI_f (fun z => by have z2 := z.2; rw [c84] at z2; exact absurd z2 (by decide)) | exact bI_f (fun z => of_decide_eq_false c66 z.1)) ?_
            refine join92  _ _ ls  hX (lv_sub hl [0, 1, 2, 3, 4, 5, 6, 7] rfl)
          · skip
            have t66 := of_decide_eq_true c66
            refine lv_aload_n hC.1 hC.2.1 dX8_goesBack_69 rfl (lv_at hl 4 rfl) ?_
            refine lv_iload_n hC.1 hC.2.1 dX8_goesBack_70 rfl (lv_at hl 5 rfl) ?_
            refine lv_iload hC.1 hC.2.1 dX8_goesBack_71 (lv_at hl 3 rfl) ?_
            refine lv_iconst (v := nI (1)) hC.1 hC.2.1 dX8_goesBack_73 rfl ?_
            refine n_sub hC (a := i) (b := 1) dX8_goesBack_74 (by omega) ?_
            refine lv_iload_n hC.1 hC.2.1 dX8_goesBack_75 rfl (lv_at hl 6 rfl) ?_
            refine lv_iload hC.1 hC.2.1 dX8_goesBack_76 (lv_at hl 2 rfl) ?_
            refine n_add hC (a := f0) (b := ee) dX8_goesBack_78 ?_
            refine lv_iconst (v := nI (1)) hC.1 hC.2.1 dX8_goesBack_79 rfl ?_
            refine n_sub hC (a := f0 + ee) (b := 1) dX8_goesBack_80 (by omega) ?_
            refine cv_I (As := [.int (nI (p0)), .int (nI (i - 1)), .int (nI ((f0 + ee) - (1)))]) (rest := []) hC hK hA hX (c_X8_isTaken l G am (w_exchanged (w_leftOut (w_putIn (S) (qa)) (qb)) (qc)) (p0) (i - 1) ((f0 + ee) - (1)) hp0 (by omega) (by omega) (hTx _ (by omega)) (Nat.lt_trans (htk _ (by omega)) (by decide))) (cwV 3 hC.2.2.2.2 gX8_goesBack_X8_isTaken rfl rfl rfl hd_X8_isTaken ⟨Nat.le_of_ble_eq_true rfl, Nat.le_of_ble_eq_true rfl⟩) (ci := 8) (q := (RX8, TX8, 21)) rfl (q0 := 0) rfl dX8_goesBack_81 rfl hl.1 rfl (Nat.le_of_ble_eq_true rfl) ⟨(Nat.zero_le _), (Nat.zero_le _)⟩ (fun r9 S9 H locs hp9 hX => ?_)
            obtain ⟨rfl, hS9⟩ := hp9
            rw [hS9] at hX
            replace hX : HH G A s.heap (wM G am (w_exchanged (w_leftOut (w_putIn (S) (qa)) (qb)) (qc))) H locs := hX
            refine b_if_eq hC (b := aTt (m_all S) (p0) (i - 1) ((f0 + ee) - (1))) (tgt := 91) dX8_goesBack_84 (by decide) (fun c84 => ?_) (fun c84 => ?_)
            · skip
              refine lv_iconst (v := nI (0)) hC.1 hC.2.1 dX8_goesBack_91 rfl ?_
              refine n_top (y := bI (decide ((0 < i ∧ 0 < ee) ∧ aTt (m_all S) p0 (i - 1) (f0 + ee - 1) = true))) (by first | exact bI_t ⟨of_decide_eq_true c66, c84⟩ | exact bI_f (fun z => by have z2 := z.2; rw [c84] at z2; exact absurd z2 (by decide)) | exact bI_f (fun z => of_decide_eq_false c66 z.1)) ?_
              refine join92  _ _ ls  hX (lv_sub hl [0, 1, 2, 3, 4, 5, 6, 7] rfl)
            · skip
              refine lv_iconst (v := nI (1)) hC.1 hC.2.1 dX8_goesBack_87 rfl ?_
              refine lv_goto (tgt := 92) hC.1 hC.2.1 dX8_goesBack_88 (by decide) ?_
              refine n_top (y := bI (decide ((0 < i ∧ 0 < ee) ∧ aTt (m_all S) p0 (i - 1) (f0 + ee - 1) = true))) (by first | exact bI_t ⟨of_decide_eq_true c66, c84⟩ | exact bI_f (fun z => by have z2 := z.2; rw [c84] at z2; exact absurd z2 (by decide)) | exact bI_f (fun z => of_decide_eq_false c66 z.1)) ?_
              refine join92  _ _ ls  hX (lv_sub hl [0, 1, 2, 3, 4, 5, 6, 7] rfl)
        refine lv_iload hC.1 hC.2.1 dX8_goesBack_47 (lv_at hl 2 rfl) ?_
        refine n_if_le hC (a := i) (tgt := 61) dX8_goesBack_49 (by decide) (by omega) (fun c49 => ?_) (fun c49 => ?_)
        · skip
          refine lv_iconst (v := nI (0)) hC.1 hC.2.1 dX8_goesBack_61 rfl ?_
          refine n_top (y := bI (decide (0 < i ∧ 0 < ee))) (by first | exact bI_t (by omega) | exact bI_f (by omega)) ?_
          refine join62  _ _ ls  hX (lv_sub hl [0, 1, 2, 3, 4, 5, 6] rfl)
        · skip
          refine lv_iload hC.1 hC.2.1 dX8_goesBack_52 (lv_at hl 1 rfl) ?_
          refine n_if_le hC (a := ee) (tgt := 61) dX8_goesBack_54 (by decide) (by omega) (fun c54 => ?_) (fun c54 => ?_)
          · skip
            refine lv_iconst (v := nI (0)) hC.1 hC.2.1 dX8_goesBack_61 rfl ?_
            refine n_top (y := bI (decide (0 < i ∧ 0 < ee))) (by first | exact bI_t (by omega) | exact bI_f (by omega)) ?_
            refine join62  _ _ ls  hX (lv_sub hl [0, 1, 2, 3, 4, 5, 6] rfl)
          · skip
            refine lv_iconst (v := nI (1)) hC.1 hC.2.1 dX8_goesBack_57 rfl ?_
            refine lv_goto (tgt := 62) hC.1 hC.2.1 dX8_goesBack_58 (by decide) ?_
            refine n_top (y := bI (decide (0 < i ∧ 0 < ee))) (by first | exact bI_t (by omega) | exact bI_f (by omega)) ?_
            refine join62  _ _ ls  hX (lv_sub hl [0, 1, 2, 3, 4, 5, 6] rfl)
      · skip
        refine lv_iload hC.1 hC.2.1 dX8_goesBack_32 (lv_at hl 0 rfl) ?_
        refine n_if_le hC (a := ee) (tgt := 241) dX8_goesBack_34 (by decide) (by omega) (fun c34 => ?_) (fun c34 => ?_)
        · skip
          refine r_return hC hr hlk hX dX8_goesBack_241 ?_
          obtain rfl : i = 0 := by omega
          obtain rfl : ee = 0 := by omega
          exact ⟨qa, qb, qc, rfl, by rw [wcol_0] at hw; omega⟩
        · skip
          have hP := hpf i ee (by omega) (by omega)
          have hL1 : 0 < ee → m_part S (121 * i + ee - 1) = dw (aTt (m_all S) p0) f0 (ee - 1) (i) := fun h => by
            have h9 := hpf i (ee - 1) (by omega) (by omega)
            rwa [show 121 * i + (ee - 1) = 121 * i + ee - 1 by omega] at h9
          have hD : 0 < i → 0 < ee → m_part S (121 * i + ee - 121 - 1) = dw (aTt (m_all S) p0) f0 (ee - 1) (i - 1) := fun h h0 => by
            have h9 := hpf (i - 1) (ee - 1) (by omega) (by omega)
            rwa [show 121 * (i - 1) + (ee - 1) = 121 * i + ee - 121 - 1 by omega] at h9
          have hz0 := dw_le (aTt (m_all S) p0) f0 (e := ee) (i := i) (by omega) (by omega)
          have hz1 := dw_le (aTt (m_all S) p0) f0 (e := ee - 1) (i := i) (by omega) (by omega)
          have hz3 := dw_le (aTt (m_all S) p0) f0 (e := ee - 1) (i := i - 1) (by omega) (by omega)
          refine lv_bipush (v := nI (121)) hC.1 hC.2.1 dX8_goesBack_37 (by decide +kernel) ?_
          refine lv_iload hC.1 hC.2.1 dX8_goesBack_39 (lv_at hl 1 rfl) ?_
          refine n_mul hC (a := 121) (b := i) dX8_goesBack_41 ?_
          refine lv_iload hC.1 hC.2.1 dX8_goesBack_42 (lv_at hl 0 rfl) ?_
          refine n_add hC (a := 121 * i) (b := ee) dX8_goesBack_44 ?_
          refine lv_istore (lv' := [(6, .int (nI ((121 * i) + (ee)))), (5, .int (nI (ee))), (4, .int (nI (i))), (0, .ref (am 0)), (1, .int (nI (p0))), (2, .int (nI (f0))), (3, .int (nI (t0)))]) hC.1 hC.2.1 dX8_goesBack_45 hl (by decide) rfl (fun ls hl => ?_)
          have join62 : ∀ (H : Heap) (locs : List Loc) (ls : Array Slot), HH G A s.heap (wM G am (w_exchanged (w_leftOut (w_putIn (S) (qa)) (qb)) (qc))) H locs → lv_has ls 9 [(6, .int (nI ((121 * i) + (ee)))), (5, .int (nI (ee))), (4, .int (nI (i))), (0, .ref (am 0)), (1, .int (nI (p0))), (2, .int (nI (f0))), (3, .int (nI (t0)))] → W p l e { frames := 2, cells := 0, slots := 0, locals := 45 } s m args below meth c H locs 0 0 (EndV G (wM G am) A (fun S' => ∃ a b c, S' = w_exchanged (w_leftOut (w_putIn S a) b) c ∧ wsum a b c = wcol (aTt (m_all S) p0) f0 (t0 - f0) (aPl (m_all S) p0)) below args s 0 0) (F0 m 62 ls [.int (bI (decide (0 < i ∧ 0 < ee)))]) := by
            intro  H locs ls  hX hl
            refine lv_istore (lv' := [(7, .int (bI (decide (0 < i ∧ 0 < ee)))), (6, .int (nI ((121 * i) + (ee)))), (5, .int (nI (ee))), (4, .int (nI (i))), (0, .ref (am 0)), (1, .int (nI (p0))), (2, .int (nI (f0))), (3, .int (nI (t0)))]) hC.1 hC.2.1 dX8_goesBack_62 hl (by decide) rfl (fun ls hl => ?_)
            have join92 : ∀ (H : Heap) (locs : List Loc) (ls : Array Slot), HH G A s.heap (wM G am (w_exchanged (w_leftOut (w_putIn (S) (qa)) (qb)) (qc))) H locs → lv_has ls 9 [(7, .int (bI (decide (0 < i ∧ 0 < ee)))), (6, .int (nI ((121 * i) + (ee)))), (5, .int (nI (ee))), (4, .int (nI (i))), (0, .ref (am 0)), (1, .int (nI (p0))), (2, .int (nI (f0))), (3, .int (nI (t0)))] → W p l e { frames := 2, cells := 0, slots := 0, locals := 45 } s m args below meth c H locs 0 0 (EndV G (wM G am) A (fun S' => ∃ a b c, S' = w_exchanged (w_leftOut (w_putIn S a) b) c ∧ wsum a b c = wcol (aTt (m_all S) p0) f0 (t0 - f0) (aPl (m_all S) p0)) below args s 0 0) (F0 m 92 ls [.int (bI (decide ((0 < i ∧ 0 < ee) ∧ aTt (m_all S) p0 (i - 1) (f0 + ee - 1) = true)))]) := by
              intro  H locs ls  hX hl
              refine lv_istore (lv' := [(8, .int (bI (decide ((0 < i ∧ 0 < ee) ∧ aTt (m_all S) p0 (i - 1) (f0 + ee - 1) = true)))), (7, .int (bI (decide (0 < i ∧ 0 < ee)))), (6, .int (nI ((121 * i) + (ee)))), (5, .int (nI (ee))), (4, .int (nI (i))), (0, .ref (am 0)), (1, .int (nI (p0))), (2, .int (nI (f0))), (3, .int (nI (t0)))]) hC.1 hC.2.1 dX8_goesBack_92 hl (by decide) rfl (fun ls hl => ?_)
              refine lv_iload hC.1 hC.2.1 dX8_goesBack_94 (lv_at hl 0 rfl) ?_
              refine b_if_eq hC (b := decide ((0 < i ∧ 0 < ee) ∧ aTt (m_all S) p0 (i - 1) (f0 + ee - 1) = true)) (tgt := 130) dX8_goesBack_96 (by decide) (fun c96 => ?_) (fun c96 => ?_)
              · skip
                refine lv_iload hC.1 hC.2.1 dX8_goesBack_130 (lv_at hl 1 rfl) ?_
                refine b_if_eq hC (b := decide (0 < i ∧ 0 < ee)) (tgt := 183) dX8_goesBack_132 (by decide) (fun c132 => ?_) (fun c132 => ?_)
                · skip
                  refine lv_iload hC.1 hC.2.1 dX8_goesBack_183 (lv_at hl 3 rfl) ?_
                  refine n_if_le hC (a := ee) (tgt := 225) dX8_goesBack_185 (by decide) (by omega) (fun c185 => ?_) (fun c185 => ?_)
                  · skip
                    have hi9 : 0 < i := by
                      refine Nat.pos_of_ne_zero (fun z => ?_)
                      have he9 : 0 < ee := by omega
                      have k9 := dw_pos (tk := aTt (m_all S) p0) (fr := f0) (e := ee - 1) (by omega)
                      rw [Nat.sub_add_cancel (show 1 ≤ ee by omega)] at k9
                      first | (exfalso; omega) | (rw [z] at c206; omega)
                    refine lv_aload_n hC.1 hC.2.1 dX8_goesBack_225 rfl (lv_at hl 5 rfl) ?_
                    refine lv_dup hC.1 hC.2.1 dX8_goesBack_226 rfl ?_
                    refine g_m_leftOut hC fi_X8_goesBack_X8 hK hX (wd9 hC 2 rfl) dX8_goesBack_227 (v := qb) rfl ?_
                    refine lv_iconst (v := nI (1)) hC.1 hC.2.1 dX8_goesBack_230 rfl ?_
                    refine n_add hC (a := qb) (b := 1) dX8_goesBack_231 ?_
                    refine p_m_leftOut hC fi_X8_goesBack_X8 hK hX (v := qb + 1) (wd9 hC 2 rfl) dX8_goesBack_232 (fun H locs hX => ?_)
                    replace hX : HH G A s.heap (wM G am (w_exchanged (w_leftOut (w_putIn (S) (qa)) (qb + 1)) (qc))) H locs := hX
                    refine lv_iinc (v := nI (i - 1)) (lv' := [(4, .int (nI (i - 1))), (8, .int (bI (decide ((0 < i ∧ 0 < ee) ∧ aTt (m_all S) p0 (i - 1) (f0 + ee - 1) = true)))), (7, .int (bI (decide (0 < i ∧ 0 < ee)))), (6, .int (nI ((121 * i) + (ee)))), (5, .int (nI (ee))), (0, .ref (am 0)), (1, .int (nI (p0))), (2, .int (nI (f0))), (3, .int (nI (t0)))]) hC.1 hC.2.1 dX8_goesBack_235 hl (k := 4) rfl (n_dec1 (by omega)) (by decide) rfl (fun ls hl => ?_)
                    refine lv_goto (tgt := 27) hC.1 hC.2.1 dX8_goesBack_238 (by decide) ?_
                    refine ih27 (i - 1) (ee) (qa) (qb + 1) (qc) ?_ ?_ ?_ ?_ _ _ ls hX (lv_sub hl [4, 0, 5, 6, 7, 8] rfl)
                    · omega
                    · omega
                    · have hd9 : 0 < i → 0 < ee → dw (aTt (m_all S) p0) f0 (ee) (i) ≠ dw (aTt (m_all S) p0) f0 (ee - 1) (i - 1) + ex9 (aTt (m_all S) p0) (i - 1) (f0 + (ee - 1)) := fun h1 h2 => by
                        rw [show f0 + (ee - 1) = f0 + ee - 1 by omega]
                        unfold ex9
                        by_cases hb9 : aTt (m_all S) p0 (i - 1) (f0 + ee - 1) = true
                        · rw [if_pos hb9]
                          first | (have c9 := c118; omega) | exact absurd ⟨⟨h1, h2⟩, hb9⟩ (of_decide_eq_false c96)
                        · rw [if_neg hb9]
                          first | (have c9 := c161; omega) | exact absurd ⟨h1, h2⟩ (of_decide_eq_false c132) | exact absurd (of_decide_eq_true c137).2 hb9
                      have k9 := back_left (tk := aTt (m_all S) p0) (fr := f0) (e := ee) (i := i - 1) (by omega) (by omega) (fun h => by rw [Nat.sub_add_cancel (show 1 ≤ i by omega)]; exact hd9 hi9 h) (fun h => by rw [Nat.sub_add_cancel (show 1 ≤ i by omega)]; first | (have c9 := c206; omega) | omega)
                      rw [Nat.sub_add_cancel (show 1 ≤ i by omega)] at k9
                      unfold wsum at hw ⊢
                      omega
                    · omega
                  · skip
                    refine lv_aload_n hC.1 hC.2.1 dX8_goesBack_188 rfl (lv_at hl 5 rfl) ?_
                    refine g_m_part hC fi_X8_goesBack_X8 hK hX (wd9 hC 4 rfl) dX8_goesBack_189 ?_
                    refine lv_iload hC.1 hC.2.1 dX8_goesBack_192 (lv_at hl 2 rfl) ?_
                    refine l_m_part hC hK hX (i := (121 * i) + (ee)) (by omega) dX8_goesBack_194 (v := dw (aTt (m_all S) p0) f0 (ee) (i)) hP ?_
                    refine lv_aload_n hC.1 hC.2.1 dX8_goesBack_195 rfl (lv_at hl 5 rfl) ?_
                    refine g_m_part hC fi_X8_goesBack_X8 hK hX (wd9 hC 4 rfl) dX8_goesBack_196 ?_
                    refine lv_iload hC.1 hC.2.1 dX8_goesBack_199 (lv_at hl 2 rfl) ?_
                    refine lv_iconst (v := nI (1)) hC.1 hC.2.1 dX8_goesBack_201 rfl ?_
                    refine n_sub hC (a := (121 * i) + (ee)) (b := 1) dX8_goesBack_202 (by omega) ?_
                    refine l_m_part hC hK hX (i := ((121 * i) + (ee)) - (1)) (by omega) dX8_goesBack_203 (v := dw (aTt (m_all S) p0) f0 (ee - 1) (i)) (hL1 (by omega)) ?_
                    refine lv_iconst (v := nI (1)) hC.1 hC.2.1 dX8_goesBack_204 rfl ?_
                    refine n_add hC (a := dw (aTt (m_all S) p0) f0 (ee - 1) (i)) (b := 1) dX8_goesBack_205 ?_
                    refine n_icmp_ne hC (a := dw (aTt (m_all S) p0) f0 (ee) (i)) (b := (dw (aTt (m_all S) p0) f0 (ee - 1) (i)) + (1)) (tgt := 225) dX8_goesBack_206 (by decide) (by omega) (by omega) (fun c206 => ?_) (fun c206 => ?_)
                    · skip
                      have hi9 : 0 < i := by
                        refine Nat.pos_of_ne_zero (fun z => ?_)
                        have he9 : 0 < ee := by omega
                        have k9 := dw_pos (tk := aTt (m_all S) p0) (fr := f0) (e := ee - 1) (by omega)
                        rw [Nat.sub_add_cancel (show 1 ≤ ee by omega)] at k9
                        first | (exfalso; omega) | (rw [z] at c206; omega)
                      refine lv_aload_n hC.1 hC.2.1 dX8_goesBack_225 rfl (lv_at hl 5 rfl) ?_
                      refine lv_dup hC.1 hC.2.1 dX8_goesBack_226 rfl ?_
                      refine g_m_leftOut hC fi_X8_goesBack_X8 hK hX (wd9 hC 2 rfl) dX8_goesBack_227 (v := qb) rfl ?_
                      refine lv_iconst (v := nI (1)) hC.1 hC.2.1 dX8_goesBack_230 rfl ?_
                      refine n_add hC (a := qb) (b := 1) dX8_goesBack_231 ?_
                      refine p_m_leftOut hC fi_X8_goesBack_X8 hK hX (v := qb + 1) (wd9 hC 2 rfl) dX8_goesBack_232 (fun H locs hX => ?_)
                      replace hX : HH G A s.heap (wM G am (w_exchanged (w_leftOut (w_putIn (S) (qa)) (qb + 1)) (qc))) H locs := hX
                      refine lv_iinc (v := nI (i - 1)) (lv' := [(4, .int (nI (i - 1))), (8, .int (bI (decide ((0 < i ∧ 0 < ee) ∧ aTt (m_all S) p0 (i - 1) (f0 + ee - 1) = true)))), (7, .int (bI (decide (0 < i ∧ 0 < ee)))), (6, .int (nI ((121 * i) + (ee)))), (5, .int (nI (ee))), (0, .ref (am 0)), (1, .int (nI (p0))), (2, .int (nI (f0))), (3, .int (nI (t0)))]) hC.1 hC.2.1 dX8_goesBack_235 hl (k := 4) rfl (n_dec1 (by omega)) (by decide) rfl (fun ls hl => ?_)
                      refine lv_goto (tgt := 27) hC.1 hC.2.1 dX8_goesBack_238 (by decide) ?_
                      refine ih27 (i - 1) (ee) (qa) (qb + 1) (qc) ?_ ?_ ?_ ?_ _ _ ls hX (lv_sub hl [4, 0, 5, 6, 7, 8] rfl)
                      · omega
                      · omega
                      · have hd9 : 0 < i → 0 < ee → dw (aTt (m_all S) p0) f0 (ee) (i) ≠ dw (aTt (m_all S) p0) f0 (ee - 1) (i - 1) + ex9 (aTt (m_all S) p0) (i - 1) (f0 + (ee - 1)) := fun h1 h2 => by
                          rw [show f0 + (ee - 1) = f0 + ee - 1 by omega]
                          unfold ex9
                          by_cases hb9 : aTt (m_all S) p0 (i - 1) (f0 + ee - 1) = true
                          · rw [if_pos hb9]
                            first | (have c9 := c118; omega) | exact absurd ⟨⟨h1, h2⟩, hb9⟩ (of_decide_eq_false c96)
                          · rw [if_neg hb9]
                            first | (have c9 := c161; omega) | exact absurd ⟨h1, h2⟩ (of_decide_eq_false c132) | exact absurd (of_decide_eq_true c137).2 hb9
                        have k9 := back_left (tk := aTt (m_all S) p0) (fr := f0) (e := ee) (i := i - 1) (by omega) (by omega) (fun h => by rw [Nat.sub_add_cancel (show 1 ≤ i by omega)]; exact hd9 hi9 h) (fun h => by rw [Nat.sub_add_cancel (show 1 ≤ i by omega)]; first | (have c9 := c206; omega) | omega)
                        rw [Nat.sub_add_cancel (show 1 ≤ i by omega)] at k9
                        unfold wsum at hw ⊢
                        omega
                      · omega
                    · skip
                      refine lv_aload_n hC.1 hC.2.1 dX8_goesBack_209 rfl (lv_at hl 5 rfl) ?_
                      refine lv_dup hC.1 hC.2.1 dX8_goesBack_210 rfl ?_
                      refine g_m_putIn hC fi_X8_goesBack_X8 hK hX (wd9 hC 1 rfl) dX8_goesBack_211 (v := qa) rfl ?_
                      refine lv_iconst (v := nI (1)) hC.1 hC.2.1 dX8_goesBack_214 rfl ?_
                      refine n_add hC (a := qa) (b := 1) dX8_goesBack_215 ?_
                      refine p_m_putIn hC fi_X8_goesBack_X8 hK hX (v := qa + 1) (wd9 hC 1 rfl) dX8_goesBack_216 (fun H locs hX => ?_)
                      replace hX : HH G A s.heap (wM G am (w_exchanged (w_leftOut (w_putIn (S) (qa + 1)) (qb)) (qc))) H locs := hX
                      refine lv_iinc (v := nI (ee - 1)) (lv' := [(5, .int (nI (ee - 1))), (8, .int (bI (decide ((0 < i ∧ 0 < ee) ∧ aTt (m_all S) p0 (i - 1) (f0 + ee - 1) = true)))), (7, .int (bI (decide (0 < i ∧ 0 < ee)))), (6, .int (nI ((121 * i) + (ee)))), (4, .int (nI (i))), (0, .ref (am 0)), (1, .int (nI (p0))), (2, .int (nI (f0))), (3, .int (nI (t0)))]) hC.1 hC.2.1 dX8_goesBack_219 hl (k := 3) rfl (n_dec1 (by omega)) (by decide) rfl (fun ls hl => ?_)
                      refine lv_goto (tgt := 238) hC.1 hC.2.1 dX8_goesBack_222 (by decide) ?_
                      refine lv_goto (tgt := 27) hC.1 hC.2.1 dX8_goesBack_238 (by decide) ?_
                      refine ih27 (i) (ee - 1) (qa + 1) (qb) (qc) ?_ ?_ ?_ ?_ _ _ ls hX (lv_sub hl [0, 4, 5, 6, 7, 8] rfl)
                      · omega
                      · omega
                      · have hd9 : 0 < i → 0 < ee → dw (aTt (m_all S) p0) f0 (ee) (i) ≠ dw (aTt (m_all S) p0) f0 (ee - 1) (i - 1) + ex9 (aTt (m_all S) p0) (i - 1) (f0 + (ee - 1)) := fun h1 h2 => by
                          rw [show f0 + (ee - 1) = f0 + ee - 1 by omega]
                          unfold ex9
                          by_cases hb9 : aTt (m_all S) p0 (i - 1) (f0 + ee - 1) = true
                          · rw [if_pos hb9]
                            first | (have c9 := c118; omega) | exact absurd ⟨⟨h1, h2⟩, hb9⟩ (of_decide_eq_false c96)
                          · rw [if_neg hb9]
                            first | (have c9 := c161; omega) | exact absurd ⟨h1, h2⟩ (of_decide_eq_false c132) | exact absurd (of_decide_eq_true c137).2 hb9
                        have k9 := back_put (tk := aTt (m_all S) p0) (fr := f0) (e := ee - 1) (i := i) (by omega) (by omega) (fun h => by rw [Nat.sub_add_cancel (show 1 ≤ ee by omega)]; exact hd9 h (by omega)) (by rw [Nat.sub_add_cancel (show 1 ≤ ee by omega)]; omega)
                        rw [Nat.sub_add_cancel (show 1 ≤ ee by omega)] at k9
                        unfold wsum at hw ⊢
                        omega
                      · omega
                · skip
                  have t132 := of_decide_eq_true c132
                  refine lv_iload hC.1 hC.2.1 dX8_goesBack_135 (lv_at hl 0 rfl) ?_
                  refine b_if_ne hC (b := decide ((0 < i ∧ 0 < ee) ∧ aTt (m_all S) p0 (i - 1) (f0 + ee - 1) = true)) (tgt := 183) dX8_goesBack_137 (by decide) (fun c137 => ?_) (fun c137 => ?_)
                  · skip
                    refine lv_iload hC.1 hC.2.1 dX8_goesBack_183 (lv_at hl 3 rfl) ?_
                    refine n_if_le hC (a := ee) (tgt := 225) dX8_goesBack_185 (by decide) (by omega) (fun c185 => ?_) (fun c185 => ?_)
                    · skip
                      have hi9 : 0 < i := by
                        refine Nat.pos_of_ne_zero (fun z => ?_)
                        have he9 : 0 < ee := by omega
                        have k9 := dw_pos (tk := aTt (m_all S) p0) (fr := f0) (e := ee - 1) (by omega)
                        rw [Nat.sub_add_cancel (show 1 ≤ ee by omega)] at k9
                        first | (exfalso; omega) | (rw [z] at c206; omega)
                      refine lv_aload_n hC.1 hC.2.1 dX8_goesBack_225 rfl (lv_at hl 5 rfl) ?_
                      refine lv_dup hC.1 hC.2.1 dX8_goesBack_226 rfl ?_
                      refine g_m_leftOut hC fi_X8_goesBack_X8 hK hX (wd9 hC 2 rfl) dX8_goesBack_227 (v := qb) rfl ?_
                      refine lv_iconst (v := nI (1)) hC.1 hC.2.1 dX8_goesBack_230 rfl ?_
                      refine n_add hC (a := qb) (b := 1) dX8_goesBack_231 ?_
                      refine p_m_leftOut hC fi_X8_goesBack_X8 hK hX (v := qb + 1) (wd9 hC 2 rfl) dX8_goesBack_232 (fun H locs hX => ?_)
                      replace hX : HH G A s.heap (wM G am (w_exchanged (w_leftOut (w_putIn (S) (qa)) (qb + 1)) (qc))) H locs := hX
                      refine lv_iinc (v := nI (i - 1)) (lv' := [(4, .int (nI (i - 1))), (8, .int (bI (decide ((0 < i ∧ 0 < ee) ∧ aTt (m_all S) p0 (i - 1) (f0 + ee - 1) = true)))), (7, .int (bI (decide (0 < i ∧ 0 < ee)))), (6, .int (nI ((121 * i) + (ee)))), (5, .int (nI (ee))), (0, .ref (am 0)), (1, .int (nI (p0))), (2, .int (nI (f0))), (3, .int (nI (t0)))]) hC.1 hC.2.1 dX8_goesBack_235 hl (k := 4) rfl (n_dec1 (by omega)) (by decide) rfl (fun ls hl => ?_)
                      refine lv_goto (tgt := 27) hC.1 hC.2.1 dX8_goesBack_238 (by decide) ?_
                      refine ih27 (i - 1) (ee) (qa) (qb + 1) (qc) ?_ ?_ ?_ ?_ _ _ ls hX (lv_sub hl [4, 0, 5, 6, 7, 8] rfl)
                      · omega
                      · omega
                      · have hd9 : 0 < i → 0 < ee → dw (aTt (m_all S) p0) f0 (ee) (i) ≠ dw (aTt (m_all S) p0) f0 (ee - 1) (i - 1) + ex9 (aTt (m_all S) p0) (i - 1) (f0 + (ee - 1)) := fun h1 h2 => by
                          rw [show f0 + (ee - 1) = f0 + ee - 1 by omega]
                          unfold ex9
                          by_cases hb9 : aTt (m_all S) p0 (i - 1) (f0 + ee - 1) = true
                          · rw [if_pos hb9]
                            first | (have c9 := c118; omega) | exact absurd ⟨⟨h1, h2⟩, hb9⟩ (of_decide_eq_false c96)
                          · rw [if_neg hb9]
                            first | (have c9 := c161; omega) | exact absurd ⟨h1, h2⟩ (of_decide_eq_false c132) | exact absurd (of_decide_eq_true c137).2 hb9
                        have k9 := back_left (tk := aTt (m_all S) p0) (fr := f0) (e := ee) (i := i - 1) (by omega) (by omega) (fun h => by rw [Nat.sub_add_cancel (show 1 ≤ i by omega)]; exact hd9 hi9 h) (fun h => by rw [Nat.sub_add_cancel (show 1 ≤ i by omega)]; first | (have c9 := c206; omega) | omega)
                        rw [Nat.sub_add_cancel (show 1 ≤ i by omega)] at k9
                        unfold wsum at hw ⊢
                        omega
                      · omega
                    · skip
                      refine lv_aload_n hC.1 hC.2.1 dX8_goesBack_188 rfl (lv_at hl 5 rfl) ?_
                      refine g_m_part hC fi_X8_goesBack_X8 hK hX (wd9 hC 4 rfl) dX8_goesBack_189 ?_
                      refine lv_iload hC.1 hC.2.1 dX8_goesBack_192 (lv_at hl 2 rfl) ?_
                      refine l_m_part hC hK hX (i := (121 * i) + (ee)) (by omega) dX8_goesBack_194 (v := dw (aTt (m_all S) p0) f0 (ee) (i)) hP ?_
                      refine lv_aload_n hC.1 hC.2.1 dX8_goesBack_195 rfl (lv_at hl 5 rfl) ?_
                      refine g_m_part hC fi_X8_goesBack_X8 hK hX (wd9 hC 4 rfl) dX8_goesBack_196 ?_
                      refine lv_iload hC.1 hC.2.1 dX8_goesBack_199 (lv_at hl 2 rfl) ?_
                      refine lv_iconst (v := nI (1)) hC.1 hC.2.1 dX8_goesBack_201 rfl ?_
                      refine n_sub hC (a := (121 * i) + (ee)) (b := 1) dX8_goesBack_202 (by omega) ?_
                      refine l_m_part hC hK hX (i := ((121 * i) + (ee)) - (1)) (by omega) dX8_goesBack_203 (v := dw (aTt (m_all S) p0) f0 (ee - 1) (i)) (hL1 (by omega)) ?_
                      refine lv_iconst (v := nI (1)) hC.1 hC.2.1 dX8_goesBack_204 rfl ?_
                      refine n_add hC (a := dw (aTt (m_all S) p0) f0 (ee - 1) (i)) (b := 1) dX8_goesBack_205 ?_
                      refine n_icmp_ne hC (a := dw (aTt (m_all S) p0) f0 (ee) (i)) (b := (dw (aTt (m_all S) p0) f0 (ee - 1) (i)) + (1)) (tgt := 225) dX8_goesBack_206 (by decide) (by omega) (by omega) (fun c206 => ?_) (fun c206 => ?_)
                      · skip
                        have hi9 : 0 < i := by
                          refine Nat.pos_of_ne_zero (fun z => ?_)
                          have he9 : 0 < ee := by omega
                          have k9 := dw_pos (tk := aTt (m_all S) p0) (fr := f0) (e := ee - 1) (by omega)
                          rw [Nat.sub_add_cancel (show 1 ≤ ee by omega)] at k9
                          first | (exfalso; omega) | (rw [z] at c206; omega)
                        refine lv_aload_n hC.1 hC.2.1 dX8_goesBack_225 rfl (lv_at hl 5 rfl) ?_
                        refine lv_dup hC.1 hC.2.1 dX8_goesBack_226 rfl ?_
                        refine g_m_leftOut hC fi_X8_goesBack_X8 hK hX (wd9 hC 2 rfl) dX8_goesBack_227 (v := qb) rfl ?_
                        refine lv_iconst (v := nI (1)) hC.1 hC.2.1 dX8_goesBack_230 rfl ?_
                        refine n_add hC (a := qb) (b := 1) dX8_goesBack_231 ?_
                        refine p_m_leftOut hC fi_X8_goesBack_X8 hK hX (v := qb + 1) (wd9 hC 2 rfl) dX8_goesBack_232 (fun H locs hX => ?_)
                        replace hX : HH G A s.heap (wM G am (w_exchanged (w_leftOut (w_putIn (S) (qa)) (qb + 1)) (qc))) H locs := hX
                        refine lv_iinc (v := nI (i - 1)) (lv' := [(4, .int (nI (i - 1))), (8, .int (bI (decide ((0 < i ∧ 0 < ee) ∧ aTt (m_all S) p0 (i - 1) (f0 + ee - 1) = true)))), (7, .int (bI (decide (0 < i ∧ 0 < ee)))), (6, .int (nI ((121 * i) + (ee)))), (5, .int (nI (ee))), (0, .ref (am 0)), (1, .int (nI (p0))), (2, .int (nI (f0))), (3, .int (nI (t0)))]) hC.1 hC.2.1 dX8_goesBack_235 hl (k := 4) rfl (n_dec1 (by omega)) (by decide) rfl (fun ls hl => ?_)
                        refine lv_goto (tgt := 27) hC.1 hC.2.1 dX8_goesBack_238 (by decide) ?_
                        refine ih27 (i - 1) (ee) (qa) (qb + 1) (qc) ?_ ?_ ?_ ?_ _ _ ls hX (lv_sub hl [4, 0, 5, 6, 7, 8] rfl)
                        · omega
                        · omega
                        · have hd9 : 0 < i → 0 < ee → dw (aTt (m_all S) p0) f0 (ee) (i) ≠ dw (aTt (m_all S) p0) f0 (ee - 1) (i - 1) + ex9 (aTt (m_all S) p0) (i - 1) (f0 + (ee - 1)) := fun h1 h2 => by
                            rw [show f0 + (ee - 1) = f0 + ee - 1 by omega]
                            unfold ex9
                            by_cases hb9 : aTt (m_all S) p0 (i - 1) (f0 + ee - 1) = true
                            · rw [if_pos hb9]
                              first | (have c9 := c118; omega) | exact absurd ⟨⟨h1, h2⟩, hb9⟩ (of_decide_eq_false c96)
                            · rw [if_neg hb9]
                              first | (have c9 := c161; omega) | exact absurd ⟨h1, h2⟩ (of_decide_eq_false c132) | exact absurd (of_decide_eq_true c137).2 hb9
                          have k9 := back_left (tk := aTt (m_all S) p0) (fr := f0) (e := ee) (i := i - 1) (by omega) (by omega) (fun h => by rw [Nat.sub_add_cancel (show 1 ≤ i by omega)]; exact hd9 hi9 h) (fun h => by rw [Nat.sub_add_cancel (show 1 ≤ i by omega)]; first | (have c9 := c206; omega) | omega)
                          rw [Nat.sub_add_cancel (show 1 ≤ i by omega)] at k9
                          unfold wsum at hw ⊢
                          omega
                        · omega
                      · skip
                        refine lv_aload_n hC.1 hC.2.1 dX8_goesBack_209 rfl (lv_at hl 5 rfl) ?_
                        refine lv_dup hC.1 hC.2.1 dX8_goesBack_210 rfl ?_
                        refine g_m_putIn hC fi_X8_goesBack_X8 hK hX (wd9 hC 1 rfl) dX8_goesBack_211 (v := qa) rfl ?_
                        refine lv_iconst (v := nI (1)) hC.1 hC.2.1 dX8_goesBack_214 rfl ?_
                        refine n_add hC (a := qa) (b := 1) dX8_goesBack_215 ?_
                        refine p_m_putIn hC fi_X8_goesBack_X8 hK hX (v := qa + 1) (wd9 hC 1 rfl) dX8_goesBack_216 (fun H locs hX => ?_)
                        replace hX : HH G A s.heap (wM G am (w_exchanged (w_leftOut (w_putIn (S) (qa + 1)) (qb)) (qc))) H locs := hX
                        refine lv_iinc (v := nI (ee - 1)) (lv' := [(5, .int (nI (ee - 1))), (8, .int (bI (decide ((0 < i ∧ 0 < ee) ∧ aTt (m_all S) p0 (i - 1) (f0 + ee - 1) = true)))), (7, .int (bI (decide (0 < i ∧ 0 < ee)))), (6, .int (nI ((121 * i) + (ee)))), (4, .int (nI (i))), (0, .ref (am 0)), (1, .int (nI (p0))), (2, .int (nI (f0))), (3, .int (nI (t0)))]) hC.1 hC.2.1 dX8_goesBack_219 hl (k := 3) rfl (n_dec1 (by omega)) (by decide) rfl (fun ls hl => ?_)
                        refine lv_goto (tgt := 238) hC.1 hC.2.1 dX8_goesBack_222 (by decide) ?_
                        refine lv_goto (tgt := 27) hC.1 hC.2.1 dX8_goesBack_238 (by decide) ?_
                        refine ih27 (i) (ee - 1) (qa + 1) (qb) (qc) ?_ ?_ ?_ ?_ _ _ ls hX (lv_sub hl [0, 4, 5, 6, 7, 8] rfl)
                        · omega
                        · omega
                        · have hd9 : 0 < i → 0 < ee → dw (aTt (m_all S) p0) f0 (ee) (i) ≠ dw (aTt (m_all S) p0) f0 (ee - 1) (i - 1) + ex9 (aTt (m_all S) p0) (i - 1) (f0 + (ee - 1)) := fun h1 h2 => by
                            rw [show f0 + (ee - 1) = f0 + ee - 1 by omega]
                            unfold ex9
                            by_cases hb9 : aTt (m_all S) p0 (i - 1) (f0 + ee - 1) = true
                            · rw [if_pos hb9]
                              first | (have c9 := c118; omega) | exact absurd ⟨⟨h1, h2⟩, hb9⟩ (of_decide_eq_false c96)
                            · rw [if_neg hb9]
                              first | (have c9 := c161; omega) | exact absurd ⟨h1, h2⟩ (of_decide_eq_false c132) | exact absurd (of_decide_eq_true c137).2 hb9
                          have k9 := back_put (tk := aTt (m_all S) p0) (fr := f0) (e := ee - 1) (i := i) (by omega) (by omega) (fun h => by rw [Nat.sub_add_cancel (show 1 ≤ ee by omega)]; exact hd9 h (by omega)) (by rw [Nat.sub_add_cancel (show 1 ≤ ee by omega)]; omega)
                          rw [Nat.sub_add_cancel (show 1 ≤ ee by omega)] at k9
                          unfold wsum at hw ⊢
                          omega
                        · omega
                  · skip
                    refine lv_aload_n hC.1 hC.2.1 dX8_goesBack_140 rfl (lv_at hl 5 rfl) ?_
                    refine g_m_part hC fi_X8_goesBack_X8 hK hX (wd9 hC 4 rfl) dX8_goesBack_141 ?_
                    refine lv_iload hC.1 hC.2.1 dX8_goesBack_144 (lv_at hl 2 rfl) ?_
                    refine l_m_part hC hK hX (i := (121 * i) + (ee)) (by omega) dX8_goesBack_146 (v := dw (aTt (m_all S) p0) f0 (ee) (i)) hP ?_
                    refine lv_aload_n hC.1 hC.2.1 dX8_goesBack_147 rfl (lv_at hl 5 rfl) ?_
                    refine g_m_part hC fi_X8_goesBack_X8 hK hX (wd9 hC 4 rfl) dX8_goesBack_148 ?_
                    refine lv_iload hC.1 hC.2.1 dX8_goesBack_151 (lv_at hl 2 rfl) ?_
                    refine lv_bipush (v := nI (121)) hC.1 hC.2.1 dX8_goesBack_153 (by decide +kernel) ?_
                    refine n_sub hC (a := (121 * i) + (ee)) (b := 121) dX8_goesBack_155 (by omega) ?_
                    refine lv_iconst (v := nI (1)) hC.1 hC.2.1 dX8_goesBack_156 rfl ?_
                    refine n_sub hC (a := ((121 * i) + (ee)) - (121)) (b := 1) dX8_goesBack_157 (by omega) ?_
                    refine l_m_part hC hK hX (i := (((121 * i) + (ee)) - (121)) - (1)) (by omega) dX8_goesBack_158 (v := dw (aTt (m_all S) p0) f0 (ee - 1) (i - 1)) (hD (by omega) (by omega)) ?_
                    refine lv_iconst (v := nI (1)) hC.1 hC.2.1 dX8_goesBack_159 rfl ?_
                    refine n_add hC (a := dw (aTt (m_all S) p0) f0 (ee - 1) (i - 1)) (b := 1) dX8_goesBack_160 ?_
                    refine n_icmp_ne hC (a := dw (aTt (m_all S) p0) f0 (ee) (i)) (b := (dw (aTt (m_all S) p0) f0 (ee - 1) (i - 1)) + (1)) (tgt := 183) dX8_goesBack_161 (by decide) (by omega) (by omega) (fun c161 => ?_) (fun c161 => ?_)
                    · skip
                      refine lv_iload hC.1 hC.2.1 dX8_goesBack_183 (lv_at hl 3 rfl) ?_
                      refine n_if_le hC (a := ee) (tgt := 225) dX8_goesBack_185 (by decide) (by omega) (fun c185 => ?_) (fun c185 => ?_)
                      · skip
                        have hi9 : 0 < i := by
                          refine Nat.pos_of_ne_zero (fun z => ?_)
                          have he9 : 0 < ee := by omega
                          have k9 := dw_pos (tk := aTt (m_all S) p0) (fr := f0) (e := ee - 1) (by omega)
                          rw [Nat.sub_add_cancel (show 1 ≤ ee by omega)] at k9
                          first | (exfalso; omega) | (rw [z] at c206; omega)
                        refine lv_aload_n hC.1 hC.2.1 dX8_goesBack_225 rfl (lv_at hl 5 rfl) ?_
                        refine lv_dup hC.1 hC.2.1 dX8_goesBack_226 rfl ?_
                        refine g_m_leftOut hC fi_X8_goesBack_X8 hK hX (wd9 hC 2 rfl) dX8_goesBack_227 (v := qb) rfl ?_
                        refine lv_iconst (v := nI (1)) hC.1 hC.2.1 dX8_goesBack_230 rfl ?_
                        refine n_add hC (a := qb) (b := 1) dX8_goesBack_231 ?_
                        refine p_m_leftOut hC fi_X8_goesBack_X8 hK hX (v := qb + 1) (wd9 hC 2 rfl) dX8_goesBack_232 (fun H locs hX => ?_)
                        replace hX : HH G A s.heap (wM G am (w_exchanged (w_leftOut (w_putIn (S) (qa)) (qb + 1)) (qc))) H locs := hX
                        refine lv_iinc (v := nI (i - 1)) (lv' := [(4, .int (nI (i - 1))), (8, .int (bI (decide ((0 < i ∧ 0 < ee) ∧ aTt (m_all S) p0 (i - 1) (f0 + ee - 1) = true)))), (7, .int (bI (decide (0 < i ∧ 0 < ee)))), (6, .int (nI ((121 * i) + (ee)))), (5, .int (nI (ee))), (0, .ref (am 0)), (1, .int (nI (p0))), (2, .int (nI (f0))), (3, .int (nI (t0)))]) hC.1 hC.2.1 dX8_goesBack_235 hl (k := 4) rfl (n_dec1 (by omega)) (by decide) rfl (fun ls hl => ?_)
                        refine lv_goto (tgt := 27) hC.1 hC.2.1 dX8_goesBack_238 (by decide) ?_
                        refine ih27 (i - 1) (ee) (qa) (qb + 1) (qc) ?_ ?_ ?_ ?_ _ _ ls hX (lv_sub hl [4, 0, 5, 6, 7, 8] rfl)
                        · omega
                        · omega
                        · have hd9 : 0 < i → 0 < ee → dw (aTt (m_all S) p0) f0 (ee) (i) ≠ dw (aTt (m_all S) p0) f0 (ee - 1) (i - 1) + ex9 (aTt (m_all S) p0) (i - 1) (f0 + (ee - 1)) := fun h1 h2 => by
                            rw [show f0 + (ee - 1) = f0 + ee - 1 by omega]
                            unfold ex9
                            by_cases hb9 : aTt (m_all S) p0 (i - 1) (f0 + ee - 1) = true
                            · rw [if_pos hb9]
                              first | (have c9 := c118; omega) | exact absurd ⟨⟨h1, h2⟩, hb9⟩ (of_decide_eq_false c96)
                            · rw [if_neg hb9]
                              first | (have c9 := c161; omega) | exact absurd ⟨h1, h2⟩ (of_decide_eq_false c132) | exact absurd (of_decide_eq_true c137).2 hb9
                          have k9 := back_left (tk := aTt (m_all S) p0) (fr := f0) (e := ee) (i := i - 1) (by omega) (by omega) (fun h => by rw [Nat.sub_add_cancel (show 1 ≤ i by omega)]; exact hd9 hi9 h) (fun h => by rw [Nat.sub_add_cancel (show 1 ≤ i by omega)]; first | (have c9 := c206; omega) | omega)
                          rw [Nat.sub_add_cancel (show 1 ≤ i by omega)] at k9
                          unfold wsum at hw ⊢
                          omega
                        · omega
                      · skip
                        refine lv_aload_n hC.1 hC.2.1 dX8_goesBack_188 rfl (lv_at hl 5 rfl) ?_
                        refine g_m_part hC fi_X8_goesBack_X8 hK hX (wd9 hC 4 rfl) dX8_goesBack_189 ?_
                        refine lv_iload hC.1 hC.2.1 dX8_goesBack_192 (lv_at hl 2 rfl) ?_
                        refine l_m_part hC hK hX (i := (121 * i) + (ee)) (by omega) dX8_goesBack_194 (v := dw (aTt (m_all S) p0) f0 (ee) (i)) hP ?_
                        refine lv_aload_n hC.1 hC.2.1 dX8_goesBack_195 rfl (lv_at hl 5 rfl) ?_
                        refine g_m_part hC fi_X8_goesBack_X8 hK hX (wd9 hC 4 rfl) dX8_goesBack_196 ?_
                        refine lv_iload hC.1 hC.2.1 dX8_goesBack_199 (lv_at hl 2 rfl) ?_
                        refine lv_iconst (v := nI (1)) hC.1 hC.2.1 dX8_goesBack_201 rfl ?_
                        refine n_sub hC (a := (121 * i) + (ee)) (b := 1) dX8_goesBack_202 (by omega) ?_
                        refine l_m_part hC hK hX (i := ((121 * i) + (ee)) - (1)) (by omega) dX8_goesBack_203 (v := dw (aTt (m_all S) p0) f0 (ee - 1) (i)) (hL1 (by omega)) ?_
                        refine lv_iconst (v := nI (1)) hC.1 hC.2.1 dX8_goesBack_204 rfl ?_
                        refine n_add hC (a := dw (aTt (m_all S) p0) f0 (ee - 1) (i)) (b := 1) dX8_goesBack_205 ?_
                        refine n_icmp_ne hC (a := dw (aTt (m_all S) p0) f0 (ee) (i)) (b := (dw (aTt (m_all S) p0) f0 (ee - 1) (i)) + (1)) (tgt := 225) dX8_goesBack_206 (by decide) (by omega) (by omega) (fun c206 => ?_) (fun c206 => ?_)
                        · skip
                          have hi9 : 0 < i := by
                            refine Nat.pos_of_ne_zero (fun z => ?_)
                            have he9 : 0 < ee := by omega
                            have k9 := dw_pos (tk := aTt (m_all S) p0) (fr := f0) (e := ee - 1) (by omega)
                            rw [Nat.sub_add_cancel (show 1 ≤ ee by omega)] at k9
                            first | (exfalso; omega) | (rw [z] at c206; omega)
                          refine lv_aload_n hC.1 hC.2.1 dX8_goesBack_225 rfl (lv_at hl 5 rfl) ?_
                          refine lv_dup hC.1 hC.2.1 dX8_goesBack_226 rfl ?_
                          refine g_m_leftOut hC fi_X8_goesBack_X8 hK hX (wd9 hC 2 rfl) dX8_goesBack_227 (v := qb) rfl ?_
                          refine lv_iconst (v := nI (1)) hC.1 hC.2.1 dX8_goesBack_230 rfl ?_
                          refine n_add hC (a := qb) (b := 1) dX8_goesBack_231 ?_
                          refine p_m_leftOut hC fi_X8_goesBack_X8 hK hX (v := qb + 1) (wd9 hC 2 rfl) dX8_goesBack_232 (fun H locs hX => ?_)
                          replace hX : HH G A s.heap (wM G am (w_exchanged (w_leftOut (w_putIn (S) (qa)) (qb + 1)) (qc))) H locs := hX
                          refine lv_iinc (v := nI (i - 1)) (lv' := [(4, .int (nI (i - 1))), (8, .int (bI (decide ((0 < i ∧ 0 < ee) ∧ aTt (m_all S) p0 (i - 1) (f0 + ee - 1) = true)))), (7, .int (bI (decide (0 < i ∧ 0 < ee)))), (6, .int (nI ((121 * i) + (ee)))), (5, .int (nI (ee))), (0, .ref (am 0)), (1, .int (nI (p0))), (2, .int (nI (f0))), (3, .int (nI (t0)))]) hC.1 hC.2.1 dX8_goesBack_235 hl (k := 4) rfl (n_dec1 (by omega)) (by decide) rfl (fun ls hl => ?_)
                          refine lv_goto (tgt := 27) hC.1 hC.2.1 dX8_goesBack_238 (by decide) ?_
                          refine ih27 (i - 1) (ee) (qa) (qb + 1) (qc) ?_ ?_ ?_ ?_ _ _ ls hX (lv_sub hl [4, 0, 5, 6, 7, 8] rfl)
                          · omega
                          · omega
                          · have hd9 : 0 < i → 0 < ee → dw (aTt (m_all S) p0) f0 (ee) (i) ≠ dw (aTt (m_all S) p0) f0 (ee - 1) (i - 1) + ex9 (aTt (m_all S) p0) (i - 1) (f0 + (ee - 1)) := fun h1 h2 => by
                              rw [show f0 + (ee - 1) = f0 + ee - 1 by omega]
                              unfold ex9
                              by_cases hb9 : aTt (m_all S) p0 (i - 1) (f0 + ee - 1) = true
                              · rw [if_pos hb9]
                                first | (have c9 := c118; omega) | exact absurd ⟨⟨h1, h2⟩, hb9⟩ (of_decide_eq_false c96)
                              · rw [if_neg hb9]
                                first | (have c9 := c161; omega) | exact absurd ⟨h1, h2⟩ (of_decide_eq_false c132) | exact absurd (of_decide_eq_true c137).2 hb9
                            have k9 := back_left (tk := aTt (m_all S) p0) (fr := f0) (e := ee) (i := i - 1) (by omega) (by omega) (fun h => by rw [Nat.sub_add_cancel (show 1 ≤ i by omega)]; exact hd9 hi9 h) (fun h => by rw [Nat.sub_add_cancel (show 1 ≤ i by omega)]; first | (have c9 := c206; omega) | omega)
                            rw [Nat.sub_add_cancel (show 1 ≤ i by omega)] at k9
                            unfold wsum at hw ⊢
                            omega
                          · omega
                        · skip
                          refine lv_aload_n hC.1 hC.2.1 dX8_goesBack_209 rfl (lv_at hl 5 rfl) ?_
                          refine lv_dup hC.1 hC.2.1 dX8_goesBack_210 rfl ?_
                          refine g_m_putIn hC fi_X8_goesBack_X8 hK hX (wd9 hC 1 rfl) dX8_goesBack_211 (v := qa) rfl ?_
                          refine lv_iconst (v := nI (1)) hC.1 hC.2.1 dX8_goesBack_214 rfl ?_
                          refine n_add hC (a := qa) (b := 1) dX8_goesBack_215 ?_
                          refine p_m_putIn hC fi_X8_goesBack_X8 hK hX (v := qa + 1) (wd9 hC 1 rfl) dX8_goesBack_216 (fun H locs hX => ?_)
                          replace hX : HH G A s.heap (wM G am (w_exchanged (w_leftOut (w_putIn (S) (qa + 1)) (qb)) (qc))) H locs := hX
                          refine lv_iinc (v := nI (ee - 1)) (lv' := [(5, .int (nI (ee - 1))), (8, .int (bI (decide ((0 < i ∧ 0 < ee) ∧ aTt (m_all S) p0 (i - 1) (f0 + ee - 1) = true)))), (7, .int (bI (decide (0 < i ∧ 0 < ee)))), (6, .int (nI ((121 * i) + (ee)))), (4, .int (nI (i))), (0, .ref (am 0)), (1, .int (nI (p0))), (2, .int (nI (f0))), (3, .int (nI (t0)))]) hC.1 hC.2.1 dX8_goesBack_219 hl (k := 3) rfl (n_dec1 (by omega)) (by decide) rfl (fun ls hl => ?_)
                          refine lv_goto (tgt := 238) hC.1 hC.2.1 dX8_goesBack_222 (by decide) ?_
                          refine lv_goto (tgt := 27) hC.1 hC.2.1 dX8_goesBack_238 (by decide) ?_
                          refine ih27 (i) (ee - 1) (qa + 1) (qb) (qc) ?_ ?_ ?_ ?_ _ _ ls hX (lv_sub hl [0, 4, 5, 6, 7, 8] rfl)
                          · omega
                          · omega
                          · have hd9 : 0 < i → 0 < ee → dw (aTt (m_all S) p0) f0 (ee) (i) ≠ dw (aTt (m_all S) p0) f0 (ee - 1) (i - 1) + ex9 (aTt (m_all S) p0) (i - 1) (f0 + (ee - 1)) := fun h1 h2 => by
                              rw [show f0 + (ee - 1) = f0 + ee - 1 by omega]
                              unfold ex9
                              by_cases hb9 : aTt (m_all S) p0 (i - 1) (f0 + ee - 1) = true
                              · rw [if_pos hb9]
                                first | (have c9 := c118; omega) | exact absurd ⟨⟨h1, h2⟩, hb9⟩ (of_decide_eq_false c96)
                              · rw [if_neg hb9]
                                first | (have c9 := c161; omega) | exact absurd ⟨h1, h2⟩ (of_decide_eq_false c132) | exact absurd (of_decide_eq_true c137).2 hb9
                            have k9 := back_put (tk := aTt (m_all S) p0) (fr := f0) (e := ee - 1) (i := i) (by omega) (by omega) (fun h => by rw [Nat.sub_add_cancel (show 1 ≤ ee by omega)]; exact hd9 h (by omega)) (by rw [Nat.sub_add_cancel (show 1 ≤ ee by omega)]; omega)
                            rw [Nat.sub_add_cancel (show 1 ≤ ee by omega)] at k9
                            unfold wsum at hw ⊢
                            omega
                          · omega
                    · skip
                      refine lv_aload_n hC.1 hC.2.1 dX8_goesBack_164 rfl (lv_at hl 5 rfl) ?_
                      refine lv_dup hC.1 hC.2.1 dX8_goesBack_165 rfl ?_
                      refine g_m_exchanged hC fi_X8_goesBack_X8 hK hX (wd9 hC 3 rfl) dX8_goesBack_166 (v := qc) rfl ?_
                      refine lv_iconst (v := nI (1)) hC.1 hC.2.1 dX8_goesBack_169 rfl ?_
                      refine n_add hC (a := qc) (b := 1) dX8_goesBack_170 ?_
                      refine p_m_exchanged hC fi_X8_goesBack_X8 hK hX (v := qc + 1) (wd9 hC 3 rfl) dX8_goesBack_171 (fun H locs hX => ?_)
                      replace hX : HH G A s.heap (wM G am (w_exchanged (w_leftOut (w_putIn (S) (qa)) (qb)) (qc + 1))) H locs := hX
                      refine lv_iinc (v := nI (i - 1)) (lv' := [(4, .int (nI (i - 1))), (8, .int (bI (decide ((0 < i ∧ 0 < ee) ∧ aTt (m_all S) p0 (i - 1) (f0 + ee - 1) = true)))), (7, .int (bI (decide (0 < i ∧ 0 < ee)))), (6, .int (nI ((121 * i) + (ee)))), (5, .int (nI (ee))), (0, .ref (am 0)), (1, .int (nI (p0))), (2, .int (nI (f0))), (3, .int (nI (t0)))]) hC.1 hC.2.1 dX8_goesBack_174 hl (k := 4) rfl (n_dec1 (by omega)) (by decide) rfl (fun ls hl => ?_)
                      refine lv_iinc (v := nI (ee - 1)) (lv' := [(5, .int (nI (ee - 1))), (4, .int (nI (i - 1))), (8, .int (bI (decide ((0 < i ∧ 0 < ee) ∧ aTt (m_all S) p0 (i - 1) (f0 + ee - 1) = true)))), (7, .int (bI (decide (0 < i ∧ 0 < ee)))), (6, .int (nI ((121 * i) + (ee)))), (0, .ref (am 0)), (1, .int (nI (p0))), (2, .int (nI (f0))), (3, .int (nI (t0)))]) hC.1 hC.2.1 dX8_goesBack_177 hl (k := 4) rfl (n_dec1 (by omega)) (by decide) rfl (fun ls hl => ?_)
                      refine lv_goto (tgt := 238) hC.1 hC.2.1 dX8_goesBack_180 (by decide) ?_
                      refine lv_goto (tgt := 27) hC.1 hC.2.1 dX8_goesBack_238 (by decide) ?_
                      refine ih27 (i - 1) (ee - 1) (qa) (qb) (qc + 1) ?_ ?_ ?_ ?_ _ _ ls hX (lv_sub hl [0, 1, 5, 6, 7, 8] rfl)
                      · omega
                      · omega
                      · have t9 := (of_decide_eq_true c132)
                        have u9 : ¬ aTt (m_all S) p0 (i - 1) (f0 + (ee - 1)) = true := fun z => of_decide_eq_false c137 ⟨t9, by rwa [show f0 + ee - 1 = f0 + (ee - 1) by omega]⟩
                        have x9 : ex9 (aTt (m_all S) p0) (i - 1) (f0 + (ee - 1)) = 1 := if_neg u9
                        have y9 : ey9 (aTt (m_all S) p0) (i - 1) (f0 + (ee - 1)) = 2097153 := if_neg u9
                        have k9 := back_diag (tk := aTt (m_all S) p0) (fr := f0) (e := ee - 1) (i := i - 1) (by omega) (by omega) (by rw [Nat.sub_add_cancel t9.2, Nat.sub_add_cancel t9.1, x9]; omega)
                        rw [Nat.sub_add_cancel t9.2, Nat.sub_add_cancel t9.1, y9] at k9
                        unfold wsum at hw ⊢
                        omega
                      · omega
              · skip
                have t96 := (of_decide_eq_true c96).1
                refine lv_aload_n hC.1 hC.2.1 dX8_goesBack_99 rfl (lv_at hl 5 rfl) ?_
                refine g_m_part hC fi_X8_goesBack_X8 hK hX (wd9 hC 4 rfl) dX8_goesBack_100 ?_
                refine lv_iload hC.1 hC.2.1 dX8_goesBack_103 (lv_at hl 2 rfl) ?_
                refine l_m_part hC hK hX (i := (121 * i) + (ee)) (by omega) dX8_goesBack_105 (v := dw (aTt (m_all S) p0) f0 (ee) (i)) hP ?_
                refine lv_aload_n hC.1 hC.2.1 dX8_goesBack_106 rfl (lv_at hl 5 rfl) ?_
                refine g_m_part hC fi_X8_goesBack_X8 hK hX (wd9 hC 4 rfl) dX8_goesBack_107 ?_
                refine lv_iload hC.1 hC.2.1 dX8_goesBack_110 (lv_at hl 2 rfl) ?_
                refine lv_bipush (v := nI (121)) hC.1 hC.2.1 dX8_goesBack_112 (by decide +kernel) ?_
                refine n_sub hC (a := (121 * i) + (ee)) (b := 121) dX8_goesBack_114 (by omega) ?_
                refine lv_iconst (v := nI (1)) hC.1 hC.2.1 dX8_goesBack_115 rfl ?_
                refine n_sub hC (a := ((121 * i) + (ee)) - (121)) (b := 1) dX8_goesBack_116 (by omega) ?_
                refine l_m_part hC hK hX (i := (((121 * i) + (ee)) - (121)) - (1)) (by omega) dX8_goesBack_117 (v := dw (aTt (m_all S) p0) f0 (ee - 1) (i - 1)) (hD (by omega) (by omega)) ?_
                refine n_icmp_ne hC (a := dw (aTt (m_all S) p0) f0 (ee) (i)) (b := dw (aTt (m_all S) p0) f0 (ee - 1) (i - 1)) (tgt := 130) dX8_goesBack_118 (by decide) (by omega) (by omega) (fun c118 => ?_) (fun c118 => ?_)
                · skip
                  refine lv_iload hC.1 hC.2.1 dX8_goesBack_130 (lv_at hl 1 rfl) ?_
                  refine b_if_eq hC (b := decide (0 < i ∧ 0 < ee)) (tgt := 183) dX8_goesBack_132 (by decide) (fun c132 => ?_) (fun c132 => ?_)
                  · skip
                    refine lv_iload hC.1 hC.2.1 dX8_goesBack_183 (lv_at hl 3 rfl) ?_
                    refine n_if_le hC (a := ee) (tgt := 225) dX8_goesBack_185 (by decide) (by omega) (fun c185 => ?_) (fun c185 => ?_)
                    · skip
                      have hi9 : 0 < i := by
                        refine Nat.pos_of_ne_zero (fun z => ?_)
                        have he9 : 0 < ee := by omega
                        have k9 := dw_pos (tk := aTt (m_all S) p0) (fr := f0) (e := ee - 1) (by omega)
                        rw [Nat.sub_add_cancel (show 1 ≤ ee by omega)] at k9
                        first | (exfalso; omega) | (rw [z] at c206; omega)
                      refine lv_aload_n hC.1 hC.2.1 dX8_goesBack_225 rfl (lv_at hl 5 rfl) ?_
                      refine lv_dup hC.1 hC.2.1 dX8_goesBack_226 rfl ?_
                      refine g_m_leftOut hC fi_X8_goesBack_X8 hK hX (wd9 hC 2 rfl) dX8_goesBack_227 (v := qb) rfl ?_
                      refine lv_iconst (v := nI (1)) hC.1 hC.2.1 dX8_goesBack_230 rfl ?_
                      refine n_add hC (a := qb) (b := 1) dX8_goesBack_231 ?_
                      refine p_m_leftOut hC fi_X8_goesBack_X8 hK hX (v := qb + 1) (wd9 hC 2 rfl) dX8_goesBack_232 (fun H locs hX => ?_)
                      replace hX : HH G A s.heap (wM G am (w_exchanged (w_leftOut (w_putIn (S) (qa)) (qb + 1)) (qc))) H locs := hX
                      refine lv_iinc (v := nI (i - 1)) (lv' := [(4, .int (nI (i - 1))), (8, .int (bI (decide ((0 < i ∧ 0 < ee) ∧ aTt (m_all S) p0 (i - 1) (f0 + ee - 1) = true)))), (7, .int (bI (decide (0 < i ∧ 0 < ee)))), (6, .int (nI ((121 * i) + (ee)))), (5, .int (nI (ee))), (0, .ref (am 0)), (1, .int (nI (p0))), (2, .int (nI (f0))), (3, .int (nI (t0)))]) hC.1 hC.2.1 dX8_goesBack_235 hl (k := 4) rfl (n_dec1 (by omega)) (by decide) rfl (fun ls hl => ?_)
                      refine lv_goto (tgt := 27) hC.1 hC.2.1 dX8_goesBack_238 (by decide) ?_
                      refine ih27 (i - 1) (ee) (qa) (qb + 1) (qc) ?_ ?_ ?_ ?_ _ _ ls hX (lv_sub hl [4, 0, 5, 6, 7, 8] rfl)
                      · omega
                      · omega
                      · have hd9 : 0 < i → 0 < ee → dw (aTt (m_all S) p0) f0 (ee) (i) ≠ dw (aTt (m_all S) p0) f0 (ee - 1) (i - 1) + ex9 (aTt (m_all S) p0) (i - 1) (f0 + (ee - 1)) := fun h1 h2 => by
                          rw [show f0 + (ee - 1) = f0 + ee - 1 by omega]
                          unfold ex9
                          by_cases hb9 : aTt (m_all S) p0 (i - 1) (f0 + ee - 1) = true
                          · rw [if_pos hb9]
                            first | (have c9 := c118; omega) | exact absurd ⟨⟨h1, h2⟩, hb9⟩ (of_decide_eq_false c96)
                          · rw [if_neg hb9]
                            first | (have c9 := c161; omega) | exact absurd ⟨h1, h2⟩ (of_decide_eq_false c132) | exact absurd (of_decide_eq_true c137).2 hb9
                        have k9 := back_left (tk := aTt (m_all S) p0) (fr := f0) (e := ee) (i := i - 1) (by omega) (by omega) (fun h => by rw [Nat.sub_add_cancel (show 1 ≤ i by omega)]; exact hd9 hi9 h) (fun h => by rw [Nat.sub_add_cancel (show 1 ≤ i by omega)]; first | (have c9 := c206; omega) | omega)
                        rw [Nat.sub_add_cancel (show 1 ≤ i by omega)] at k9
                        unfold wsum at hw ⊢
                        omega
                      · omega
                    · skip
                      refine lv_aload_n hC.1 hC.2.1 dX8_goesBack_188 rfl (lv_at hl 5 rfl) ?_
                      refine g_m_part hC fi_X8_goesBack_X8 hK hX (wd9 hC 4 rfl) dX8_goesBack_189 ?_
                      refine lv_iload hC.1 hC.2.1 dX8_goesBack_192 (lv_at hl 2 rfl) ?_
                      refine l_m_part hC hK hX (i := (121 * i) + (ee)) (by omega) dX8_goesBack_194 (v := dw (aTt (m_all S) p0) f0 (ee) (i)) hP ?_
                      refine lv_aload_n hC.1 hC.2.1 dX8_goesBack_195 rfl (lv_at hl 5 rfl) ?_
                      refine g_m_part hC fi_X8_goesBack_X8 hK hX (wd9 hC 4 rfl) dX8_goesBack_196 ?_
                      refine lv_iload hC.1 hC.2.1 dX8_goesBack_199 (lv_at hl 2 rfl) ?_
                      refine lv_iconst (v := nI (1)) hC.1 hC.2.1 dX8_goesBack_201 rfl ?_
                      refine n_sub hC (a := (121 * i) + (ee)) (b := 1) dX8_goesBack_202 (by omega) ?_
                      refine l_m_part hC hK hX (i := ((121 * i) + (ee)) - (1)) (by omega) dX8_goesBack_203 (v := dw (aTt (m_all S) p0) f0 (ee - 1) (i)) (hL1 (by omega)) ?_
                      refine lv_iconst (v := nI (1)) hC.1 hC.2.1 dX8_goesBack_204 rfl ?_
                      refine n_add hC (a := dw (aTt (m_all S) p0) f0 (ee - 1) (i)) (b := 1) dX8_goesBack_205 ?_
                      refine n_icmp_ne hC (a := dw (aTt (m_all S) p0) f0 (ee) (i)) (b := (dw (aTt (m_all S) p0) f0 (ee - 1) (i)) + (1)) (tgt := 225) dX8_goesBack_206 (by decide) (by omega) (by omega) (fun c206 => ?_) (fun c206 => ?_)
                      · skip
                        have hi9 : 0 < i := by
                          refine Nat.pos_of_ne_zero (fun z => ?_)
                          have he9 : 0 < ee := by omega
                          have k9 := dw_pos (tk := aTt (m_all S) p0) (fr := f0) (e := ee - 1) (by omega)
                          rw [Nat.sub_add_cancel (show 1 ≤ ee by omega)] at k9
                          first | (exfalso; omega) | (rw [z] at c206; omega)
                        refine lv_aload_n hC.1 hC.2.1 dX8_goesBack_225 rfl (lv_at hl 5 rfl) ?_
                        refine lv_dup hC.1 hC.2.1 dX8_goesBack_226 rfl ?_
                        refine g_m_leftOut hC fi_X8_goesBack_X8 hK hX (wd9 hC 2 rfl) dX8_goesBack_227 (v := qb) rfl ?_
                        refine lv_iconst (v := nI (1)) hC.1 hC.2.1 dX8_goesBack_230 rfl ?_
                        refine n_add hC (a := qb) (b := 1) dX8_goesBack_231 ?_
                        refine p_m_leftOut hC fi_X8_goesBack_X8 hK hX (v := qb + 1) (wd9 hC 2 rfl) dX8_goesBack_232 (fun H locs hX => ?_)
                        replace hX : HH G A s.heap (wM G am (w_exchanged (w_leftOut (w_putIn (S) (qa)) (qb + 1)) (qc))) H locs := hX
                        refine lv_iinc (v := nI (i - 1)) (lv' := [(4, .int (nI (i - 1))), (8, .int (bI (decide ((0 < i ∧ 0 < ee) ∧ aTt (m_all S) p0 (i - 1) (f0 + ee - 1) = true)))), (7, .int (bI (decide (0 < i ∧ 0 < ee)))), (6, .int (nI ((121 * i) + (ee)))), (5, .int (nI (ee))), (0, .ref (am 0)), (1, .int (nI (p0))), (2, .int (nI (f0))), (3, .int (nI (t0)))]) hC.1 hC.2.1 dX8_goesBack_235 hl (k := 4) rfl (n_dec1 (by omega)) (by decide) rfl (fun ls hl => ?_)
                        refine lv_goto (tgt := 27) hC.1 hC.2.1 dX8_goesBack_238 (by decide) ?_
                        refine ih27 (i - 1) (ee) (qa) (qb + 1) (qc) ?_ ?_ ?_ ?_ _ _ ls hX (lv_sub hl [4, 0, 5, 6, 7, 8] rfl)
                        · omega
                        · omega
                        · have hd9 : 0 < i → 0 < ee → dw (aTt (m_all S) p0) f0 (ee) (i) ≠ dw (aTt (m_all S) p0) f0 (ee - 1) (i - 1) + ex9 (aTt (m_all S) p0) (i - 1) (f0 + (ee - 1)) := fun h1 h2 => by
                            rw [show f0 + (ee - 1) = f0 + ee - 1 by omega]
                            unfold ex9
                            by_cases hb9 : aTt (m_all S) p0 (i - 1) (f0 + ee - 1) = true
                            · rw [if_pos hb9]
                              first | (have c9 := c118; omega) | exact absurd ⟨⟨h1, h2⟩, hb9⟩ (of_decide_eq_false c96)
                            · rw [if_neg hb9]
                              first | (have c9 := c161; omega) | exact absurd ⟨h1, h2⟩ (of_decide_eq_false c132) | exact absurd (of_decide_eq_true c137).2 hb9
                          have k9 := back_left (tk := aTt (m_all S) p0) (fr := f0) (e := ee) (i := i - 1) (by omega) (by omega) (fun h => by rw [Nat.sub_add_cancel (show 1 ≤ i by omega)]; exact hd9 hi9 h) (fun h => by rw [Nat.sub_add_cancel (show 1 ≤ i by omega)]; first | (have c9 := c206; omega) | omega)
                          rw [Nat.sub_add_cancel (show 1 ≤ i by omega)] at k9
                          unfold wsum at hw ⊢
                          omega
                        · omega
                      · skip
                        refine lv_aload_n hC.1 hC.2.1 dX8_goesBack_209 rfl (lv_at hl 5 rfl) ?_
                        refine lv_dup hC.1 hC.2.1 dX8_goesBack_210 rfl ?_
                        refine g_m_putIn hC fi_X8_goesBack_X8 hK hX (wd9 hC 1 rfl) dX8_goesBack_211 (v := qa) rfl ?_
                        refine lv_iconst (v := nI (1)) hC.1 hC.2.1 dX8_goesBack_214 rfl ?_
                        refine n_add hC (a := qa) (b := 1) dX8_goesBack_215 ?_
                        refine p_m_putIn hC fi_X8_goesBack_X8 hK hX (v := qa + 1) (wd9 hC 1 rfl) dX8_goesBack_216 (fun H locs hX => ?_)
                        replace hX : HH G A s.heap (wM G am (w_exchanged (w_leftOut (w_putIn (S) (qa + 1)) (qb)) (qc))) H locs := hX
                        refine lv_iinc (v := nI (ee - 1)) (lv' := [(5, .int (nI (ee - 1))), (8, .int (bI (decide ((0 < i ∧ 0 < ee) ∧ aTt (m_all S) p0 (i - 1) (f0 + ee - 1) = true)))), (7, .int (bI (decide (0 < i ∧ 0 < ee)))), (6, .int (nI ((121 * i) + (ee)))), (4, .int (nI (i))), (0, .ref (am 0)), (1, .int (nI (p0))), (2, .int (nI (f0))), (3, .int (nI (t0)))]) hC.1 hC.2.1 dX8_goesBack_219 hl (k := 3) rfl (n_dec1 (by omega)) (by decide) rfl (fun ls hl => ?_)
                        refine lv_goto (tgt := 238) hC.1 hC.2.1 dX8_goesBack_222 (by decide) ?_
                        refine lv_goto (tgt := 27) hC.1 hC.2.1 dX8_goesBack_238 (by decide) ?_
                        refine ih27 (i) (ee - 1) (qa + 1) (qb) (qc) ?_ ?_ ?_ ?_ _ _ ls hX (lv_sub hl [0, 4, 5, 6, 7, 8] rfl)
                        · omega
                        · omega
                        · have hd9 : 0 < i → 0 < ee → dw (aTt (m_all S) p0) f0 (ee) (i) ≠ dw (aTt (m_all S) p0) f0 (ee - 1) (i - 1) + ex9 (aTt (m_all S) p0) (i - 1) (f0 + (ee - 1)) := fun h1 h2 => by
                            rw [show f0 + (ee - 1) = f0 + ee - 1 by omega]
                            unfold ex9
                            by_cases hb9 : aTt (m_all S) p0 (i - 1) (f0 + ee - 1) = true
                            · rw [if_pos hb9]
                              first | (have c9 := c118; omega) | exact absurd ⟨⟨h1, h2⟩, hb9⟩ (of_decide_eq_false c96)
                            · rw [if_neg hb9]
                              first | (have c9 := c161; omega) | exact absurd ⟨h1, h2⟩ (of_decide_eq_false c132) | exact absurd (of_decide_eq_true c137).2 hb9
                          have k9 := back_put (tk := aTt (m_all S) p0) (fr := f0) (e := ee - 1) (i := i) (by omega) (by omega) (fun h => by rw [Nat.sub_add_cancel (show 1 ≤ ee by omega)]; exact hd9 h (by omega)) (by rw [Nat.sub_add_cancel (show 1 ≤ ee by omega)]; omega)
                          rw [Nat.sub_add_cancel (show 1 ≤ ee by omega)] at k9
                          unfold wsum at hw ⊢
                          omega
                        · omega
                  · skip
                    have t132 := of_decide_eq_true c132
                    refine lv_iload hC.1 hC.2.1 dX8_goesBack_135 (lv_at hl 0 rfl) ?_
                    refine b_if_ne hC (b := decide ((0 < i ∧ 0 < ee) ∧ aTt (m_all S) p0 (i - 1) (f0 + ee - 1) = true)) (tgt := 183) dX8_goesBack_137 (by decide) (fun c137 => ?_) (fun c137 => ?_)
                    · skip
                      refine lv_iload hC.1 hC.2.1 dX8_goesBack_183 (lv_at hl 3 rfl) ?_
                      refine n_if_le hC (a := ee) (tgt := 225) dX8_goesBack_185 (by decide) (by omega) (fun c185 => ?_) (fun c185 => ?_)
                      · skip
                        have hi9 : 0 < i := by
                          refine Nat.pos_of_ne_zero (fun z => ?_)
                          have he9 : 0 < ee := by omega
                          have k9 := dw_pos (tk := aTt (m_all S) p0) (fr := f0) (e := ee - 1) (by omega)
                          rw [Nat.sub_add_cancel (show 1 ≤ ee by omega)] at k9
                          first | (exfalso; omega) | (rw [z] at c206; omega)
                        refine lv_aload_n hC.1 hC.2.1 dX8_goesBack_225 rfl (lv_at hl 5 rfl) ?_
                        refine lv_dup hC.1 hC.2.1 dX8_goesBack_226 rfl ?_
                        refine g_m_leftOut hC fi_X8_goesBack_X8 hK hX (wd9 hC 2 rfl) dX8_goesBack_227 (v := qb) rfl ?_
                        refine lv_iconst (v := nI (1)) hC.1 hC.2.1 dX8_goesBack_230 rfl ?_
                        refine n_add hC (a := qb) (b := 1) dX8_goesBack_231 ?_
                        refine p_m_leftOut hC fi_X8_goesBack_X8 hK hX (v := qb + 1) (wd9 hC 2 rfl) dX8_goesBack_232 (fun H locs hX => ?_)
                        replace hX : HH G A s.heap (wM G am (w_exchanged (w_leftOut (w_putIn (S) (qa)) (qb + 1)) (qc))) H locs := hX
                        refine lv_iinc (v := nI (i - 1)) (lv' := [(4, .int (nI (i - 1))), (8, .int (bI (decide ((0 < i ∧ 0 < ee) ∧ aTt (m_all S) p0 (i - 1) (f0 + ee - 1) = true)))), (7, .int (bI (decide (0 < i ∧ 0 < ee)))), (6, .int (nI ((121 * i) + (ee)))), (5, .int (nI (ee))), (0, .ref (am 0)), (1, .int (nI (p0))), (2, .int (nI (f0))), (3, .int (nI (t0)))]) hC.1 hC.2.1 dX8_goesBack_235 hl (k := 4) rfl (n_dec1 (by omega)) (by decide) rfl (fun ls hl => ?_)
                        refine lv_goto (tgt := 27) hC.1 hC.2.1 dX8_goesBack_238 (by decide) ?_
                        refine ih27 (i - 1) (ee) (qa) (qb + 1) (qc) ?_ ?_ ?_ ?_ _ _ ls hX (lv_sub hl [4, 0, 5, 6, 7, 8] rfl)
                        · omega
                        · omega
                        · have hd9 : 0 < i → 0 < ee → dw (aTt (m_all S) p0) f0 (ee) (i) ≠ dw (aTt (m_all S) p0) f0 (ee - 1) (i - 1) + ex9 (aTt (m_all S) p0) (i - 1) (f0 + (ee - 1)) := fun h1 h2 => by
                            rw [show f0 + (ee - 1) = f0 + ee - 1 by omega]
                            unfold ex9
                            by_cases hb9 : aTt (m_all S) p0 (i - 1) (f0 + ee - 1) = true
                            · rw [if_pos hb9]
                              first | (have c9 := c118; omega) | exact absurd ⟨⟨h1, h2⟩, hb9⟩ (of_decide_eq_false c96)
                            · rw [if_neg hb9]
                              first | (have c9 := c161; omega) | exact absurd ⟨h1, h2⟩ (of_decide_eq_false c132) | exact absurd (of_decide_eq_true c137).2 hb9
                          have k9 := back_left (tk := aTt (m_all S) p0) (fr := f0) (e := ee) (i := i - 1) (by omega) (by omega) (fun h => by rw [Nat.sub_add_cancel (show 1 ≤ i by omega)]; exact hd9 hi9 h) (fun h => by rw [Nat.sub_add_cancel (show 1 ≤ i by omega)]; first | (have c9 := c206; omega) | omega)
                          rw [Nat.sub_add_cancel (show 1 ≤ i by omega)] at k9
                          unfold wsum at hw ⊢
                          omega
                        · omega
                      · skip
                        refine lv_aload_n hC.1 hC.2.1 dX8_goesBack_188 rfl (lv_at hl 5 rfl) ?_
                        refine g_m_part hC fi_X8_goesBack_X8 hK hX (wd9 hC 4 rfl) dX8_goesBack_189 ?_
                        refine lv_iload hC.1 hC.2.1 dX8_goesBack_192 (lv_at hl 2 rfl) ?_
                        refine l_m_part hC hK hX (i := (121 * i) + (ee)) (by omega) dX8_goesBack_194 (v := dw (aTt (m_all S) p0) f0 (ee) (i)) hP ?_
                        refine lv_aload_n hC.1 hC.2.1 dX8_goesBack_195 rfl (lv_at hl 5 rfl) ?_
                        refine g_m_part hC fi_X8_goesBack_X8 hK hX (wd9 hC 4 rfl) dX8_goesBack_196 ?_
                        refine lv_iload hC.1 hC.2.1 dX8_goesBack_199 (lv_at hl 2 rfl) ?_
                        refine lv_iconst (v := nI (1)) hC.1 hC.2.1 dX8_goesBack_201 rfl ?_
                        refine n_sub hC (a := (121 * i) + (ee)) (b := 1) dX8_goesBack_202 (by omega) ?_
                        refine l_m_part hC hK hX (i := ((121 * i) + (ee)) - (1)) (by omega) dX8_goesBack_203 (v := dw (aTt (m_all S) p0) f0 (ee - 1) (i)) (hL1 (by omega)) ?_
                        refine lv_iconst (v := nI (1)) hC.1 hC.2.1 dX8_goesBack_204 rfl ?_
                        refine n_add hC (a := dw (aTt (m_all S) p0) f0 (ee - 1) (i)) (b := 1) dX8_goesBack_205 ?_
                        refine n_icmp_ne hC (a := dw (aTt (m_all S) p0) f0 (ee) (i)) (b := (dw (aTt (m_all S) p0) f0 (ee - 1) (i)) + (1)) (tgt := 225) dX8_goesBack_206 (by decide) (by omega) (by omega) (fun c206 => ?_) (fun c206 => ?_)
                        · skip
                          have hi9 : 0 < i := by
                            refine Nat.pos_of_ne_zero (fun z => ?_)
                            have he9 : 0 < ee := by omega
                            have k9 := dw_pos (tk := aTt (m_all S) p0) (fr := f0) (e := ee - 1) (by omega)
                            rw [Nat.sub_add_cancel (show 1 ≤ ee by omega)] at k9
                            first | (exfalso; omega) | (rw [z] at c206; omega)
                          refine lv_aload_n hC.1 hC.2.1 dX8_goesBack_225 rfl (lv_at hl 5 rfl) ?_
                          refine lv_dup hC.1 hC.2.1 dX8_goesBack_226 rfl ?_
                          refine g_m_leftOut hC fi_X8_goesBack_X8 hK hX (wd9 hC 2 rfl) dX8_goesBack_227 (v := qb) rfl ?_
                          refine lv_iconst (v := nI (1)) hC.1 hC.2.1 dX8_goesBack_230 rfl ?_
                          refine n_add hC (a := qb) (b := 1) dX8_goesBack_231 ?_
                          refine p_m_leftOut hC fi_X8_goesBack_X8 hK hX (v := qb + 1) (wd9 hC 2 rfl) dX8_goesBack_232 (fun H locs hX => ?_)
                          replace hX : HH G A s.heap (wM G am (w_exchanged (w_leftOut (w_putIn (S) (qa)) (qb + 1)) (qc))) H locs := hX
                          refine lv_iinc (v := nI (i - 1)) (lv' := [(4, .int (nI (i - 1))), (8, .int (bI (decide ((0 < i ∧ 0 < ee) ∧ aTt (m_all S) p0 (i - 1) (f0 + ee - 1) = true)))), (7, .int (bI (decide (0 < i ∧ 0 < ee)))), (6, .int (nI ((121 * i) + (ee)))), (5, .int (nI (ee))), (0, .ref (am 0)), (1, .int (nI (p0))), (2, .int (nI (f0))), (3, .int (nI (t0)))]) hC.1 hC.2.1 dX8_goesBack_235 hl (k := 4) rfl (n_dec1 (by omega)) (by decide) rfl (fun ls hl => ?_)
                          refine lv_goto (tgt := 27) hC.1 hC.2.1 dX8_goesBack_238 (by decide) ?_
                          refine ih27 (i - 1) (ee) (qa) (qb + 1) (qc) ?_ ?_ ?_ ?_ _ _ ls hX (lv_sub hl [4, 0, 5, 6, 7, 8] rfl)
                          · omega
                          · omega
                          · have hd9 : 0 < i → 0 < ee → dw (aTt (m_all S) p0) f0 (ee) (i) ≠ dw (aTt (m_all S) p0) f0 (ee - 1) (i - 1) + ex9 (aTt (m_all S) p0) (i - 1) (f0 + (ee - 1)) := fun h1 h2 => by
                              rw [show f0 + (ee - 1) = f0 + ee - 1 by omega]
                              unfold ex9
                              by_cases hb9 : aTt (m_all S) p0 (i - 1) (f0 + ee - 1) = true
                              · rw [if_pos hb9]
                                first | (have c9 := c118; omega) | exact absurd ⟨⟨h1, h2⟩, hb9⟩ (of_decide_eq_false c96)
                              · rw [if_neg hb9]
                                first | (have c9 := c161; omega) | exact absurd ⟨h1, h2⟩ (of_decide_eq_false c132) | exact absurd (of_decide_eq_true c137).2 hb9
                            have k9 := back_left (tk := aTt (m_all S) p0) (fr := f0) (e := ee) (i := i - 1) (by omega) (by omega) (fun h => by rw [Nat.sub_add_cancel (show 1 ≤ i by omega)]; exact hd9 hi9 h) (fun h => by rw [Nat.sub_add_cancel (show 1 ≤ i by omega)]; first | (have c9 := c206; omega) | omega)
                            rw [Nat.sub_add_cancel (show 1 ≤ i by omega)] at k9
                            unfold wsum at hw ⊢
                            omega
                          · omega
                        · skip
                          refine lv_aload_n hC.1 hC.2.1 dX8_goesBack_209 rfl (lv_at hl 5 rfl) ?_
                          refine lv_dup hC.1 hC.2.1 dX8_goesBack_210 rfl ?_
                          refine g_m_putIn hC fi_X8_goesBack_X8 hK hX (wd9 hC 1 rfl) dX8_goesBack_211 (v := qa) rfl ?_
                          refine lv_iconst (v := nI (1)) hC.1 hC.2.1 dX8_goesBack_214 rfl ?_
                          refine n_add hC (a := qa) (b := 1) dX8_goesBack_215 ?_
                          refine p_m_putIn hC fi_X8_goesBack_X8 hK hX (v := qa + 1) (wd9 hC 1 rfl) dX8_goesBack_216 (fun H locs hX => ?_)
                          replace hX : HH G A s.heap (wM G am (w_exchanged (w_leftOut (w_putIn (S) (qa + 1)) (qb)) (qc))) H locs := hX
                          refine lv_iinc (v := nI (ee - 1)) (lv' := [(5, .int (nI (ee - 1))), (8, .int (bI (decide ((0 < i ∧ 0 < ee) ∧ aTt (m_all S) p0 (i - 1) (f0 + ee - 1) = true)))), (7, .int (bI (decide (0 < i ∧ 0 < ee)))), (6, .int (nI ((121 * i) + (ee)))), (4, .int (nI (i))), (0, .ref (am 0)), (1, .int (nI (p0))), (2, .int (nI (f0))), (3, .int (nI (t0)))]) hC.1 hC.2.1 dX8_goesBack_219 hl (k := 3) rfl (n_dec1 (by omega)) (by decide) rfl (fun ls hl => ?_)
                          refine lv_goto (tgt := 238) hC.1 hC.2.1 dX8_goesBack_222 (by decide) ?_
                          refine lv_goto (tgt := 27) hC.1 hC.2.1 dX8_goesBack_238 (by decide) ?_
                          refine ih27 (i) (ee - 1) (qa + 1) (qb) (qc) ?_ ?_ ?_ ?_ _ _ ls hX (lv_sub hl [0, 4, 5, 6, 7, 8] rfl)
                          · omega
                          · omega
                          · have hd9 : 0 < i → 0 < ee → dw (aTt (m_all S) p0) f0 (ee) (i) ≠ dw (aTt (m_all S) p0) f0 (ee - 1) (i - 1) + ex9 (aTt (m_all S) p0) (i - 1) (f0 + (ee - 1)) := fun h1 h2 => by
                              rw [show f0 + (ee - 1) = f0 + ee - 1 by omega]
                              unfold ex9
                              by_cases hb9 : aTt (m_all S) p0 (i - 1) (f0 + ee - 1) = true
                              · rw [if_pos hb9]
                                first | (have c9 := c118; omega) | exact absurd ⟨⟨h1, h2⟩, hb9⟩ (of_decide_eq_false c96)
                              · rw [if_neg hb9]
                                first | (have c9 := c161; omega) | exact absurd ⟨h1, h2⟩ (of_decide_eq_false c132) | exact absurd (of_decide_eq_true c137).2 hb9
                            have k9 := back_put (tk := aTt (m_all S) p0) (fr := f0) (e := ee - 1) (i := i) (by omega) (by omega) (fun h => by rw [Nat.sub_add_cancel (show 1 ≤ ee by omega)]; exact hd9 h (by omega)) (by rw [Nat.sub_add_cancel (show 1 ≤ ee by omega)]; omega)
                            rw [Nat.sub_add_cancel (show 1 ≤ ee by omega)] at k9
                            unfold wsum at hw ⊢
                            omega
                          · omega
                    · skip
                      refine lv_aload_n hC.1 hC.2.1 dX8_goesBack_140 rfl (lv_at hl 5 rfl) ?_
                      refine g_m_part hC fi_X8_goesBack_X8 hK hX (wd9 hC 4 rfl) dX8_goesBack_141 ?_
                      refine lv_iload hC.1 hC.2.1 dX8_goesBack_144 (lv_at hl 2 rfl) ?_
                      refine l_m_part hC hK hX (i := (121 * i) + (ee)) (by omega) dX8_goesBack_146 (v := dw (aTt (m_all S) p0) f0 (ee) (i)) hP ?_
                      refine lv_aload_n hC.1 hC.2.1 dX8_goesBack_147 rfl (lv_at hl 5 rfl) ?_
                      refine g_m_part hC fi_X8_goesBack_X8 hK hX (wd9 hC 4 rfl) dX8_goesBack_148 ?_
                      refine lv_iload hC.1 hC.2.1 dX8_goesBack_151 (lv_at hl 2 rfl) ?_
                      refine lv_bipush (v := nI (121)) hC.1 hC.2.1 dX8_goesBack_153 (by decide +kernel) ?_
                      refine n_sub hC (a := (121 * i) + (ee)) (b := 121) dX8_goesBack_155 (by omega) ?_
                      refine lv_iconst (v := nI (1)) hC.1 hC.2.1 dX8_goesBack_156 rfl ?_
                      refine n_sub hC (a := ((121 * i) + (ee)) - (121)) (b := 1) dX8_goesBack_157 (by omega) ?_
                      refine l_m_part hC hK hX (i := (((121 * i) + (ee)) - (121)) - (1)) (by omega) dX8_goesBack_158 (v := dw (aTt (m_all S) p0) f0 (ee - 1) (i - 1)) (hD (by omega) (by omega)) ?_
                      refine lv_iconst (v := nI (1)) hC.1 hC.2.1 dX8_goesBack_159 rfl ?_
                      refine n_add hC (a := dw (aTt (m_all S) p0) f0 (ee - 1) (i - 1)) (b := 1) dX8_goesBack_160 ?_
                      refine n_icmp_ne hC (a := dw (aTt (m_all S) p0) f0 (ee) (i)) (b := (dw (aTt (m_all S) p0) f0 (ee - 1) (i - 1)) + (1)) (tgt := 183) dX8_goesBack_161 (by decide) (by omega) (by omega) (fun c161 => ?_) (fun c161 => ?_)
                      · skip
                        refine lv_iload hC.1 hC.2.1 dX8_goesBack_183 (lv_at hl 3 rfl) ?_
                        refine n_if_le hC (a := ee) (tgt := 225) dX8_goesBack_185 (by decide) (by omega) (fun c185 => ?_) (fun c185 => ?_)
                        · skip
                          have hi9 : 0 < i := by
                            refine Nat.pos_of_ne_zero (fun z => ?_)
                            have he9 : 0 < ee := by omega
                            have k9 := dw_pos (tk := aTt (m_all S) p0) (fr := f0) (e := ee - 1) (by omega)
                            rw [Nat.sub_add_cancel (show 1 ≤ ee by omega)] at k9
                            first | (exfalso; omega) | (rw [z] at c206; omega)
                          refine lv_aload_n hC.1 hC.2.1 dX8_goesBack_225 rfl (lv_at hl 5 rfl) ?_
                          refine lv_dup hC.1 hC.2.1 dX8_goesBack_226 rfl ?_
                          refine g_m_leftOut hC fi_X8_goesBack_X8 hK hX (wd9 hC 2 rfl) dX8_goesBack_227 (v := qb) rfl ?_
                          refine lv_iconst (v := nI (1)) hC.1 hC.2.1 dX8_goesBack_230 rfl ?_
                          refine n_add hC (a := qb) (b := 1) dX8_goesBack_231 ?_
                          refine p_m_leftOut hC fi_X8_goesBack_X8 hK hX (v := qb + 1) (wd9 hC 2 rfl) dX8_goesBack_232 (fun H locs hX => ?_)
                          replace hX : HH G A s.heap (wM G am (w_exchanged (w_leftOut (w_putIn (S) (qa)) (qb + 1)) (qc))) H locs := hX
                          refine lv_iinc (v := nI (i - 1)) (lv' := [(4, .int (nI (i - 1))), (8, .int (bI (decide ((0 < i ∧ 0 < ee) ∧ aTt (m_all S) p0 (i - 1) (f0 + ee - 1) = true)))), (7, .int (bI (decide (0 < i ∧ 0 < ee)))), (6, .int (nI ((121 * i) + (ee)))), (5, .int (nI (ee))), (0, .ref (am 0)), (1, .int (nI (p0))), (2, .int (nI (f0))), (3, .int (nI (t0)))]) hC.1 hC.2.1 dX8_goesBack_235 hl (k := 4) rfl (n_dec1 (by omega)) (by decide) rfl (fun ls hl => ?_)
                          refine lv_goto (tgt := 27) hC.1 hC.2.1 dX8_goesBack_238 (by decide) ?_
                          refine ih27 (i - 1) (ee) (qa) (qb + 1) (qc) ?_ ?_ ?_ ?_ _ _ ls hX (lv_sub hl [4, 0, 5, 6, 7, 8] rfl)
                          · omega
                          · omega
                          · have hd9 : 0 < i → 0 < ee → dw (aTt (m_all S) p0) f0 (ee) (i) ≠ dw (aTt (m_all S) p0) f0 (ee - 1) (i - 1) + ex9 (aTt (m_all S) p0) (i - 1) (f0 + (ee - 1)) := fun h1 h2 => by
                              rw [show f0 + (ee - 1) = f0 + ee - 1 by omega]
                              unfold ex9
                              by_cases hb9 : aTt (m_all S) p0 (i - 1) (f0 + ee - 1) = true
                              · rw [if_pos hb9]
                                first | (have c9 := c118; omega) | exact absurd ⟨⟨h1, h2⟩, hb9⟩ (of_decide_eq_false c96)
                              · rw [if_neg hb9]
                                first | (have c9 := c161; omega) | exact absurd ⟨h1, h2⟩ (of_decide_eq_false c132) | exact absurd (of_decide_eq_true c137).2 hb9
                            have k9 := back_left (tk := aTt (m_all S) p0) (fr := f0) (e := ee) (i := i - 1) (by omega) (by omega) (fun h => by rw [Nat.sub_add_cancel (show 1 ≤ i by omega)]; exact hd9 hi9 h) (fun h => by rw [Nat.sub_add_cancel (show 1 ≤ i by omega)]; first | (have c9 := c206; omega) | omega)
                            rw [Nat.sub_add_cancel (show 1 ≤ i by omega)] at k9
                            unfold wsum at hw ⊢
                            omega
                          · omega
                        · skip
                          refine lv_aload_n hC.1 hC.2.1 dX8_goesBack_188 rfl (lv_at hl 5 rfl) ?_
                          refine g_m_part hC fi_X8_goesBack_X8 hK hX (wd9 hC 4 rfl) dX8_goesBack_189 ?_
                          refine lv_iload hC.1 hC.2.1 dX8_goesBack_192 (lv_at hl 2 rfl) ?_
                          refine l_m_part hC hK hX (i := (121 * i) + (ee)) (by omega) dX8_goesBack_194 (v := dw (aTt (m_all S) p0) f0 (ee) (i)) hP ?_
                          refine lv_aload_n hC.1 hC.2.1 dX8_goesBack_195 rfl (lv_at hl 5 rfl) ?_
                          refine g_m_part hC fi_X8_goesBack_X8 hK hX (wd9 hC 4 rfl) dX8_goesBack_196 ?_
                          refine lv_iload hC.1 hC.2.1 dX8_goesBack_199 (lv_at hl 2 rfl) ?_
                          refine lv_iconst (v := nI (1)) hC.1 hC.2.1 dX8_goesBack_201 rfl ?_
                          refine n_sub hC (a := (121 * i) + (ee)) (b := 1) dX8_goesBack_202 (by omega) ?_
                          refine l_m_part hC hK hX (i := ((121 * i) + (ee)) - (1)) (by omega) dX8_goesBack_203 (v := dw (aTt (m_all S) p0) f0 (ee - 1) (i)) (hL1 (by omega)) ?_
                          refine lv_iconst (v := nI (1)) hC.1 hC.2.1 dX8_goesBack_204 rfl ?_
                          refine n_add hC (a := dw (aTt (m_all S) p0) f0 (ee - 1) (i)) (b := 1) dX8_goesBack_205 ?_
                          refine n_icmp_ne hC (a := dw (aTt (m_all S) p0) f0 (ee) (i)) (b := (dw (aTt (m_all S) p0) f0 (ee - 1) (i)) + (1)) (tgt := 225) dX8_goesBack_206 (by decide) (by omega) (by omega) (fun c206 => ?_) (fun c206 => ?_)
                          · skip
                            have hi9 : 0 < i := by
                              refine Nat.pos_of_ne_zero (fun z => ?_)
                              have he9 : 0 < ee := by omega
                              have k9 := dw_pos (tk := aTt (m_all S) p0) (fr := f0) (e := ee - 1) (by omega)
                              rw [Nat.sub_add_cancel (show 1 ≤ ee by omega)] at k9
                              first | (exfalso; omega) | (rw [z] at c206; omega)
                            refine lv_aload_n hC.1 hC.2.1 dX8_goesBack_225 rfl (lv_at hl 5 rfl) ?_
                            refine lv_dup hC.1 hC.2.1 dX8_goesBack_226 rfl ?_
                            refine g_m_leftOut hC fi_X8_goesBack_X8 hK hX (wd9 hC 2 rfl) dX8_goesBack_227 (v := qb) rfl ?_
                            refine lv_iconst (v := nI (1)) hC.1 hC.2.1 dX8_goesBack_230 rfl ?_
                            refine n_add hC (a := qb) (b := 1) dX8_goesBack_231 ?_
                            refine p_m_leftOut hC fi_X8_goesBack_X8 hK hX (v := qb + 1) (wd9 hC 2 rfl) dX8_goesBack_232 (fun H locs hX => ?_)
                            replace hX : HH G A s.heap (wM G am (w_exchanged (w_leftOut (w_putIn (S) (qa)) (qb + 1)) (qc))) H locs := hX
                            refine lv_iinc (v := nI (i - 1)) (lv' := [(4, .int (nI (i - 1))), (8, .int (bI (decide ((0 < i ∧ 0 < ee) ∧ aTt (m_all S) p0 (i - 1) (f0 + ee - 1) = true)))), (7, .int (bI (decide (0 < i ∧ 0 < ee)))), (6, .int (nI ((121 * i) + (ee)))), (5, .int (nI (ee))), (0, .ref (am 0)), (1, .int (nI (p0))), (2, .int (nI (f0))), (3, .int (nI (t0)))]) hC.1 hC.2.1 dX8_goesBack_235 hl (k := 4) rfl (n_dec1 (by omega)) (by decide) rfl (fun ls hl => ?_)
                            refine lv_goto (tgt := 27) hC.1 hC.2.1 dX8_goesBack_238 (by decide) ?_
                            refine ih27 (i - 1) (ee) (qa) (qb + 1) (qc) ?_ ?_ ?_ ?_ _ _ ls hX (lv_sub hl [4, 0, 5, 6, 7, 8] rfl)
                            · omega
                            · omega
                            · have hd9 : 0 < i → 0 < ee → dw (aTt (m_all S) p0) f0 (ee) (i) ≠ dw (aTt (m_all S) p0) f0 (ee - 1) (i - 1) + ex9 (aTt (m_all S) p0) (i - 1) (f0 + (ee - 1)) := fun h1 h2 => by
                                rw [show f0 + (ee - 1) = f0 + ee - 1 by omega]
                                unfold ex9
                                by_cases hb9 : aTt (m_all S) p0 (i - 1) (f0 + ee - 1) = true
                                · rw [if_pos hb9]
                                  first | (have c9 := c118; omega) | exact absurd ⟨⟨h1, h2⟩, hb9⟩ (of_decide_eq_false c96)
                                · rw [if_neg hb9]
                                  first | (have c9 := c161; omega) | exact absurd ⟨h1, h2⟩ (of_decide_eq_false c132) | exact absurd (of_decide_eq_true c137).2 hb9
                              have k9 := back_left (tk := aTt (m_all S) p0) (fr := f0) (e := ee) (i := i - 1) (by omega) (by omega) (fun h => by rw [Nat.sub_add_cancel (show 1 ≤ i by omega)]; exact hd9 hi9 h) (fun h => by rw [Nat.sub_add_cancel (show 1 ≤ i by omega)]; first | (have c9 := c206; omega) | omega)
                              rw [Nat.sub_add_cancel (show 1 ≤ i by omega)] at k9
                              unfold wsum at hw ⊢
                              omega
                            · omega
                          · skip
                            refine lv_aload_n hC.1 hC.2.1 dX8_goesBack_209 rfl (lv_at hl 5 rfl) ?_
                            refine lv_dup hC.1 hC.2.1 dX8_goesBack_210 rfl ?_
                            refine g_m_putIn hC fi_X8_goesBack_X8 hK hX (wd9 hC 1 rfl) dX8_goesBack_211 (v := qa) rfl ?_
                            refine lv_iconst (v := nI (1)) hC.1 hC.2.1 dX8_goesBack_214 rfl ?_
                            refine n_add hC (a := qa) (b := 1) dX8_goesBack_215 ?_
                            refine p_m_putIn hC fi_X8_goesBack_X8 hK hX (v := qa + 1) (wd9 hC 1 rfl) dX8_goesBack_216 (fun H locs hX => ?_)
                            replace hX : HH G A s.heap (wM G am (w_exchanged (w_leftOut (w_putIn (S) (qa + 1)) (qb)) (qc))) H locs := hX
                            refine lv_iinc (v := nI (ee - 1)) (lv' := [(5, .int (nI (ee - 1))), (8, .int (bI (decide ((0 < i ∧ 0 < ee) ∧ aTt (m_all S) p0 (i - 1) (f0 + ee - 1) = true)))), (7, .int (bI (decide (0 < i ∧ 0 < ee)))), (6, .int (nI ((121 * i) + (ee)))), (4, .int (nI (i))), (0, .ref (am 0)), (1, .int (nI (p0))), (2, .int (nI (f0))), (3, .int (nI (t0)))]) hC.1 hC.2.1 dX8_goesBack_219 hl (k := 3) rfl (n_dec1 (by omega)) (by decide) rfl (fun ls hl => ?_)
                            refine lv_goto (tgt := 238) hC.1 hC.2.1 dX8_goesBack_222 (by decide) ?_
                            refine lv_goto (tgt := 27) hC.1 hC.2.1 dX8_goesBack_238 (by decide) ?_
                            refine ih27 (i) (ee - 1) (qa + 1) (qb) (qc) ?_ ?_ ?_ ?_ _ _ ls hX (lv_sub hl [0, 4, 5, 6, 7, 8] rfl)
                            · omega
                            · omega
                            · have hd9 : 0 < i → 0 < ee → dw (aTt (m_all S) p0) f0 (ee) (i) ≠ dw (aTt (m_all S) p0) f0 (ee - 1) (i - 1) + ex9 (aTt (m_all S) p0) (i - 1) (f0 + (ee - 1)) := fun h1 h2 => by
                                rw [show f0 + (ee - 1) = f0 + ee - 1 by omega]
                                unfold ex9
                                by_cases hb9 : aTt (m_all S) p0 (i - 1) (f0 + ee - 1) = true
                                · rw [if_pos hb9]
                                  first | (have c9 := c118; omega) | exact absurd ⟨⟨h1, h2⟩, hb9⟩ (of_decide_eq_false c96)
                                · rw [if_neg hb9]
                                  first | (have c9 := c161; omega) | exact absurd ⟨h1, h2⟩ (of_decide_eq_false c132) | exact absurd (of_decide_eq_true c137).2 hb9
                              have k9 := back_put (tk := aTt (m_all S) p0) (fr := f0) (e := ee - 1) (i := i) (by omega) (by omega) (fun h => by rw [Nat.sub_add_cancel (show 1 ≤ ee by omega)]; exact hd9 h (by omega)) (by rw [Nat.sub_add_cancel (show 1 ≤ ee by omega)]; omega)
                              rw [Nat.sub_add_cancel (show 1 ≤ ee by omega)] at k9
                              unfold wsum at hw ⊢
                              omega
                            · omega
                      · skip
                        refine lv_aload_n hC.1 hC.2.1 dX8_goesBack_164 rfl (lv_at hl 5 rfl) ?_
                        refine lv_dup hC.1 hC.2.1 dX8_goesBack_165 rfl ?_
                        refine g_m_exchanged hC fi_X8_goesBack_X8 hK hX (wd9 hC 3 rfl) dX8_goesBack_166 (v := qc) rfl ?_
                        refine lv_iconst (v := nI (1)) hC.1 hC.2.1 dX8_goesBack_169 rfl ?_
                        refine n_add hC (a := qc) (b := 1) dX8_goesBack_170 ?_
                        refine p_m_exchanged hC fi_X8_goesBack_X8 hK hX (v := qc + 1) (wd9 hC 3 rfl) dX8_goesBack_171 (fun H locs hX => ?_)
                        replace hX : HH G A s.heap (wM G am (w_exchanged (w_leftOut (w_putIn (S) (qa)) (qb)) (qc + 1))) H locs := hX
                        refine lv_iinc (v := nI (i - 1)) (lv' := [(4, .int (nI (i - 1))), (8, .int (bI (decide ((0 < i ∧ 0 < ee) ∧ aTt (m_all S) p0 (i - 1) (f0 + ee - 1) = true)))), (7, .int (bI (decide (0 < i ∧ 0 < ee)))), (6, .int (nI ((121 * i) + (ee)))), (5, .int (nI (ee))), (0, .ref (am 0)), (1, .int (nI (p0))), (2, .int (nI (f0))), (3, .int (nI (t0)))]) hC.1 hC.2.1 dX8_goesBack_174 hl (k := 4) rfl (n_dec1 (by omega)) (by decide) rfl (fun ls hl => ?_)
                        refine lv_iinc (v := nI (ee - 1)) (lv' := [(5, .int (nI (ee - 1))), (4, .int (nI (i - 1))), (8, .int (bI (decide ((0 < i ∧ 0 < ee) ∧ aTt (m_all S) p0 (i - 1) (f0 + ee - 1) = true)))), (7, .int (bI (decide (0 < i ∧ 0 < ee)))), (6, .int (nI ((121 * i) + (ee)))), (0, .ref (am 0)), (1, .int (nI (p0))), (2, .int (nI (f0))), (3, .int (nI (t0)))]) hC.1 hC.2.1 dX8_goesBack_177 hl (k := 4) rfl (n_dec1 (by omega)) (by decide) rfl (fun ls hl => ?_)
                        refine lv_goto (tgt := 238) hC.1 hC.2.1 dX8_goesBack_180 (by decide) ?_
                        refine lv_goto (tgt := 27) hC.1 hC.2.1 dX8_goesBack_238 (by decide) ?_
                        refine ih27 (i - 1) (ee - 1) (qa) (qb) (qc + 1) ?_ ?_ ?_ ?_ _ _ ls hX (lv_sub hl [0, 1, 5, 6, 7, 8] rfl)
                        · omega
                        · omega
                        · have t9 := (of_decide_eq_true c132)
                          have u9 : ¬ aTt (m_all S) p0 (i - 1) (f0 + (ee - 1)) = true := fun z => of_decide_eq_false c137 ⟨t9, by rwa [show f0 + ee - 1 = f0 + (ee - 1) by omega]⟩
                          have x9 : ex9 (aTt (m_all S) p0) (i - 1) (f0 + (ee - 1)) = 1 := if_neg u9
                          have y9 : ey9 (aTt (m_all S) p0) (i - 1) (f0 + (ee - 1)) = 2097153 := if_neg u9
                          have k9 := back_diag (tk := aTt (m_all S) p0) (fr := f0) (e := ee - 1) (i := i - 1) (by omega) (by omega) (by rw [Nat.sub_add_cancel t9.2, Nat.sub_add_cancel t9.1, x9]; omega)
                          rw [Nat.sub_add_cancel t9.2, Nat.sub_add_cancel t9.1, y9] at k9
                          unfold wsum at hw ⊢
                          omega
                        · omega
                · skip
                  refine lv_iinc (v := nI (i - 1)) (lv' := [(4, .int (nI (i - 1))), (8, .int (bI (decide ((0 < i ∧ 0 < ee) ∧ aTt (m_all S) p0 (i - 1) (f0 + ee - 1) = true)))), (7, .int (bI (decide (0 < i ∧ 0 < ee)))), (6, .int (nI ((121 * i) + (ee)))), (5, .int (nI (ee))), (0, .ref (am 0)), (1, .int (nI (p0))), (2, .int (nI (f0))), (3, .int (nI (t0)))]) hC.1 hC.2.1 dX8_goesBack_121 hl (k := 4) rfl (n_dec1 (by omega)) (by decide) rfl (fun ls hl => ?_)
                  refine lv_iinc (v := nI (ee - 1)) (lv' := [(5, .int (nI (ee - 1))), (4, .int (nI (i - 1))), (8, .int (bI (decide ((0 < i ∧ 0 < ee) ∧ aTt (m_all S) p0 (i - 1) (f0 + ee - 1) = true)))), (7, .int (bI (decide (0 < i ∧ 0 < ee)))), (6, .int (nI ((121 * i) + (ee)))), (0, .ref (am 0)), (1, .int (nI (p0))), (2, .int (nI (f0))), (3, .int (nI (t0)))]) hC.1 hC.2.1 dX8_goesBack_124 hl (k := 4) rfl (n_dec1 (by omega)) (by decide) rfl (fun ls hl => ?_)
                  refine lv_goto (tgt := 238) hC.1 hC.2.1 dX8_goesBack_127 (by decide) ?_
                  refine lv_goto (tgt := 27) hC.1 hC.2.1 dX8_goesBack_238 (by decide) ?_
                  refine ih27 (i - 1) (ee - 1) (qa) (qb) (qc) ?_ ?_ ?_ ?_ _ _ ls hX (lv_sub hl [0, 1, 5, 6, 7, 8] rfl)
                  · omega
                  · omega
                  · have t9 := (of_decide_eq_true c96)
                    have u9 : aTt (m_all S) p0 (i - 1) (f0 + (ee - 1)) = true := by rw [show f0 + (ee - 1) = f0 + ee - 1 by omega]; exact t9.2
                    have x9 : ex9 (aTt (m_all S) p0) (i - 1) (f0 + (ee - 1)) = 0 := if_pos u9
                    have y9 : ey9 (aTt (m_all S) p0) (i - 1) (f0 + (ee - 1)) = 0 := if_pos u9
                    have k9 := back_diag (tk := aTt (m_all S) p0) (fr := f0) (e := ee - 1) (i := i - 1) (by omega) (by omega) (by rw [Nat.sub_add_cancel t9.1.2, Nat.sub_add_cancel t9.1.1, x9]; omega)
                    rw [Nat.sub_add_cancel t9.1.2, Nat.sub_add_cancel t9.1.1, y9] at k9
                    omega
                  · omega
            refine lv_iload hC.1 hC.2.1 dX8_goesBack_64 (lv_at hl 0 rfl) ?_
            refine b_if_eq hC (b := decide (0 < i ∧ 0 < ee)) (tgt := 91) dX8_goesBack_66 (by decide) (fun c66 => ?_) (fun c66 => ?_)
            · skip
              refine lv_iconst (v := nI (0)) hC.1 hC.2.1 dX8_goesBack_91 rfl ?_
              refine n_top (y := bI (decide ((0 < i ∧ 0 < ee) ∧ aTt (m_all S) p0 (i - 1) (f0 + ee - 1) = true))) (by first | exact bI_t ⟨of_decide_eq_true c66, c84⟩ | exact bI_f (fun z => by have z2 := z.2; rw [c84] at z2; exact absurd z2 (by decide)) | exact bI_f (fun z => of_decide_eq_false c66 z.1)) ?_
              refine join92  _ _ ls  hX (lv_sub hl [0, 1, 2, 3, 4, 5, 6, 7] rfl)
            · skip
              have t66 := of_decide_eq_true c66
              refine lv_aload_n hC.1 hC.2.1 dX8_goesBack_69 rfl (lv_at hl 4 rfl) ?_
              refine lv_iload_n hC.1 hC.2.1 dX8_goesBack_70 rfl (lv_at hl 5 rfl) ?_
              refine lv_iload hC.1 hC.2.1 dX8_goesBack_71 (lv_at hl 3 rfl) ?_
              refine lv_iconst (v := nI (1)) hC.1 hC.2.1 dX8_goesBack_73 rfl ?_
              refine n_sub hC (a := i) (b := 1) dX8_goesBack_74 (by omega) ?_
              refine lv_iload_n hC.1 hC.2.1 dX8_goesBack_75 rfl (lv_at hl 6 rfl) ?_
              refine lv_iload hC.1 hC.2.1 dX8_goesBack_76 (lv_at hl 2 rfl) ?_
              refine n_add hC (a := f0) (b := ee) dX8_goesBack_78 ?_
              refine lv_iconst (v := nI (1)) hC.1 hC.2.1 dX8_goesBack_79 rfl ?_
              refine n_sub hC (a := f0 + ee) (b := 1) dX8_goesBack_80 (by omega) ?_
              refine cv_I (As := [.int (nI (p0)), .int (nI (i - 1)), .int (nI ((f0 + ee) - (1)))]) (rest := []) hC hK hA hX (c_X8_isTaken l G am (w_exchanged (w_leftOut (w_putIn (S) (qa)) (qb)) (qc)) (p0) (i - 1) ((f0 + ee) - (1)) hp0 (by omega) (by omega) (hTx _ (by omega)) (Nat.lt_trans (htk _ (by omega)) (by decide))) (cwV 3 hC.2.2.2.2 gX8_goesBack_X8_isTaken rfl rfl rfl hd_X8_isTaken ⟨Nat.le_of_ble_eq_true rfl, Nat.le_of_ble_eq_true rfl⟩) (ci := 8) (q := (RX8, TX8, 21)) rfl (q0 := 0) rfl dX8_goesBack_81 rfl hl.1 rfl (Nat.le_of_ble_eq_true rfl) ⟨(Nat.zero_le _), (Nat.zero_le _)⟩ (fun r9 S9 H locs hp9 hX => ?_)
              obtain ⟨rfl, hS9⟩ := hp9
              rw [hS9] at hX
              replace hX : HH G A s.heap (wM G am (w_exchanged (w_leftOut (w_putIn (S) (qa)) (qb)) (qc))) H locs := hX
              refine b_if_eq hC (b := aTt (m_all S) (p0) (i - 1) ((f0 + ee) - (1))) (tgt := 91) dX8_goesBack_84 (by decide) (fun c84 => ?_) (fun c84 => ?_)
              · skip
                refine lv_iconst (v := nI (0)) hC.1 hC.2.1 dX8_goesBack_91 rfl ?_
                refine n_top (y := bI (decide ((0 < i ∧ 0 < ee) ∧ aTt (m_all S) p0 (i - 1) (f0 + ee - 1) = true))) (by first | exact bI_t ⟨of_decide_eq_true c66, c84⟩ | exact bI_f (fun z => by have z2 := z.2; rw [c84] at z2; exact absurd z2 (by decide)) | exact bI_f (fun z => of_decide_eq_false c66 z.1)) ?_
                refine join92  _ _ ls  hX (lv_sub hl [0, 1, 2, 3, 4, 5, 6, 7] rfl)
              · skip
                refine lv_iconst (v := nI (1)) hC.1 hC.2.1 dX8_goesBack_87 rfl ?_
                refine lv_goto (tgt := 92) hC.1 hC.2.1 dX8_goesBack_88 (by decide) ?_
                refine n_top (y := bI (decide ((0 < i ∧ 0 < ee) ∧ aTt (m_all S) p0 (i - 1) (f0 + ee - 1) = true))) (by first | exact bI_t ⟨of_decide_eq_true c66, c84⟩ | exact bI_f (fun z => by have z2 := z.2; rw [c84] at z2; exact absurd z2 (by decide)) | exact bI_f (fun z => of_decide_eq_false c66 z.1)) ?_
                refine join92  _ _ ls  hX (lv_sub hl [0, 1, 2, 3, 4, 5, 6, 7] rfl)
          refine lv_iload hC.1 hC.2.1 dX8_goesBack_47 (lv_at hl 2 rfl) ?_
          refine n_if_le hC (a := i) (tgt := 61) dX8_goesBack_49 (by decide) (by omega) (fun c49 => ?_) (fun c49 => ?_)
          · skip
            refine lv_iconst (v := nI (0)) hC.1 hC.2.1 dX8_goesBack_61 rfl ?_
            refine n_top (y := bI (decide (0 < i ∧ 0 < ee))) (by first | exact bI_t (by omega) | exact bI_f (by omega)) ?_
            refine join62  _ _ ls  hX (lv_sub hl [0, 1, 2, 3, 4, 5, 6] rfl)
          · skip
            refine lv_iload hC.1 hC.2.1 dX8_goesBack_52 (lv_at hl 1 rfl) ?_
            refine n_if_le hC (a := ee) (tgt := 61) dX8_goesBack_54 (by decide) (by omega) (fun c54 => ?_) (fun c54 => ?_)
            · skip
              refine lv_iconst (v := nI (0)) hC.1 hC.2.1 dX8_goesBack_61 rfl ?_
              refine n_top (y := bI (decide (0 < i ∧ 0 < ee))) (by first | exact bI_t (by omega) | exact bI_f (by omega)) ?_
              refine join62  _ _ ls  hX (lv_sub hl [0, 1, 2, 3, 4, 5, 6] rfl)
            · skip
              refine lv_iconst (v := nI (1)) hC.1 hC.2.1 dX8_goesBack_57 rfl ?_
              refine lv_goto (tgt := 62) hC.1 hC.2.1 dX8_goesBack_58 (by decide) ?_
              refine n_top (y := bI (decide (0 < i ∧ 0 < ee))) (by first | exact bI_t (by omega) | exact bI_f (by omega)) ?_
              refine join62  _ _ ls  hX (lv_sub hl [0, 1, 2, 3, 4, 5, 6] rfl)
  refine loop27 _ (aPl (m_all S) p0) (t0 - f0) (0) (0) (0) ?_ ?_ ?_ (Nat.lt_succ_self _) _ _ ls hX (lv_sub hl [0, 1, 2, 3, 4, 5] rfl)
  · omega
  · omega
  · exact Nat.add_zero _
