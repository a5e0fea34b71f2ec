set_option maxHeartbeats 4000000 in
set_option maxRecDepth 100000 in
theorem c_J6_bitCount_0f7a4 (l : Launch) (G : GX) (v0 : Nat) (hv0 : v0 < 268435456) : CtI l yJ6_bitCount_0f7a4 wsJ6_bitCount_0f7a4 { frames := 0, cells := 0, slots := 0, locals := 0 } G wP (()) [.int (nI (v0))] (fun r _ => r = nI (bcN v0)) 0 0 := by
  refine CtI.of (cc := cJ6_bitCount_0f7a4) (maxL := 1) (ret := some .int) (by decide +kernel) rfl (Nat.le_of_ble_eq_true rfl) ?_
  intro p e s m args below meth c ls A hC hr hlk hin hK hA hX hl
  have hl : lv_has ls 1 [(0, .int (nI (v0)))] := hl
  have h1 := bn1_lt hv0
  have h2 := bn2_lt hv0
  have h3 := bn3_lt v0
  have h4 := bn4_lt v0
  refine lv_iload_n hC.1 hC.2.1 dJ6_bitCount_0f7a4_0 rfl (lv_at hl 0 rfl) ?_
  refine lv_iload_n hC.1 hC.2.1 dJ6_bitCount_0f7a4_1 rfl (lv_at hl 0 rfl) ?_
  refine lv_iconst (v := nI (1)) hC.1 hC.2.1 dJ6_bitCount_0f7a4_2 rfl ?_
  refine lv_iushr hC.1 hC.2.1 dJ6_bitCount_0f7a4_3 rfl ?_
  refine n_top (y := nI (v0 / 2 ^ 1)) (pk_ushrN (by omega) _ 1 (by decide +kernel)) ?_
  refine lv_ldcw (v := (1431655765 : Int32)) hC.1 hC.2.1 hC.2.2.2.1 (wd9 hC 1 rfl) dJ6_bitCount_0f7a4_4 ?_
  refine n_top (y := nI 1431655765) (by decide +kernel) ?_
  refine lv_iand hC.1 hC.2.1 dJ6_bitCount_0f7a4_7 ?_
  refine n_top (y := nI (v0 / 2 ^ 1 &&& 1431655765)) (nI_and _ _) ?_
  refine n_sub hC (a := v0) (b := v0 / 2 ^ 1 &&& 1431655765) dJ6_bitCount_0f7a4_8 (Nat.le_trans Nat.and_le_left (Nat.div_le_self _ _)) ?_
  refine n_top (y := nI (bn1 v0)) rfl ?_
  refine lv_istore_n (lv' := [(0, .int (nI (bn1 v0)))]) hC.1 hC.2.1 dJ6_bitCount_0f7a4_9 rfl hl (by decide) rfl (fun ls hl => ?_)
  refine lv_iload_n hC.1 hC.2.1 dJ6_bitCount_0f7a4_10 rfl (lv_at hl 0 rfl) ?_
  refine lv_ldcw (v := (858993459 : Int32)) hC.1 hC.2.1 hC.2.2.2.1 (wd9 hC 2 rfl) dJ6_bitCount_0f7a4_11 ?_
  refine n_top (y := nI 858993459) (by decide +kernel) ?_
  refine lv_iand hC.1 hC.2.1 dJ6_bitCount_0f7a4_14 ?_
  refine n_top (y := nI (bn1 v0 &&& 858993459)) (nI_and _ _) ?_
  refine lv_iload_n hC.1 hC.2.1 dJ6_bitCount_0f7a4_15 rfl (lv_at hl 0 rfl) ?_
  refine lv_iconst (v := nI (2)) hC.1 hC.2.1 dJ6_bitCount_0f7a4_16 rfl ?_
  refine lv_iushr hC.1 hC.2.1 dJ6_bitCount_0f7a4_17 rfl ?_
  refine n_top (y := nI (bn1 v0 / 2 ^ 2)) (pk_ushrN (by omega) _ 2 (by decide +kernel)) ?_
  refine lv_ldcw (v := (858993459 : Int32)) hC.1 hC.2.1 hC.2.2.2.1 (wd9 hC 2 rfl) dJ6_bitCount_0f7a4_18 ?_
  refine n_top (y := nI 858993459) (by decide +kernel) ?_
  refine lv_iand hC.1 hC.2.1 dJ6_bitCount_0f7a4_21 ?_
  refine n_top (y := nI (bn1 v0 / 2 ^ 2 &&& 858993459)) (nI_and _ _) ?_
  refine n_add hC (a := bn1 v0 &&& 858993459) (b := bn1 v0 / 2 ^ 2 &&& 858993459) dJ6_bitCount_0f7a4_22 ?_
  refine n_top (y := nI (bn2 v0)) rfl ?_
  refine lv_istore_n (lv' := [(0, .int (nI (bn2 v0)))]) hC.1 hC.2.1 dJ6_bitCount_0f7a4_23 rfl hl (by decide) rfl (fun ls hl => ?_)
  refine lv_iload_n hC.1 hC.2.1 dJ6_bitCount_0f7a4_24 rfl (lv_at hl 0 rfl) ?_
  refine lv_iload_n hC.1 hC.2.1 dJ6_bitCount_0f7a4_25 rfl (lv_at hl 0 rfl) ?_
  refine lv_iconst (v := nI (4)) hC.1 hC.2.1 dJ6_bitCount_0f7a4_26 rfl ?_
  refine lv_iushr hC.1 hC.2.1 dJ6_bitCount_0f7a4_27 rfl ?_
  refine n_top (y := nI (bn2 v0 / 2 ^ 4)) (pk_ushrN (by omega) _ 4 (by decide +kernel)) ?_
  refine n_add hC (a := bn2 v0) (b := bn2 v0 / 2 ^ 4) dJ6_bitCount_0f7a4_28 ?_
  refine lv_ldcw (v := (252645135 : Int32)) hC.1 hC.2.1 hC.2.2.2.1 (wd9 hC 3 rfl) dJ6_bitCount_0f7a4_29 ?_
  refine n_top (y := nI 252645135) (by decide +kernel) ?_
  refine lv_iand hC.1 hC.2.1 dJ6_bitCount_0f7a4_32 ?_
  refine n_top (y := nI (bn3 v0)) (nI_and _ _) ?_
  refine lv_istore_n (lv' := [(0, .int (nI (bn3 v0)))]) hC.1 hC.2.1 dJ6_bitCount_0f7a4_33 rfl hl (by decide) rfl (fun ls hl => ?_)
  refine lv_iload_n hC.1 hC.2.1 dJ6_bitCount_0f7a4_34 rfl (lv_at hl 0 rfl) ?_
  refine lv_iload_n hC.1 hC.2.1 dJ6_bitCount_0f7a4_35 rfl (lv_at hl 0 rfl) ?_
  refine lv_bipush (v := nI (8)) hC.1 hC.2.1 dJ6_bitCount_0f7a4_36 (by decide +kernel) ?_
  refine lv_iushr hC.1 hC.2.1 dJ6_bitCount_0f7a4_38 rfl ?_
  refine n_top (y := nI (bn3 v0 / 2 ^ 8)) (pk_ushrN (by omega) _ 8 (by decide +kernel)) ?_
  refine n_add hC (a := bn3 v0) (b := bn3 v0 / 2 ^ 8) dJ6_bitCount_0f7a4_39 ?_
  refine n_top (y := nI (bn4 v0)) rfl ?_
  refine lv_istore_n (lv' := [(0, .int (nI (bn4 v0)))]) hC.1 hC.2.1 dJ6_bitCount_0f7a4_40 rfl hl (by decide) rfl (fun ls hl => ?_)
  refine lv_iload_n hC.1 hC.2.1 dJ6_bitCount_0f7a4_41 rfl (lv_at hl 0 rfl) ?_
  refine lv_iload_n hC.1 hC.2.1 dJ6_bitCount_0f7a4_42 rfl (lv_at hl 0 rfl) ?_
  refine lv_bipush (v := nI (16)) hC.1 hC.2.1 dJ6_bitCount_0f7a4_43 (by decide +kernel) ?_
  refine lv_iushr hC.1 hC.2.1 dJ6_bitCount_0f7a4_45 rfl ?_
  refine n_top (y := nI (bn4 v0 / 2 ^ 16)) (pk_ushrN (by omega) _ 16 (by decide +kernel)) ?_
  refine n_add hC (a := bn4 v0) (b := bn4 v0 / 2 ^ 16) dJ6_bitCount_0f7a4_46 ?_
  refine n_top (y := nI (bn5 v0)) rfl ?_
  refine lv_istore_n (lv' := [(0, .int (nI (bn5 v0)))]) hC.1 hC.2.1 dJ6_bitCount_0f7a4_47 rfl hl (by decide) rfl (fun ls hl => ?_)
  refine lv_iload_n hC.1 hC.2.1 dJ6_bitCount_0f7a4_48 rfl (lv_at hl 0 rfl) ?_
  refine lv_bipush (v := nI (63)) hC.1 hC.2.1 dJ6_bitCount_0f7a4_49 (by decide +kernel) ?_
  refine lv_iand hC.1 hC.2.1 dJ6_bitCount_0f7a4_51 ?_
  refine n_top (y := nI (bcN v0)) (nI_and _ _) ?_
  refine r_ireturn hC hr hlk hX dJ6_bitCount_0f7a4_52 ?_
  exact rfl
theorem fi_X2_isPlain_X2 : ∀ w ∈ wsX20, w ∈ wsX2_isPlain := by decide +kernel
theorem hd_J6_bitCount_0f7a4_s : yJ6_bitCount_0f7a4.cls ≠ "java/lang/invoke/MethodHandle" ∧ yJ6_bitCount_0f7a4.cls ≠ "java/lang/invoke/VarHandle" ∧ (parseMethodDescriptor yJ6_bitCount_0f7a4.desc).map (fun d => d.parameters.length) = some 1 := by decide +kernel
set_option maxHeartbeats 4000000 in
set_option maxRecDepth 100000 in
theorem c_X2_isPlain (l : Launch) (G : GX) (ad : Nat → Nat) (S : XS) (q0 : PatD) (jq0 : Nat) (hq_q0 : (x_pool S)[jq0]? = some q0) (hm0 : pd_cnt q0 ≤ 60) (hb0 : ∀ i, i < pd_cnt q0 → pd_plf q0 i < 134217728) : CtI l yX2_isPlain wsX2_isPlain { frames := 1, cells := 0, slots := 0, locals := 21 } G (wX G ad) (S) [.ref (pd_a q0)] (fun r S' => r = bI (plainQ (pd_plf q0) (pd_cnt q0)) ∧ S' = S) 0 0 := by
  refine CtI.of (cc := cX2_isPlain) (maxL := 2) (ret := some .boolean) (by decide +kernel) rfl (Nat.le_of_ble_eq_true rfl) ?_
  intro p e s m args below meth c ls A hC hr hlk hin hK hA hX hl
  have hl : lv_has ls 2 [(0, .ref (pd_a q0))] := hl
  refine lv_iconst (v := nI (0)) hC.1 hC.2.1 dX2_isPlain_0 rfl ?_
  refine lv_istore_n (lv' := [(1, .int (nI (0))), (0, .ref (pd_a q0))]) hC.1 hC.2.1 dX2_isPlain_1 rfl hl (by decide) rfl (fun ls hl => ?_)
  have loop2 : ∀ (n9 : Nat) (i : Nat), (i ≤ pd_cnt q0) → (plainQ (pd_plf q0) i = true) → pd_cnt q0 - i < n9 → ∀ (H : Heap) (locs : List Loc) (ls : Array Slot), HH G A s.heap (wX G ad (S)) H locs → lv_has ls 2 [(1, .int (nI (i))), (0, .ref (pd_a q0))] → W p l e { frames := 1, cells := 0, slots := 0, locals := 21 } s m args below meth c H locs 0 0 (EndI G (wX G ad) A (fun r S' => r = bI (plainQ (pd_plf q0) (pd_cnt q0)) ∧ S' = S) below args s 0 0) (F0 m 2 ls []) := by
    intro n9
    induction n9 with
    | zero => intro i hi hpl hn9; exact absurd hn9 (Nat.not_lt_zero _)
    | succ n9 ih2 =>
      intro i hi hpl hn9 H locs ls hX hl
      refine lv_iload_n hC.1 hC.2.1 dX2_isPlain_2 rfl (lv_at hl 0 rfl) ?_
      refine lv_aload_n hC.1 hC.2.1 dX2_isPlain_3 rfl (lv_at hl 1 rfl) ?_
      refine g_pat_placeCount hC fi_X2_isPlain_X2 hK hX hq_q0 (wd9 hC 1 rfl) dX2_isPlain_4 (v := pd_cnt q0) rfl ?_
      refine n_icmp_ge hC (a := i) (b := pd_cnt q0) (tgt := 30) dX2_isPlain_7 (by decide) (by omega) (by omega) (fun c7 => ?_) (fun c7 => ?_)
      · skip
        refine lv_iconst (v := nI (1)) hC.1 hC.2.1 dX2_isPlain_30 rfl ?_
        refine r_zreturn hC hr hlk hX dX2_isPlain_31 rfl ?_
        obtain rfl : i = pd_cnt q0 := by omega
        exact ⟨bI_1 hpl, rfl⟩
      · skip
        refine lv_aload_n hC.1 hC.2.1 dX2_isPlain_10 rfl (lv_at hl 1 rfl) ?_
        refine lv_iload_n hC.1 hC.2.1 dX2_isPlain_11 rfl (lv_at hl 0 rfl) ?_
        refine cv_I (As := [.int (nI (i))]) (rest := []) hC hK hA hX (c_X2_signsOf l G ad (S) q0 _ hq_q0 (i) (by omega)) (cwV 1 hC.2.2.2.2 gX2_isPlain_X2_signsOf rfl rfl rfl hd_X2_signsOf ⟨Nat.le_of_ble_eq_true rfl, Nat.le_of_ble_eq_true rfl⟩) (ci := 2) (q := (RX2, TX2, 4)) rfl (wX_pa hq_q0) dX2_isPlain_12 rfl hl.1 rfl (Nat.le_of_ble_eq_true rfl) ⟨(Nat.zero_le _), (Nat.zero_le _)⟩ (fun r9 S9 H locs hp9 hX => ?_)
        obtain ⟨rfl, hS9⟩ := hp9
        rw [hS9] at hX
        replace hX : HH G A s.heap (wX G ad (S)) H locs := hX
        refine ps_I (As := [.int (nI (pd_plf q0 i))]) (rest := []) hC hK hA hX (c_J6_bitCount_0f7a4 l G (pd_plf q0 i) (Nat.lt_trans (hb0 i (by omega)) (by decide))) (va_cwS 1 hC.2.2.2.2 gX2_isPlain_J6_bitCount_0f7a4 rfl rfl rfl hd_J6_bitCount_0f7a4_s ⟨Nat.le_of_ble_eq_true rfl, Nat.le_of_ble_eq_true rfl⟩) dX2_isPlain_15 rfl hl.1 rfl (Nat.le_of_ble_eq_true rfl) ⟨(Nat.zero_le _), (Nat.zero_le _)⟩ (fun r9 S9 H locs hp9 hX => ?_)
        obtain rfl := hp9
        replace hX : HH G A s.heap (wX G ad (S)) H locs := hX
        refine lv_iconst (v := nI (1)) hC.1 hC.2.1 dX2_isPlain_18 rfl ?_
        refine n_icmp_eq hC (a := bcN (pd_plf q0 i)) (b := 1) (tgt := 24) dX2_isPlain_19 (by decide) (Nat.lt_of_le_of_lt Nat.and_le_right (by decide)) (by decide) (fun c19 => ?_) (fun c19 => ?_)
        · skip
          refine lv_iinc (v := nI (i + 1)) (lv' := [(1, .int (nI (i + 1))), (0, .ref (pd_a q0))]) hC.1 hC.2.1 dX2_isPlain_24 hl (k := 0) rfl (n_inc1 _) (by decide) rfl (fun ls hl => ?_)
          refine lv_goto (tgt := 2) hC.1 hC.2.1 dX2_isPlain_27 (by decide) ?_
          refine ih2 (i + 1) ?_ ?_ ?_ _ _ ls hX (lv_sub hl [0, 1] rfl)
          · omega
          · exact plainQ_s hpl (by assumption)
          · omega
        · skip
          refine lv_iconst (v := nI (0)) hC.1 hC.2.1 dX2_isPlain_22 rfl ?_
          refine r_zreturn hC hr hlk hX dX2_isPlain_23 rfl ?_
          exact ⟨bI_0 (plainQ_f (by assumption) (by omega)), rfl⟩
  refine loop2 _ (0) ?_ ?_ (Nat.lt_succ_self _) _ _ ls hX (lv_sub hl [0, 1] rfl)
  · omega
  · rfl
theorem fi_X7_pattern_X7 : ∀ w ∈ wsX70, w ∈ wsX7_pattern := by decide +kernel
theorem fi_X7_pattern_X2 : ∀ w ∈ wsX20, w ∈ wsX7_pattern := by decide +kernel
theorem fi_X7_pattern_X4 : ∀ w ∈ wsX40, w ∈ wsX7_pattern := by decide +kernel
theorem hd_X4_firstWithFewest : yX4_firstWithFewest.cls = RX4 ∧ yX4_firstWithFewest.cls ≠ "java/lang/invoke/MethodHandle" ∧ yX4_firstWithFewest.cls ≠ "java/lang/invoke/VarHandle" ∧ (parseMethodDescriptor yX4_firstWithFewest.desc).map (fun d => d.parameters.length) = some 0 := by decide +kernel
theorem hd_X2_countWild : yX2_countWild.cls = RX2 ∧ yX2_countWild.cls ≠ "java/lang/invoke/MethodHandle" ∧ yX2_countWild.cls ≠ "java/lang/invoke/VarHandle" ∧ (parseMethodDescriptor yX2_countWild.desc).map (fun d => d.parameters.length) = some 0 := by decide +kernel
theorem hd_X2_isPlain : yX2_isPlain.cls = RX2 ∧ yX2_isPlain.cls ≠ "java/lang/invoke/MethodHandle" ∧ yX2_isPlain.cls ≠ "java/lang/invoke/VarHandle" ∧ (parseMethodDescriptor yX2_isPlain.desc).map (fun d => d.parameters.length) = some 0 := by decide +kernel
set_option maxHeartbeats 4000000 in
set_option maxRecDepth 100000 in
theorem c_X7_pattern (l : Launch) (G : GX) (ad : Nat → Nat) (S : XS) (hok : okX S) (p0 : Int32) (k0 : Int32) : CtI l yX7_pattern wsX7_pattern { frames := 5, cells := 0, slots := 0, locals := 134 } G (wX G ad) (S) [.ref (ad 34), .int (p0), .int (k0)] (fun r S' => (noP S p0 ∧ r = -1 ∧ S' = S) ∨ ∃ q, hasP S p0 q ∧ scrX S S' ∧ (((k0.toInt < 0 ∨ 7 < k0.toInt) ∧ r = -2) ∨ (k0 = nI 0 ∧ r = nI (pd_cnt q)) ∨ (k0 = nI 1 ∧ r = bI (pd_bnd q)) ∨ (k0 = nI 2 ∧ r = nI (nEnds S q)) ∨ (k0 = nI 3 ∧ r = nI (cS (alX q S) (st_len (x_now S) + 1))) ∨ (k0 = nI 4 ∧ ∃ ef, LR ef (selX q S) (st_len (x_now S) + 1) ∧ r = if nEnds S q = 0 then (-5) else nI (minG (gX q S ef) (nEnds S q))) ∨ (k0 = nI 5 ∧ ∃ ef, LR ef (selX q S) (st_len (x_now S) + 1) ∧ r = if nEnds S q = 0 then (-5) else nI (ef (argG (gX q S ef) (nEnds S q)))) ∨ (k0 = nI 6 ∧ r = nI (cntW (pd_plf q) (pd_cnt q))) ∨ (k0 = nI 7 ∧ r = bI (plainQ (pd_plf q) (pd_cnt q))))) 0 0 := by
  refine CtI.of (cc := cX7_pattern) (maxL := 4) (ret := some .int) (by decide +kernel) rfl (Nat.le_of_ble_eq_true rfl) ?_
  intro p e s m args below meth c ls A hC hr hlk hin hK hA hX hl
  have hl : lv_has ls 4 [(0, .ref (ad 34)), (1, .int (p0)), (2, .int (k0))] := hl
  have hokk := hok
  obtain ⟨hok1, hok2, hok3, hok4, hok5, hok6, hok7, hok8, hok9, hokA, hokB⟩ := hok
  obtain ⟨hT, hTn, hTp, hTm, hTi, hTj⟩ := hok1
  refine lv_aload_n hC.1 hC.2.1 dX7_pattern_0 rfl (lv_at hl 0 rfl) ?_
  refine g_x_now hC fi_X7_pattern_X7 hK hX (wd9 hC 1 rfl) dX7_pattern_1 ?_
  refine lv_iload_n hC.1 hC.2.1 dX7_pattern_4 rfl (lv_at hl 1 rfl) ?_
  refine cv_Q (As := [.int (p0)]) (rest := []) hC hK hA hX (c_X5_patternOrNull l G ad (S) (p0) hTp) (cwV 1 hC.2.2.2.2 gX7_pattern_X5_patternOrNull rfl rfl rfl hd_X5_patternOrNull ⟨Nat.le_of_ble_eq_true rfl, Nat.le_of_ble_eq_true rfl⟩) (ci := 5) (q := (RX5, TX5, 5)) rfl (q0 := 0) rfl dX7_pattern_5 rfl hl.1 rfl (Nat.le_of_ble_eq_true rfl) ⟨(Nat.zero_le _), (Nat.zero_le _)⟩ (fun r9 S9 H locs hp9 hX => ?_)
  obtain ⟨hr9, hS9⟩ := hp9
  rw [hS9] at hX
  replace hr9 : ((∃ j, p0 = nI j ∧ j < st_pcnt (x_now S) ∧ r9 = st_pats (x_now S) j) ∨ ((p0 < 0 ∨ nI (st_pcnt (x_now S)) ≤ p0) ∧ r9 = none)) := hr9
  replace hX : HH G A s.heap (wX G ad (S)) H locs := hX
  rcases hr9 with ⟨jp9, hjp9, hjc9, hr9⟩ | ⟨hn9, hr9⟩
  · obtain ⟨q0, jq0, hq_q0, hpa9⟩ := hTj jp9 hjc9
    obtain rfl : r9 = some (pd_a q0) := hr9.trans hpa9
    have hP0 : hasP S p0 q0 := ⟨jp9, hjp9, hjc9, hpa9, jq0, hq_q0⟩
    obtain ⟨hm1, hm0, hb0, hpt0⟩ := hokB q0 jq0 hq_q0
    refine lv_astore_n (lv' := [(3, .ref (pd_a q0)), (0, .ref (ad 34)), (1, .int (p0)), (2, .int (k0))]) hC.1 hC.2.1 dX7_pattern_8 rfl hl (by decide) rfl (fun ls hl => ?_)
    refine lv_aload_n hC.1 hC.2.1 dX7_pattern_9 rfl (lv_at hl 0 rfl) ?_
    refine lv_ifnonnull (tgt := 15) hC.1 hC.2.1 dX7_pattern_10 (by decide) ?_
    refine lv_iload_n hC.1 hC.2.1 dX7_pattern_15 rfl (lv_at hl 3 rfl) ?_
    by_cases hsw : k0.toInt < 0 ∨ 7 < k0.toInt
    · refine lv_tableOut (tgt := 180) hC.1 hC.2.1 dX7_pattern_16 hsw (by decide) ?_
      refine lv_bipush (v := (-2)) hC.1 hC.2.1 dX7_pattern_180 (by decide +kernel) ?_
      refine r_ireturn hC hr hlk hX dX7_pattern_182 ?_
      exact Or.inr ⟨q0, hP0, ⟨rfl, rfl, rfl, rfl, rfl, rfl, rfl, rfl, rfl, rfl, rfl⟩, Or.inl ⟨hsw, rfl⟩⟩
    · obtain ⟨j9, hj9, rfl⟩ := tsw_of 7 hsw ⟨rfl, by decide⟩
      obtain rfl | rfl | rfl | rfl | rfl | rfl | rfl | rfl : j9 = 0 ∨ j9 = 1 ∨ j9 = 2 ∨ j9 = 3 ∨ j9 = 4 ∨ j9 = 5 ∨ j9 = 6 ∨ j9 = 7 := by omega
      · refine lv_tableIn (tgt := 64) (off := 48) hC.1 hC.2.1 dX7_pattern_16 (by decide +kernel) (by decide +kernel) (by decide +kernel) (by decide) ?_
        refine lv_aload_n hC.1 hC.2.1 dX7_pattern_64 rfl (lv_at hl 0 rfl) ?_
        refine gN_pat_placeCount hC fi_X7_pattern_X2 hK hX hq_q0 (hnf hK 3 rfl) dX7_pattern_65 (v := pd_cnt q0) rfl ?_
        refine r_ireturn hC hr hlk hX dX7_pattern_68 ?_
        exact Or.inr ⟨q0, hP0, ⟨rfl, rfl, rfl, rfl, rfl, rfl, rfl, rfl, rfl, rfl, rfl⟩, Or.inr (Or.inl ⟨rfl, rfl⟩)⟩
      · refine lv_tableIn (tgt := 69) (off := 53) hC.1 hC.2.1 dX7_pattern_16 (by decide +kernel) (by decide +kernel) (by decide +kernel) (by decide) ?_
        refine lv_aload_n hC.1 hC.2.1 dX7_pattern_69 rfl (lv_at hl 0 rfl) ?_
        refine gN_pat_bound hC fi_X7_pattern_X2 hK hX hq_q0 (hnf hK 4 rfl) dX7_pattern_70 (v := pd_bnd q0) rfl ?_
        refine b_if_eq hC (b := pd_bnd q0) (tgt := 80) dX7_pattern_73 (by decide) (fun c73 => ?_) (fun c73 => ?_)
        · skip
          refine lv_iconst (v := nI (0)) hC.1 hC.2.1 dX7_pattern_80 rfl ?_
          refine r_ireturn hC hr hlk hX dX7_pattern_81 ?_
          exact Or.inr ⟨q0, hP0, ⟨rfl, rfl, rfl, rfl, rfl, rfl, rfl, rfl, rfl, rfl, rfl⟩, Or.inr (Or.inr (Or.inl ⟨rfl, by first | exact bI_1 (by assumption) | exact bI_0 (by assumption)⟩))⟩
        · skip
          refine lv_iconst (v := nI (1)) hC.1 hC.2.1 dX7_pattern_76 rfl ?_
          refine lv_goto (tgt := 81) hC.1 hC.2.1 dX7_pattern_77 (by decide) ?_
          refine r_ireturn hC hr hlk hX dX7_pattern_81 ?_
          exact Or.inr ⟨q0, hP0, ⟨rfl, rfl, rfl, rfl, rfl, rfl, rfl, rfl, rfl, rfl, rfl⟩, Or.inr (Or.inr (Or.inl ⟨rfl, by first | exact bI_1 (by assumption) | exact bI_0 (by assumption)⟩))⟩
      · refine lv_tableIn (tgt := 82) (off := 66) hC.1 hC.2.1 dX7_pattern_16 (by decide +kernel) (by decide +kernel) (by decide +kernel) (by decide) ?_
        refine lv_aload_n hC.1 hC.2.1 dX7_pattern_82 rfl (lv_at hl 1 rfl) ?_
        refine g_x_search hC fi_X7_pattern_X7 hK hX (wd9 hC 2 rfl) dX7_pattern_83 ?_
        refine lv_aload_n hC.1 hC.2.1 dX7_pattern_86 rfl (lv_at hl 1 rfl) ?_
        refine g_x_now hC fi_X7_pattern_X7 hK hX (wd9 hC 1 rfl) dX7_pattern_87 ?_
        refine lv_aload_n hC.1 hC.2.1 dX7_pattern_90 rfl (lv_at hl 0 rfl) ?_
        refine cv_V (As := [.ref (ad 0), .ref (pd_a q0)]) (rest := []) hC hK hA hX (c_X4_findEnds l G ad (S) q0 _ hq_q0 hm0 hTm hT hTn) (cwV 2 hC.2.2.2.2 gX7_pattern_X4_findEnds rfl rfl rfl hd_X4_findEnds ⟨Nat.le_of_ble_eq_true rfl, Nat.le_of_ble_eq_true rfl⟩) (ci := 4) (q := (RX4, TX4, 8)) rfl (q0 := 24) rfl dX7_pattern_91 rfl hl.1 rfl (Nat.le_of_ble_eq_true rfl) ⟨(Nat.zero_le _), (Nat.zero_le _)⟩ (fun S9 H locs hp9 hX => ?_)
        obtain ⟨cf91, sf91, ef91, hS9, hLR91, hsf91⟩ := hp9
        rw [hS9] at hX
        replace hsf91 : ∀ e, e ≤ st_len (x_now S) → sf91 e = slipV (dX q0 S e) (st_most (x_now S)) := hsf91
        replace hLR91 : LR ef91 (selX q0 S) (st_len (x_now S) + 1) := hLR91
        replace hX : HH G A s.heap (wX G ad (u_listed (u_ends (u_slipsAt (u_cols (S) (cf91)) (sf91)) (ef91)) (cS (selX q0 S) (st_len (x_now S) + 1)))) H locs := hX
        have hcl91 := cS_le (selX q0 S) (st_len (x_now S) + 1)
        have hsX91 := @sf_sel q0 S sf91 hsf91
        have hn9 : cS (selX q0 S) (st_len (x_now S) + 1) ≤ 121 := by omega
        have he9 : ∀ r, r < cS (selX q0 S) (st_len (x_now S) + 1) → ef91 r ≤ 120 := fun r hr => by have := (LR_at hLR91 hr).1; omega
        have hg9 : ∀ r, r < cS (selX q0 S) (st_len (x_now S) + 1) → sf91 (ef91 r) = nI (gX q0 S ef91 r) := fun r hr => ends_g hTm hLR91 hsf91 hr
        have hg19 : ∀ r, gX q0 S ef91 r ≤ 200 := fun r => Nat.le_trans (gX_4 _ _ _ _) (by decide)
        refine lv_aload_n hC.1 hC.2.1 dX7_pattern_94 rfl (lv_at hl 1 rfl) ?_
        refine g_x_search hC fi_X7_pattern_X7 hK hX (wd9 hC 2 rfl) dX7_pattern_95 ?_
        refine gN_search_listed hC fi_X7_pattern_X4 hK hX (hnf hK 7 rfl) dX7_pattern_98 (v := cS (selX q0 S) (st_len (x_now S) + 1)) rfl ?_
        refine r_ireturn hC hr hlk hX dX7_pattern_101 ?_
        exact Or.inr ⟨q0, hP0, ⟨rfl, rfl, rfl, rfl, rfl, rfl, rfl, rfl, rfl, rfl, rfl⟩, Or.inr (Or.inr (Or.inr (Or.inl ⟨rfl, rfl⟩)))⟩
      · refine lv_tableIn (tgt := 102) (off := 86) hC.1 hC.2.1 dX7_pattern_16 (by decide +kernel) (by decide +kernel) (by decide +kernel) (by decide) ?_
        refine lv_aload_n hC.1 hC.2.1 dX7_pattern_102 rfl (lv_at hl 1 rfl) ?_
        refine g_x_search hC fi_X7_pattern_X7 hK hX (wd9 hC 2 rfl) dX7_pattern_103 ?_
        refine lv_aload_n hC.1 hC.2.1 dX7_pattern_106 rfl (lv_at hl 1 rfl) ?_
        refine g_x_now hC fi_X7_pattern_X7 hK hX (wd9 hC 1 rfl) dX7_pattern_107 ?_
        refine lv_aload_n hC.1 hC.2.1 dX7_pattern_110 rfl (lv_at hl 0 rfl) ?_
        refine cv_V (As := [.ref (ad 0), .ref (pd_a q0)]) (rest := []) hC hK hA hX (c_X4_findAlone l G ad (S) q0 _ hq_q0 hm0 hTm hT hTn) (cwV 2 hC.2.2.2.2 gX7_pattern_X4_findAlone rfl rfl rfl hd_X4_findAlone ⟨Nat.le_of_ble_eq_true rfl, Nat.le_of_ble_eq_true rfl⟩) (ci := 4) (q := (RX4, TX4, 8)) rfl (q0 := 24) rfl dX7_pattern_111 rfl hl.1 rfl (Nat.le_of_ble_eq_true rfl) ⟨(Nat.zero_le _), (Nat.zero_le _)⟩ (fun S9 H locs hp9 hX => ?_)
        obtain ⟨cf111, kf111, sf111, bf111, ef111, hS9, hLR111, hsf111, hbf111⟩ := hp9
        rw [hS9] at hX
        replace hLR111 : LR ef111 (alX q0 S) (st_len (x_now S) + 1) := hLR111
        replace hsf111 : ∀ e, e ≤ st_len (x_now S) → sf111 e = slipV (dX q0 S e) (st_most (x_now S)) := hsf111
        replace hbf111 : ∀ e, e ≤ st_len (x_now S) → bf111 e = bX q0 S e := hbf111
        replace hX : HH G A s.heap (wX G ad (u_listed (u_ends (u_begAt (u_slipsAt (u_keys (u_cols (S) (cf111)) (kf111)) (sf111)) (bf111)) (ef111)) (cS (alX q0 S) (st_len (x_now S) + 1)))) H locs := hX
        have hcl111 := cS_le (alX q0 S) (st_len (x_now S) + 1)
        have hsX111 := @sf_sel q0 S sf111 hsf111
        refine lv_aload_n hC.1 hC.2.1 dX7_pattern_114 rfl (lv_at hl 1 rfl) ?_
        refine g_x_search hC fi_X7_pattern_X7 hK hX (wd9 hC 2 rfl) dX7_pattern_115 ?_
        refine gN_search_listed hC fi_X7_pattern_X4 hK hX (hnf hK 7 rfl) dX7_pattern_118 (v := cS (alX q0 S) (st_len (x_now S) + 1)) rfl ?_
        refine r_ireturn hC hr hlk hX dX7_pattern_121 ?_
        exact Or.inr ⟨q0, hP0, ⟨rfl, rfl, rfl, rfl, rfl, rfl, rfl, rfl, rfl, rfl, rfl⟩, Or.inr (Or.inr (Or.inr (Or.inr (Or.inl ⟨rfl, rfl⟩))))⟩
      · refine lv_tableIn (tgt := 122) (off := 106) hC.1 hC.2.1 dX7_pattern_16 (by decide +kernel) (by decide +kernel) (by decide +kernel) (by decide) ?_
        refine lv_aload_n hC.1 hC.2.1 dX7_pattern_122 rfl (lv_at hl 1 rfl) ?_
        refine g_x_search hC fi_X7_pattern_X7 hK hX (wd9 hC 2 rfl) dX7_pattern_123 ?_
        refine lv_aload_n hC.1 hC.2.1 dX7_pattern_126 rfl (lv_at hl 1 rfl) ?_
        refine g_x_now hC fi_X7_pattern_X7 hK hX (wd9 hC 1 rfl) dX7_pattern_127 ?_
        refine lv_aload_n hC.1 hC.2.1 dX7_pattern_130 rfl (lv_at hl 0 rfl) ?_
        refine cv_V (As := [.ref (ad 0), .ref (pd_a q0)]) (rest := []) hC hK hA hX (c_X4_findEnds l G ad (S) q0 _ hq_q0 hm0 hTm hT hTn) (cwV 2 hC.2.2.2.2 gX7_pattern_X4_findEnds rfl rfl rfl hd_X4_findEnds ⟨Nat.le_of_ble_eq_true rfl, Nat.le_of_ble_eq_true rfl⟩) (ci := 4) (q := (RX4, TX4, 8)) rfl (q0 := 24) rfl dX7_pattern_131 rfl hl.1 rfl (Nat.le_of_ble_eq_true rfl) ⟨(Nat.zero_le _), (Nat.zero_le _)⟩ (fun S9 H locs hp9 hX => ?_)
        obtain ⟨cf131, sf131, ef131, hS9, hLR131, hsf131⟩ := hp9
        rw [hS9] at hX
        replace hsf131 : ∀ e, e ≤ st_len (x_now S) → sf131 e = slipV (dX q0 S e) (st_most (x_now S)) := hsf131
        replace hLR131 : LR ef131 (selX q0 S) (st_len (x_now S) + 1) := hLR131
        replace hX : HH G A s.heap (wX G ad (u_listed (u_ends (u_slipsAt (u_cols (S) (cf131)) (sf131)) (ef131)) (cS (selX q0 S) (st_len (x_now S) + 1)))) H locs := hX
        have hcl131 := cS_le (selX q0 S) (st_len (x_now S) + 1)
        have hsX131 := @sf_sel q0 S sf131 hsf131
        have hn9 : cS (selX q0 S) (st_len (x_now S) + 1) ≤ 121 := by omega
        have he9 : ∀ r, r < cS (selX q0 S) (st_len (x_now S) + 1) → ef131 r ≤ 120 := fun r hr => by have := (LR_at hLR131 hr).1; omega
        have hg9 : ∀ r, r < cS (selX q0 S) (st_len (x_now S) + 1) → sf131 (ef131 r) = nI (gX q0 S ef131 r) := fun r hr => ends_g hTm hLR131 hsf131 hr
        have hg19 : ∀ r, gX q0 S ef131 r ≤ 200 := fun r => Nat.le_trans (gX_4 _ _ _ _) (by decide)
        refine lv_aload_n hC.1 hC.2.1 dX7_pattern_134 rfl (lv_at hl 1 rfl) ?_
        refine g_x_search hC fi_X7_pattern_X7 hK hX (wd9 hC 2 rfl) dX7_pattern_135 ?_
        refine cv_I (As := []) (rest := []) hC hK hA hX (c_X4_fewestSlips l G ad (u_listed (u_ends (u_slipsAt (u_cols (S) (cf131)) (sf131)) (ef131)) (cS (selX q0 S) (st_len (x_now S) + 1))) (gX q0 S ef131) hn9 he9 hg9 hg19) (cwV 0 hC.2.2.2.2 gX7_pattern_X4_fewestSlips rfl rfl rfl hd_X4_fewestSlips ⟨Nat.le_of_ble_eq_true rfl, Nat.le_of_ble_eq_true rfl⟩) (ci := 4) (q := (RX4, TX4, 8)) rfl (q0 := 24) rfl dX7_pattern_138 rfl hl.1 rfl (Nat.le_of_ble_eq_true rfl) ⟨(Nat.zero_le _), (Nat.zero_le _)⟩ (fun r9 S9 H locs hp9 hX => ?_)
        obtain ⟨rfl, hS9⟩ := hp9
        rw [hS9] at hX
        replace hX : HH G A s.heap (wX G ad (u_listed (u_ends (u_slipsAt (u_cols (S) (cf131)) (sf131)) (ef131)) (cS (selX q0 S) (st_len (x_now S) + 1)))) H locs := hX
        refine r_ireturn hC hr hlk hX dX7_pattern_141 ?_
        exact Or.inr ⟨q0, hP0, ⟨rfl, rfl, rfl, rfl, rfl, rfl, rfl, rfl, rfl, rfl, rfl⟩, Or.inr (Or.inr (Or.inr (Or.inr (Or.inr (Or.inl ⟨rfl, ef131, hLR131, rfl⟩)))))⟩
      · refine lv_tableIn (tgt := 142) (off := 126) hC.1 hC.2.1 dX7_pattern_16 (by decide +kernel) (by decide +kernel) (by decide +kernel) (by decide) ?_
        refine lv_aload_n hC.1 hC.2.1 dX7_pattern_142 rfl (lv_at hl 1 rfl) ?_
        refine g_x_search hC fi_X7_pattern_X7 hK hX (wd9 hC 2 rfl) dX7_pattern_143 ?_
        refine lv_aload_n hC.1 hC.2.1 dX7_pattern_146 rfl (lv_at hl 1 rfl) ?_
        refine g_x_now hC fi_X7_pattern_X7 hK hX (wd9 hC 1 rfl) dX7_pattern_147 ?_
        refine lv_aload_n hC.1 hC.2.1 dX7_pattern_150 rfl (lv_at hl 0 rfl) ?_
        refine cv_V (As := [.ref (ad 0), .ref (pd_a q0)]) (rest := []) hC hK hA hX (c_X4_findEnds l G ad (S) q0 _ hq_q0 hm0 hTm hT hTn) (cwV 2 hC.2.2.2.2 gX7_pattern_X4_findEnds rfl rfl rfl hd_X4_findEnds ⟨Nat.le_of_ble_eq_true rfl, Nat.le_of_ble_eq_true rfl⟩) (ci := 4) (q := (RX4, TX4, 8)) rfl (q0 := 24) rfl dX7_pattern_151 rfl hl.1 rfl (Nat.le_of_ble_eq_true rfl) ⟨(Nat.zero_le _), (Nat.zero_le _)⟩ (fun S9 H locs hp9 hX => ?_)
        obtain ⟨cf151, sf151, ef151, hS9, hLR151, hsf151⟩ := hp9
        rw [hS9] at hX
        replace hsf151 : ∀ e, e ≤ st_len (x_now S) → sf151 e = slipV (dX q0 S e) (st_most (x_now S)) := hsf151
        replace hLR151 : LR ef151 (selX q0 S) (st_len (x_now S) + 1) := hLR151
        replace hX : HH G A s.heap (wX G ad (u_listed (u_ends (u_slipsAt (u_cols (S) (cf151)) (sf151)) (ef151)) (cS (selX q0 S) (st_len (x_now S) + 1)))) H locs := hX
        have hcl151 := cS_le (selX q0 S) (st_len (x_now S) + 1)
        have hsX151 := @sf_sel q0 S sf151 hsf151
        have hn9 : cS (selX q0 S) (st_len (x_now S) + 1) ≤ 121 := by omega
        have he9 : ∀ r, r < cS (selX q0 S) (st_len (x_now S) + 1) → ef151 r ≤ 120 := fun r hr => by have := (LR_at hLR151 hr).1; omega
        have hg9 : ∀ r, r < cS (selX q0 S) (st_len (x_now S) + 1) → sf151 (ef151 r) = nI (gX q0 S ef151 r) := fun r hr => ends_g hTm hLR151 hsf151 hr
        have hg19 : ∀ r, gX q0 S ef151 r ≤ 200 := fun r => Nat.le_trans (gX_4 _ _ _ _) (by decide)
        refine lv_aload_n hC.1 hC.2.1 dX7_pattern_154 rfl (lv_at hl 1 rfl) ?_
        refine g_x_search hC fi_X7_pattern_X7 hK hX (wd9 hC 2 rfl) dX7_pattern_155 ?_
        refine cv_I (As := []) (rest := []) hC hK hA hX (c_X4_firstWithFewest l G ad (u_listed (u_ends (u_slipsAt (u_cols (S) (cf151)) (sf151)) (ef151)) (cS (selX q0 S) (st_len (x_now S) + 1))) (gX q0 S ef151) hn9 he9 hg9 hg19) (cwV 0 hC.2.2.2.2 gX7_pattern_X4_firstWithFewest rfl rfl rfl hd_X4_firstWithFewest ⟨Nat.le_of_ble_eq_true rfl, Nat.le_of_ble_eq_true rfl⟩) (ci := 4) (q := (RX4, TX4, 8)) rfl (q0 := 24) rfl dX7_pattern_158 rfl hl.1 rfl (Nat.le_of_ble_eq_true rfl) ⟨(Nat.zero_le _), (Nat.zero_le _)⟩ (fun r9 S9 H locs hp9 hX => ?_)
        obtain ⟨rfl, hS9⟩ := hp9
        rw [hS9] at hX
        replace hX : HH G A s.heap (wX G ad (u_listed (u_ends (u_slipsAt (u_cols (S) (cf151)) (sf151)) (ef151)) (cS (selX q0 S) (st_len (x_now S) + 1)))) H locs := hX
        refine r_ireturn hC hr hlk hX dX7_pattern_161 ?_
        exact Or.inr ⟨q0, hP0, ⟨rfl, rfl, rfl, rfl, rfl, rfl, rfl, rfl, rfl, rfl, rfl⟩, Or.inr (Or.inr (Or.inr (Or.inr (Or.inr (Or.inr (Or.inl ⟨rfl, ef151, hLR151, rfl⟩))))))⟩
      · refine lv_tableIn (tgt := 162) (off := 146) hC.1 hC.2.1 dX7_pattern_16 (by decide +kernel) (by decide +kernel) (by decide +kernel) (by decide) ?_
        refine lv_aload_n hC.1 hC.2.1 dX7_pattern_162 rfl (lv_at hl 0 rfl) ?_
        refine cv_I (As := []) (rest := []) hC hK hA hX (c_X2_countWild l G ad (S) q0 _ hq_q0 hm0 hb0) (cwV 0 hC.2.2.2.2 gX7_pattern_X2_countWild rfl rfl rfl hd_X2_countWild ⟨Nat.le_of_ble_eq_true rfl, Nat.le_of_ble_eq_true rfl⟩) (ci := 2) (q := (RX2, TX2, 4)) rfl (wX_pa hq_q0) dX7_pattern_163 rfl hl.1 rfl (Nat.le_of_ble_eq_true rfl) ⟨(Nat.zero_le _), (Nat.zero_le _)⟩ (fun r9 S9 H locs hp9 hX => ?_)
        obtain ⟨rfl, hS9⟩ := hp9
        rw [hS9] at hX
        replace hX : HH G A s.heap (wX G ad (S)) H locs := hX
        refine r_ireturn hC hr hlk hX dX7_pattern_166 ?_
        exact Or.inr ⟨q0, hP0, ⟨rfl, rfl, rfl, rfl, rfl, rfl, rfl, rfl, rfl, rfl, rfl⟩, Or.inr (Or.inr (Or.inr (Or.inr (Or.inr (Or.inr (Or.inr (Or.inl ⟨rfl, rfl⟩)))))))⟩
      · refine lv_tableIn (tgt := 167) (off := 151) hC.1 hC.2.1 dX7_pattern_16 (by decide +kernel) (by decide +kernel) (by decide +kernel) (by decide) ?_
        refine lv_aload_n hC.1 hC.2.1 dX7_pattern_167 rfl (lv_at hl 0 rfl) ?_
        refine cv_I (As := []) (rest := []) hC hK hA hX (c_X2_isPlain l G ad (S) q0 _ hq_q0 hm0 hb0) (cwV 0 hC.2.2.2.2 gX7_pattern_X2_isPlain rfl rfl rfl hd_X2_isPlain ⟨Nat.le_of_ble_eq_true rfl, Nat.le_of_ble_eq_true rfl⟩) (ci := 2) (q := (RX2, TX2, 4)) rfl (wX_pa hq_q0) dX7_pattern_168 rfl hl.1 rfl (Nat.le_of_ble_eq_true rfl) ⟨(Nat.zero_le _), (Nat.zero_le _)⟩ (fun r9 S9 H locs hp9 hX => ?_)
        obtain ⟨rfl, hS9⟩ := hp9
        rw [hS9] at hX
        replace hX : HH G A s.heap (wX G ad (S)) H locs := hX
        refine b_if_eq hC (b := plainQ (pd_plf q0) (pd_cnt q0)) (tgt := 178) dX7_pattern_171 (by decide) (fun c171 => ?_) (fun c171 => ?_)
        · skip
          refine lv_iconst (v := nI (0)) hC.1 hC.2.1 dX7_pattern_178 rfl ?_
          refine r_ireturn hC hr hlk hX dX7_pattern_179 ?_
          exact Or.inr ⟨q0, hP0, ⟨rfl, rfl, rfl, rfl, rfl, rfl, rfl, rfl, rfl, rfl, rfl⟩, Or.inr (Or.inr (Or.inr (Or.inr (Or.inr (Or.inr (Or.inr (Or.inr (⟨rfl, by first | exact bI_1 (by assumption) | exact bI_0 (by assumption)⟩))))))))⟩
        · skip
          refine lv_iconst (v := nI (1)) hC.1 hC.2.1 dX7_pattern_174 rfl ?_
          refine lv_goto (tgt := 179) hC.1 hC.2.1 dX7_pattern_175 (by decide) ?_
          refine r_ireturn hC hr hlk hX dX7_pattern_179 ?_
          exact Or.inr ⟨q0, hP0, ⟨rfl, rfl, rfl, rfl, rfl, rfl, rfl, rfl, rfl, rfl, rfl⟩, Or.inr (Or.inr (Or.inr (Or.inr (Or.inr (Or.inr (Or.inr (Or.inr (⟨rfl, by first | exact bI_1 (by assumption) | exact bI_0 (by assumption)⟩))))))))⟩
  · obtain rfl : r9 = none := hr9
    have hP0 : noP S p0 := hn9
    refine lv_astore_nN (lv' := [(3, .null), (0, .ref (ad 34)), (1, .int (p0)), (2, .int (k0))]) hC.1 hC.2.1 dX7_pattern_8 rfl hl (by decide) rfl (fun ls hl => ?_)
    refine lv_aload_nN hC.1 hC.2.1 dX7_pattern_9 rfl (lv_at hl 0 rfl) ?_
    refine lv_ifnonnullN hC.1 hC.2.1 dX7_pattern_10 ?_
    refine lv_iconst (v := (-1)) hC.1 hC.2.1 dX7_pattern_13 rfl ?_
    refine r_ireturn hC hr hlk hX dX7_pattern_14 ?_
    exact Or.inl ⟨hP0, rfl, rfl⟩
