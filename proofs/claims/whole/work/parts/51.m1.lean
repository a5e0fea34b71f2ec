set_option maxHeartbeats 4000000 in
set_option maxRecDepth 100000 in
theorem c_X8_in (l : Launch) (G : GX) (x0 y0 z0 : Int64) : CtI l yX8_in wsX8_in { frames := 0, cells := 0, slots := 0, locals := 0 } G wP (()) [.long (x0), .long (y0), .long (z0)] (fun r _ => r = bI (inL x0 y0 z0)) 0 0 := by
  refine CtI.of (cc := cX8_in) (maxL := 6) (ret := some .boolean) (by decide +kernel) rfl (Nat.le_of_ble_eq_true rfl) ?_
  intro p e s m args below meth c ls A hC hr hlk hin hK hA hX hl
  have hl : lv_has ls 6 [(0, .long (x0)), (2, .long (y0)), (4, .long (z0))] := hl
  refine lv_lload_n hC.1 hC.2.1 dX8_in_0 rfl (lv_at hl 0 rfl) ?_
  refine lv_lload_n hC.1 hC.2.1 dX8_in_1 rfl (lv_at hl 1 rfl) ?_
  refine W.lcmp hC.1 hC.2.1 dX8_in_2 ?_
  refine lv_if_lt hC.1 hC.2.1 (x := lg_cmp (x0) (y0)) (tgt := 17) dX8_in_3 (by decide) (fun c3 => ?_) (fun c3 => ?_)
  · skip
    refine lv_iconst (v := nI (0)) hC.1 hC.2.1 dX8_in_17 rfl ?_
    refine r_zreturn hC hr hlk hX dX8_in_18 rfl ?_
    first | exact bI_t ⟨Int.not_lt.mp (fun z => c3 (lgc_lt.mpr z)), Int.not_lt.mp (fun z => c10 (lgc_gt.mpr z))⟩ | exact bI_f (fun z => Int.not_lt.mpr z.1 (lgc_lt.mp c3)) | exact bI_f (fun z => Int.not_lt.mpr z.2 (lgc_gt.mp c10))
  · skip
    refine lv_lload_n hC.1 hC.2.1 dX8_in_6 rfl (lv_at hl 0 rfl) ?_
    refine lv_lload hC.1 hC.2.1 dX8_in_7 (lv_at hl 2 rfl) ?_
    refine W.lcmp hC.1 hC.2.1 dX8_in_9 ?_
    refine lv_if_gt hC.1 hC.2.1 (x := lg_cmp (x0) (z0)) (tgt := 17) dX8_in_10 (by decide) (fun c10 => ?_) (fun c10 => ?_)
    · skip
      refine lv_iconst (v := nI (0)) hC.1 hC.2.1 dX8_in_17 rfl ?_
      refine r_zreturn hC hr hlk hX dX8_in_18 rfl ?_
      first | exact bI_t ⟨Int.not_lt.mp (fun z => c3 (lgc_lt.mpr z)), Int.not_lt.mp (fun z => c10 (lgc_gt.mpr z))⟩ | exact bI_f (fun z => Int.not_lt.mpr z.1 (lgc_lt.mp c3)) | exact bI_f (fun z => Int.not_lt.mpr z.2 (lgc_gt.mp c10))
    · skip
      refine lv_iconst (v := nI (1)) hC.1 hC.2.1 dX8_in_13 rfl ?_
      refine lv_goto (tgt := 18) hC.1 hC.2.1 dX8_in_14 (by decide) ?_
      refine r_zreturn hC hr hlk hX dX8_in_18 rfl ?_
      first | exact bI_t ⟨Int.not_lt.mp (fun z => c3 (lgc_lt.mpr z)), Int.not_lt.mp (fun z => c10 (lgc_gt.mpr z))⟩ | exact bI_f (fun z => Int.not_lt.mpr z.1 (lgc_lt.mp c3)) | exact bI_f (fun z => Int.not_lt.mpr z.2 (lgc_gt.mp c10))
theorem fi_X8_places_X8 : ∀ w ∈ wsX80, w ∈ wsX8_places := by decide +kernel
set_option maxHeartbeats 4000000 in
set_option maxRecDepth 100000 in
theorem c_X8_places (l : Launch) (G : GX) (am : Nat → Nat) (S : MS) (p0 : Nat) (hp0 : p0 < 6) : CtI l yX8_places wsX8_places { frames := 0, cells := 0, slots := 0, locals := 0 } G (wM G am) (S) [.ref (am 0), .int (nI (p0))] (fun r S' => r = nI (aPl (m_all S) p0) ∧ S' = S) 0 0 := by
  refine CtI.of (cc := cX8_places) (maxL := 2) (ret := some .int) (by decide +kernel) rfl (Nat.le_of_ble_eq_true rfl) ?_
  intro p e s m args below meth c ls A hC hr hlk hin hK hA hX hl
  have hl : lv_has ls 2 [(0, .ref (am 0)), (1, .int (nI (p0)))] := hl
  refine lv_aload_n hC.1 hC.2.1 dX8_places_0 rfl (lv_at hl 0 rfl) ?_
  refine g_m_all hC fi_X8_places_X8 hK hX (wd9 hC 1 rfl) dX8_places_1 ?_
  refine lv_bipush (v := nI (123)) hC.1 hC.2.1 dX8_places_4 (by decide +kernel) ?_
  refine lv_bipush (v := nI (62)) hC.1 hC.2.1 dX8_places_6 (by decide +kernel) ?_
  refine lv_iload_n hC.1 hC.2.1 dX8_places_8 rfl (lv_at hl 1 rfl) ?_
  refine n_mul hC (a := 62) (b := p0) dX8_places_9 ?_
  refine n_add hC (a := 123) (b := 62 * p0) dX8_places_10 ?_
  refine l_m_all hC hK hX (i := (123) + (62 * p0)) (by omega) dX8_places_11 (v := aPl (m_all S) p0) rfl ?_
  refine r_ireturn hC hr hlk hX dX8_places_12 ?_
  exact ⟨rfl, rfl⟩
theorem fi_X8_taking_X8 : ∀ w ∈ wsX80, w ∈ wsX8_taking := by decide +kernel
set_option maxHeartbeats 4000000 in
set_option maxRecDepth 100000 in
theorem c_X8_taking (l : Launch) (G : GX) (am : Nat → Nat) (S : MS) (p0 j0 : Nat) (hp0 : p0 < 6) (hj0 : j0 < 60) : CtI l yX8_taking wsX8_taking { frames := 0, cells := 0, slots := 0, locals := 0 } G (wM G am) (S) [.ref (am 0), .int (nI (p0)), .int (nI (j0))] (fun r S' => r = nI (aTk (m_all S) p0 j0) ∧ S' = S) 0 0 := by
  refine CtI.of (cc := cX8_taking) (maxL := 3) (ret := some .int) (by decide +kernel) rfl (Nat.le_of_ble_eq_true rfl) ?_
  intro p e s m args below meth c ls A hC hr hlk hin hK hA hX hl
  have hl : lv_has ls 3 [(0, .ref (am 0)), (1, .int (nI (p0))), (2, .int (nI (j0)))] := hl
  refine lv_aload_n hC.1 hC.2.1 dX8_taking_0 rfl (lv_at hl 0 rfl) ?_
  refine g_m_all hC fi_X8_taking_X8 hK hX (wd9 hC 1 rfl) dX8_taking_1 ?_
  refine lv_bipush (v := nI (123)) hC.1 hC.2.1 dX8_taking_4 (by decide +kernel) ?_
  refine lv_bipush (v := nI (62)) hC.1 hC.2.1 dX8_taking_6 (by decide +kernel) ?_
  refine lv_iload_n hC.1 hC.2.1 dX8_taking_8 rfl (lv_at hl 1 rfl) ?_
  refine n_mul hC (a := 62) (b := p0) dX8_taking_9 ?_
  refine n_add hC (a := 123) (b := 62 * p0) dX8_taking_10 ?_
  refine lv_iconst (v := nI (2)) hC.1 hC.2.1 dX8_taking_11 rfl ?_
  refine n_add hC (a := (123) + (62 * p0)) (b := 2) dX8_taking_12 ?_
  refine lv_iload_n hC.1 hC.2.1 dX8_taking_13 rfl (lv_at hl 2 rfl) ?_
  refine n_add hC (a := ((123) + (62 * p0)) + (2)) (b := j0) dX8_taking_14 ?_
  refine l_m_all hC hK hX (i := (((123) + (62 * p0)) + (2)) + (j0)) (by omega) dX8_taking_15 (v := aTk (m_all S) p0 j0) (congrArg (m_all S) (by omega)) ?_
  refine r_ireturn hC hr hlk hX dX8_taking_16 ?_
  exact ⟨rfl, rfl⟩
theorem fi_X8_mayBegin_X8 : ∀ w ∈ wsX80, w ∈ wsX8_mayBegin := by decide +kernel
set_option maxHeartbeats 4000000 in
set_option maxRecDepth 100000 in
theorem c_X8_mayBegin (l : Launch) (G : GX) (am : Nat → Nat) (S : MS) (p0 e0 : Nat) (hp0 : p0 < 6) (he0 : e0 ≤ 120) (hb0 : aBd (m_all S) p0 < 2 ^ 31) (ht0 : aTx (m_all S) (e0 - 1) < 2 ^ 31) : CtI l yX8_mayBegin wsX8_mayBegin { frames := 0, cells := 0, slots := 0, locals := 0 } G (wM G am) (S) [.ref (am 0), .int (nI (p0)), .int (nI (e0))] (fun r S' => r = bI (aMb (m_all S) p0 e0) ∧ S' = S) 0 0 := by
  refine CtI.of (cc := cX8_mayBegin) (maxL := 3) (ret := some .boolean) (by decide +kernel) rfl (Nat.le_of_ble_eq_true rfl) ?_
  intro p e s m args below meth c ls A hC hr hlk hin hK hA hX hl
  have hl : lv_has ls 3 [(0, .ref (am 0)), (1, .int (nI (p0))), (2, .int (nI (e0)))] := hl
  refine lv_aload_n hC.1 hC.2.1 dX8_mayBegin_0 rfl (lv_at hl 0 rfl) ?_
  refine g_m_all hC fi_X8_mayBegin_X8 hK hX (wd9 hC 1 rfl) dX8_mayBegin_1 ?_
  refine lv_bipush (v := nI (123)) hC.1 hC.2.1 dX8_mayBegin_4 (by decide +kernel) ?_
  refine lv_bipush (v := nI (62)) hC.1 hC.2.1 dX8_mayBegin_6 (by decide +kernel) ?_
  refine lv_iload_n hC.1 hC.2.1 dX8_mayBegin_8 rfl (lv_at hl 1 rfl) ?_
  refine n_mul hC (a := 62) (b := p0) dX8_mayBegin_9 ?_
  refine n_add hC (a := 123) (b := 62 * p0) dX8_mayBegin_10 ?_
  refine lv_iconst (v := nI (1)) hC.1 hC.2.1 dX8_mayBegin_11 rfl ?_
  refine n_add hC (a := (123) + (62 * p0)) (b := 1) dX8_mayBegin_12 ?_
  refine l_m_all hC hK hX (i := ((123) + (62 * p0)) + (1)) (by omega) dX8_mayBegin_13 (v := aBd (m_all S) p0) (congrArg (m_all S) (by omega)) ?_
  refine n_if_eq hC (a := aBd (m_all S) p0) (tgt := 36) dX8_mayBegin_14 (by decide) (by omega) (fun c14 => ?_) (fun c14 => ?_)
  · skip
    refine lv_iconst (v := nI (1)) hC.1 hC.2.1 dX8_mayBegin_36 rfl ?_
    refine lv_goto (tgt := 41) hC.1 hC.2.1 dX8_mayBegin_37 (by decide) ?_
    refine r_zreturn hC hr hlk hX dX8_mayBegin_41 rfl ?_
    first | exact ⟨bI_t (by omega), rfl⟩ | exact ⟨bI_f (by omega), rfl⟩
  · skip
    refine lv_iload_n hC.1 hC.2.1 dX8_mayBegin_17 rfl (lv_at hl 2 rfl) ?_
    refine n_if_eq hC (a := e0) (tgt := 36) dX8_mayBegin_18 (by decide) (by omega) (fun c18 => ?_) (fun c18 => ?_)
    · skip
      refine lv_iconst (v := nI (1)) hC.1 hC.2.1 dX8_mayBegin_36 rfl ?_
      refine lv_goto (tgt := 41) hC.1 hC.2.1 dX8_mayBegin_37 (by decide) ?_
      refine r_zreturn hC hr hlk hX dX8_mayBegin_41 rfl ?_
      first | exact ⟨bI_t (by omega), rfl⟩ | exact ⟨bI_f (by omega), rfl⟩
    · skip
      refine lv_aload_n hC.1 hC.2.1 dX8_mayBegin_21 rfl (lv_at hl 0 rfl) ?_
      refine g_m_all hC fi_X8_mayBegin_X8 hK hX (wd9 hC 1 rfl) dX8_mayBegin_22 ?_
      refine lv_iconst (v := nI (3)) hC.1 hC.2.1 dX8_mayBegin_25 rfl ?_
      refine lv_iload_n hC.1 hC.2.1 dX8_mayBegin_26 rfl (lv_at hl 2 rfl) ?_
      refine n_add hC (a := 3) (b := e0) dX8_mayBegin_27 ?_
      refine lv_iconst (v := nI (1)) hC.1 hC.2.1 dX8_mayBegin_28 rfl ?_
      refine n_sub hC (a := 3 + e0) (b := 1) dX8_mayBegin_29 (by omega) ?_
      refine l_m_all hC hK hX (i := (3 + e0) - (1)) (by omega) dX8_mayBegin_30 (v := aTx (m_all S) (e0 - 1)) (congrArg (m_all S) (by omega)) ?_
      refine lv_bipush (v := nI (26)) hC.1 hC.2.1 dX8_mayBegin_31 (by decide +kernel) ?_
      refine n_icmp_ne hC (a := aTx (m_all S) (e0 - 1)) (b := 26) (tgt := 40) dX8_mayBegin_33 (by decide) (by omega) (by decide) (fun c33 => ?_) (fun c33 => ?_)
      · skip
        refine lv_iconst (v := nI (0)) hC.1 hC.2.1 dX8_mayBegin_40 rfl ?_
        refine r_zreturn hC hr hlk hX dX8_mayBegin_41 rfl ?_
        first | exact ⟨bI_t (by omega), rfl⟩ | exact ⟨bI_f (by omega), rfl⟩
      · skip
        refine lv_iconst (v := nI (1)) hC.1 hC.2.1 dX8_mayBegin_36 rfl ?_
        refine lv_goto (tgt := 41) hC.1 hC.2.1 dX8_mayBegin_37 (by decide) ?_
        refine r_zreturn hC hr hlk hX dX8_mayBegin_41 rfl ?_
        first | exact ⟨bI_t (by omega), rfl⟩ | exact ⟨bI_f (by omega), rfl⟩
theorem hd_X8_taking : yX8_taking.cls = RX8 ∧ yX8_taking.cls ≠ "java/lang/invoke/MethodHandle" ∧ yX8_taking.cls ≠ "java/lang/invoke/VarHandle" ∧ (parseMethodDescriptor yX8_taking.desc).map (fun d => d.parameters.length) = some 2 := by decide +kernel
theorem fi_X8_isTaken_X8 : ∀ w ∈ wsX80, w ∈ wsX8_isTaken := by decide +kernel
set_option maxHeartbeats 4000000 in
set_option maxRecDepth 100000 in
theorem c_X8_isTaken (l : Launch) (G : GX) (am : Nat → Nat) (S : MS) (p0 j0 e0 : Nat) (hp0 : p0 < 6) (hj0 : j0 < 60) (he0 : e0 < 120) (ht0 : aTx (m_all S) e0 < 27) (hk0 : aTk (m_all S) p0 j0 < 2 ^ 31) : CtI l yX8_isTaken wsX8_isTaken { frames := 1, cells := 0, slots := 0, locals := 22 } G (wM G am) (S) [.ref (am 0), .int (nI (p0)), .int (nI (j0)), .int (nI (e0))] (fun r S' => r = bI (aTt (m_all S) p0 j0 e0) ∧ S' = S) 0 0 := by
  refine CtI.of (cc := cX8_isTaken) (maxL := 4) (ret := some .boolean) (by decide +kernel) rfl (Nat.le_of_ble_eq_true rfl) ?_
  intro p e s m args below meth c ls A hC hr hlk hin hK hA hX hl
  have hl : lv_has ls 4 [(0, .ref (am 0)), (1, .int (nI (p0))), (2, .int (nI (j0))), (3, .int (nI (e0)))] := hl
  refine lv_aload_n hC.1 hC.2.1 dX8_isTaken_0 rfl (lv_at hl 0 rfl) ?_
  refine lv_iload_n hC.1 hC.2.1 dX8_isTaken_1 rfl (lv_at hl 1 rfl) ?_
  refine lv_iload_n hC.1 hC.2.1 dX8_isTaken_2 rfl (lv_at hl 2 rfl) ?_
  refine cv_I (As := [.int (nI (p0)), .int (nI (j0))]) (rest := []) hC hK hA hX (c_X8_taking l G am (S) (p0) (j0) (by omega) (by omega)) (cwV 2 hC.2.2.2.2 gX8_isTaken_X8_taking rfl rfl rfl hd_X8_taking ⟨Nat.le_of_ble_eq_true rfl, Nat.le_of_ble_eq_true rfl⟩) (ci := 8) (q := (RX8, TX8, 21)) rfl (q0 := 0) rfl dX8_isTaken_3 rfl hl.1 rfl (Nat.le_of_ble_eq_true rfl) ⟨(Nat.zero_le _), (Nat.zero_le _)⟩ (fun r9 S9 H locs hp9 hX => ?_)
  obtain ⟨rfl, hS9⟩ := hp9
  rw [hS9] at hX
  replace hX : HH G A s.heap (wM G am (S)) H locs := hX
  refine lv_aload_n hC.1 hC.2.1 dX8_isTaken_6 rfl (lv_at hl 0 rfl) ?_
  refine g_m_all hC fi_X8_isTaken_X8 hK hX (wd9 hC 1 rfl) dX8_isTaken_7 ?_
  refine lv_iconst (v := nI (3)) hC.1 hC.2.1 dX8_isTaken_10 rfl ?_
  refine lv_iload_n hC.1 hC.2.1 dX8_isTaken_11 rfl (lv_at hl 3 rfl) ?_
  refine n_add hC (a := 3) (b := e0) dX8_isTaken_12 ?_
  refine l_m_all hC hK hX (i := 3 + e0) (by omega) dX8_isTaken_13 (v := aTx (m_all S) e0) rfl ?_
  refine lv_ishr hC.1 hC.2.1 dX8_isTaken_14 ?_
  refine n_top (y := nI (aTk (m_all S) p0 j0 / 2 ^ aTx (m_all S) e0)) (shr_var hk0 (by omega)) ?_
  refine lv_iconst (v := nI (1)) hC.1 hC.2.1 dX8_isTaken_15 rfl ?_
  refine lv_iand hC.1 hC.2.1 dX8_isTaken_16 ?_
  refine n_top (y := nI (aTk (m_all S) p0 j0 / 2 ^ aTx (m_all S) e0 % 2)) (pk_andN (Nat.lt_of_le_of_lt (Nat.div_le_self _ _) (by omega)) 1 (by decide +kernel)) ?_
  refine lv_iconst (v := nI (1)) hC.1 hC.2.1 dX8_isTaken_17 rfl ?_
  refine n_icmp_ne hC (a := aTk (m_all S) p0 j0 / 2 ^ aTx (m_all S) e0 % 2) (b := 1) (tgt := 25) dX8_isTaken_18 (by decide) (by omega) (by decide) (fun c18 => ?_) (fun c18 => ?_)
  · skip
    refine lv_iconst (v := nI (0)) hC.1 hC.2.1 dX8_isTaken_25 rfl ?_
    refine r_zreturn hC hr hlk hX dX8_isTaken_26 rfl ?_
    first | exact ⟨bI_1 (by unfold aTt; rw [Nat.testBit_eq_decide_div_mod_eq]; exact decide_eq_true (by assumption)), rfl⟩ | exact ⟨bI_0 (by unfold aTt; rw [Nat.testBit_eq_decide_div_mod_eq]; exact decide_eq_false (by assumption)), rfl⟩
  · skip
    refine lv_iconst (v := nI (1)) hC.1 hC.2.1 dX8_isTaken_21 rfl ?_
    refine lv_goto (tgt := 26) hC.1 hC.2.1 dX8_isTaken_22 (by decide) ?_
    refine r_zreturn hC hr hlk hX dX8_isTaken_26 rfl ?_
    first | exact ⟨bI_1 (by unfold aTt; rw [Nat.testBit_eq_decide_div_mod_eq]; exact decide_eq_true (by assumption)), rfl⟩ | exact ⟨bI_0 (by unfold aTt; rw [Nat.testBit_eq_decide_div_mod_eq]; exact decide_eq_false (by assumption)), rfl⟩
theorem fi_X8_tries_X8 : ∀ w ∈ wsX80, w ∈ wsX8_tries := by decide +kernel
set_option maxHeartbeats 4000000 in
set_option maxRecDepth 100000 in
theorem c_X8_tries (l : Launch) (G : GX) (am : Nat → Nat) (S : MS) (i0 s0 b0 k0 : Nat) (hs0 : s0 = k0 / 128) (hb0 : b0 = 127 - k0 % 128) (hi0 : i0 < 7381) (hk0 : k0 < 100000) (ko : Option Nat) (hko : cellO (m_fewest S) (m_begin S) i0 ko) (hf0 : m_fewest S i0 < 2 ^ 31) : CtV l yX8_tries wsX8_tries { frames := 0, cells := 0, slots := 0, locals := 0 } G (wM G am) (S) [.ref (am 0), .int (nI (i0)), .int (nI (s0)), .int (nI (b0))] (fun S' => ∃ f g, S' = w_begin (w_fewest S f) g ∧ cellK f g i0 (optMin ko k0) ∧ ∀ j, j ≠ i0 → f j = m_fewest S j ∧ g j = m_begin S j) 0 0 := by
  refine CtV.of (cc := cX8_tries) (maxL := 4) (ret := none) (by decide +kernel) rfl (Nat.le_of_ble_eq_true rfl) ?_
  intro p e s m args below meth c ls A hC hr hlk hin hK hA hX hl
  have hl : lv_has ls 4 [(0, .ref (am 0)), (1, .int (nI (i0))), (2, .int (nI (s0))), (3, .int (nI (b0)))] := hl
  refine lv_iload_n hC.1 hC.2.1 dX8_tries_0 rfl (lv_at hl 2 rfl) ?_
  refine lv_aload_n hC.1 hC.2.1 dX8_tries_1 rfl (lv_at hl 0 rfl) ?_
  refine g_m_fewest hC fi_X8_tries_X8 hK hX (wd9 hC 1 rfl) dX8_tries_2 ?_
  refine lv_iload_n hC.1 hC.2.1 dX8_tries_5 rfl (lv_at hl 1 rfl) ?_
  refine l_m_fewest hC hK hX (i := i0) (by omega) dX8_tries_6 (v := (m_fewest S) i0) rfl ?_
  refine n_icmp_lt hC (a := s0) (b := (m_fewest S) i0) (tgt := 30) dX8_tries_7 (by decide) (by omega) hf0 (fun c7 => ?_) (fun c7 => ?_)
  · skip
    refine lv_aload_n hC.1 hC.2.1 dX8_tries_30 rfl (lv_at hl 0 rfl) ?_
    refine g_m_fewest hC fi_X8_tries_X8 hK hX (wd9 hC 1 rfl) dX8_tries_31 ?_
    refine lv_iload_n hC.1 hC.2.1 dX8_tries_34 rfl (lv_at hl 1 rfl) ?_
    refine lv_iload_n hC.1 hC.2.1 dX8_tries_35 rfl (lv_at hl 2 rfl) ?_
    refine s_m_fewest hC hK hX (i := i0) (v := s0) (by omega) dX8_tries_36 (fun H locs hX => ?_)
    replace hX : HH G A s.heap (wM G am (w_fewest (S) (va_up (m_fewest S) (i0) (s0)))) H locs := hX
    refine lv_aload_n hC.1 hC.2.1 dX8_tries_37 rfl (lv_at hl 0 rfl) ?_
    refine g_m_begin hC fi_X8_tries_X8 hK hX (wd9 hC 2 rfl) dX8_tries_38 ?_
    refine lv_iload_n hC.1 hC.2.1 dX8_tries_41 rfl (lv_at hl 1 rfl) ?_
    refine lv_iload_n hC.1 hC.2.1 dX8_tries_42 rfl (lv_at hl 3 rfl) ?_
    refine s_m_begin hC hK hX (i := i0) (v := nI (b0)) (by omega) dX8_tries_43 (fun H locs hX => ?_)
    replace hX : HH G A s.heap (wM G am (w_begin (w_fewest (S) (va_up (m_fewest S) (i0) (s0))) (upd (m_begin S) (i0) (nI (b0))))) H locs := hX
    refine r_return hC hr hlk hX dX8_tries_44 ?_
    subst hs0
    subst hb0
    first | exact ⟨_, _, rfl, try_st hko (Or.inl c7), fun j hj => ⟨va_up_ne _ _ hj, pk_un hj⟩⟩ | exact ⟨_, _, rfl, try_st hko (Or.inr ⟨c17, c27⟩), fun j hj => ⟨va_up_ne _ _ hj, pk_un hj⟩⟩
  · skip
    refine lv_iload_n hC.1 hC.2.1 dX8_tries_10 rfl (lv_at hl 2 rfl) ?_
    refine lv_aload_n hC.1 hC.2.1 dX8_tries_11 rfl (lv_at hl 0 rfl) ?_
    refine g_m_fewest hC fi_X8_tries_X8 hK hX (wd9 hC 1 rfl) dX8_tries_12 ?_
    refine lv_iload_n hC.1 hC.2.1 dX8_tries_15 rfl (lv_at hl 1 rfl) ?_
    refine l_m_fewest hC hK hX (i := i0) (by omega) dX8_tries_16 (v := (m_fewest S) i0) rfl ?_
    refine n_icmp_ne hC (a := s0) (b := (m_fewest S) i0) (tgt := 44) dX8_tries_17 (by decide) (by omega) hf0 (fun c17 => ?_) (fun c17 => ?_)
    · skip
      refine r_return hC hr hlk hX dX8_tries_44 ?_
      subst hs0
      subst hb0
      first | exact ⟨_, _, rfl, try_no (f := m_fewest S) (g := m_begin S) hk0 hko (by omega) (Or.inl (by omega)), fun j hj => ⟨rfl, rfl⟩⟩ | exact ⟨_, _, rfl, try_no (f := m_fewest S) (g := m_begin S) hk0 hko (by omega) (Or.inr c27), fun j hj => ⟨rfl, rfl⟩⟩
    · skip
      refine lv_iload_n hC.1 hC.2.1 dX8_tries_20 rfl (lv_at hl 3 rfl) ?_
      refine lv_aload_n hC.1 hC.2.1 dX8_tries_21 rfl (lv_at hl 0 rfl) ?_
      refine g_m_begin hC fi_X8_tries_X8 hK hX (wd9 hC 2 rfl) dX8_tries_22 ?_
      refine lv_iload_n hC.1 hC.2.1 dX8_tries_25 rfl (lv_at hl 1 rfl) ?_
      refine l_m_begin hC hK hX (i := i0) (by omega) dX8_tries_26 (v := (m_begin S) i0) rfl ?_
      refine lv_icmp_le hC.1 hC.2.1 (x := nI (b0)) (y := (m_begin S) i0) (tgt := 44) dX8_tries_27 (by decide) (fun c27 => ?_) (fun c27 => ?_)
      · skip
        refine r_return hC hr hlk hX dX8_tries_44 ?_
        subst hs0
        subst hb0
        first | exact ⟨_, _, rfl, try_no (f := m_fewest S) (g := m_begin S) hk0 hko (by omega) (Or.inl (by omega)), fun j hj => ⟨rfl, rfl⟩⟩ | exact ⟨_, _, rfl, try_no (f := m_fewest S) (g := m_begin S) hk0 hko (by omega) (Or.inr c27), fun j hj => ⟨rfl, rfl⟩⟩
      · skip
        refine lv_aload_n hC.1 hC.2.1 dX8_tries_30 rfl (lv_at hl 0 rfl) ?_
        refine g_m_fewest hC fi_X8_tries_X8 hK hX (wd9 hC 1 rfl) dX8_tries_31 ?_
        refine lv_iload_n hC.1 hC.2.1 dX8_tries_34 rfl (lv_at hl 1 rfl) ?_
        refine lv_iload_n hC.1 hC.2.1 dX8_tries_35 rfl (lv_at hl 2 rfl) ?_
        refine s_m_fewest hC hK hX (i := i0) (v := s0) (by omega) dX8_tries_36 (fun H locs hX => ?_)
        replace hX : HH G A s.heap (wM G am (w_fewest (S) (va_up (m_fewest S) (i0) (s0)))) H locs := hX
        refine lv_aload_n hC.1 hC.2.1 dX8_tries_37 rfl (lv_at hl 0 rfl) ?_
        refine g_m_begin hC fi_X8_tries_X8 hK hX (wd9 hC 2 rfl) dX8_tries_38 ?_
        refine lv_iload_n hC.1 hC.2.1 dX8_tries_41 rfl (lv_at hl 1 rfl) ?_
        refine lv_iload_n hC.1 hC.2.1 dX8_tries_42 rfl (lv_at hl 3 rfl) ?_
        refine s_m_begin hC hK hX (i := i0) (v := nI (b0)) (by omega) dX8_tries_43 (fun H locs hX => ?_)
        replace hX : HH G A s.heap (wM G am (w_begin (w_fewest (S) (va_up (m_fewest S) (i0) (s0))) (upd (m_begin S) (i0) (nI (b0))))) H locs := hX
        refine r_return hC hr hlk hX dX8_tries_44 ?_
        subst hs0
        subst hb0
        first | exact ⟨_, _, rfl, try_st hko (Or.inl c7), fun j hj => ⟨va_up_ne _ _ hj, pk_un hj⟩⟩ | exact ⟨_, _, rfl, try_st hko (Or.inr ⟨c17, c27⟩), fun j hj => ⟨va_up_ne _ _ hj, pk_un hj⟩⟩
theorem fi_X8_isHere_X8 : ∀ w ∈ wsX80, w ∈ wsX8_isHere := by decide +kernel
theorem hd_X8_in_s : yX8_in.cls ≠ "java/lang/invoke/MethodHandle" ∧ yX8_in.cls ≠ "java/lang/invoke/VarHandle" ∧ (parseMethodDescriptor yX8_in.desc).map (fun d => d.parameters.length) = some 3 := by decide +kernel
set_option maxHeartbeats 4000000 in
set_option maxRecDepth 100000 in
theorem c_X8_isHere (l : Launch) (G : GX) (am : Nat → Nat) (S : MS) (a0 b0 : Nat) (ha0 : a0 < 2 ^ 31) (hb0 : b0 < 2 ^ 31) (hs0 : m_spot S ≤ m_padLong S) (hl0 : m_padLong S ≤ 60) (hp0 : ∀ i, m_pad S i < 65536) : CtI l yX8_isHere wsX8_isHere { frames := 1, cells := 0, slots := 0, locals := 25 } G (wM G am) (S) [.ref (am 0), .int (nI (a0)), .int (nI (b0))] (fun r S' => r = bI (decide (m_spot S < m_padLong S ∧ a0 ≤ m_pad S (m_spot S) ∧ m_pad S (m_spot S) ≤ b0)) ∧ S' = S) 0 0 := by
  refine CtI.of (cc := cX8_isHere) (maxL := 3) (ret := some .boolean) (by decide +kernel) rfl (Nat.le_of_ble_eq_true rfl) ?_
  intro p e s m args below meth c ls A hC hr hlk hin hK hA hX hl
  have hl : lv_has ls 3 [(0, .ref (am 0)), (1, .int (nI (a0))), (2, .int (nI (b0)))] := hl
  refine lv_aload_n hC.1 hC.2.1 dX8_isHere_0 rfl (lv_at hl 0 rfl) ?_
  refine g_m_spot hC fi_X8_isHere_X8 hK hX (wd9 hC 1 rfl) dX8_isHere_1 (v := m_spot S) rfl ?_
  refine lv_aload_n hC.1 hC.2.1 dX8_isHere_4 rfl (lv_at hl 0 rfl) ?_
  refine g_m_padLong hC fi_X8_isHere_X8 hK hX (wd9 hC 2 rfl) dX8_isHere_5 (v := m_padLong S) rfl ?_
  refine n_icmp_ge hC (a := m_spot S) (b := m_padLong S) (tgt := 35) dX8_isHere_8 (by decide) (by omega) (by omega) (fun c8 => ?_) (fun c8 => ?_)
  · skip
    refine lv_iconst (v := nI (0)) hC.1 hC.2.1 dX8_isHere_35 rfl ?_
    refine r_zreturn hC hr hlk hX dX8_isHere_36 rfl ?_
    first | exact ⟨bI_t (by have h9 := c28; rw [decide_eq_true_eq] at h9; exact ⟨by omega, h9.1, h9.2⟩), rfl⟩ | exact ⟨bI_f (fun z => by have h9 := c28; rw [decide_eq_false_iff_not] at h9; exact h9 z.2), rfl⟩ | exact ⟨bI_f (fun z => by omega), rfl⟩
  · skip
    refine lv_aload_n hC.1 hC.2.1 dX8_isHere_11 rfl (lv_at hl 0 rfl) ?_
    refine g_m_pad hC fi_X8_isHere_X8 hK hX (wd9 hC 3 rfl) dX8_isHere_12 ?_
    have hpd := hp0 (m_spot S)
    refine lv_aload_n hC.1 hC.2.1 dX8_isHere_15 rfl (lv_at hl 0 rfl) ?_
    refine g_m_spot hC fi_X8_isHere_X8 hK hX (wd9 hC 1 rfl) dX8_isHere_16 (v := m_spot S) rfl ?_
    refine l_m_pad hC hK hX (i := m_spot S) (by omega) dX8_isHere_19 (v := (m_pad S) (m_spot S)) rfl ?_
    refine lv_i2l (v := lN ((m_pad S) (m_spot S))) hC.1 hC.2.1 dX8_isHere_20 (nI_l (by omega)) ?_
    refine lv_iload_n hC.1 hC.2.1 dX8_isHere_21 rfl (lv_at hl 1 rfl) ?_
    refine lv_i2l (v := lN (a0)) hC.1 hC.2.1 dX8_isHere_22 (nI_l (by omega)) ?_
    refine lv_iload_n hC.1 hC.2.1 dX8_isHere_23 rfl (lv_at hl 2 rfl) ?_
    refine lv_i2l (v := lN (b0)) hC.1 hC.2.1 dX8_isHere_24 (nI_l (by omega)) ?_
    refine ps_I (As := [.long (lN ((m_pad S) (m_spot S))), .long (lN (a0)), .long (lN (b0))]) (rest := []) hC hK hA hX (c_X8_in l G (lN ((m_pad S) (m_spot S))) (lN (a0)) (lN (b0))) (va_cwS 3 hC.2.2.2.2 gX8_isHere_X8_in rfl rfl rfl hd_X8_in_s ⟨Nat.le_of_ble_eq_true rfl, Nat.le_of_ble_eq_true rfl⟩) dX8_isHere_25 rfl hl.1 rfl (Nat.le_of_ble_eq_true rfl) ⟨(Nat.zero_le _), (Nat.zero_le _)⟩ (fun r9 S9 H locs hp9 hX => ?_)
    obtain rfl : r9 = bI (decide (a0 ≤ m_pad S (m_spot S) ∧ m_pad S (m_spot S) ≤ b0)) := by rw [hp9, inL_n (by omega) ha0 hb0]
    replace hX : HH G A s.heap (wM G am (S)) H locs := hX
    refine b_if_eq hC (b := decide (a0 ≤ m_pad S (m_spot S) ∧ m_pad S (m_spot S) ≤ b0)) (tgt := 35) dX8_isHere_28 (by decide) (fun c28 => ?_) (fun c28 => ?_)
    · skip
      refine lv_iconst (v := nI (0)) hC.1 hC.2.1 dX8_isHere_35 rfl ?_
      refine r_zreturn hC hr hlk hX dX8_isHere_36 rfl ?_
      first | exact ⟨bI_t (by have h9 := c28; rw [decide_eq_true_eq] at h9; exact ⟨by omega, h9.1, h9.2⟩), rfl⟩ | exact ⟨bI_f (fun z => by have h9 := c28; rw [decide_eq_false_iff_not] at h9; exact h9 z.2), rfl⟩ | exact ⟨bI_f (fun z => by omega), rfl⟩
    · skip
      refine lv_iconst (v := nI (1)) hC.1 hC.2.1 dX8_isHere_31 rfl ?_
      refine lv_goto (tgt := 36) hC.1 hC.2.1 dX8_isHere_32 (by decide) ?_
      refine r_zreturn hC hr hlk hX dX8_isHere_36 rfl ?_
      first | exact ⟨bI_t (by have h9 := c28; rw [decide_eq_true_eq] at h9; exact ⟨by omega, h9.1, h9.2⟩), rfl⟩ | exact ⟨bI_f (fun z => by have h9 := c28; rw [decide_eq_false_iff_not] at h9; exact h9 z.2), rfl⟩ | exact ⟨bI_f (fun z => by omega), rfl⟩
theorem fi_X8_writes_X8 : ∀ w ∈ wsX80, w ∈ wsX8_writes := by decide +kernel
set_option maxHeartbeats 4000000 in
set_option maxRecDepth 100000 in
theorem c_X8_writes (l : Launch) (G : GX) (am : Nat → Nat) (S : MS) (c0 : Nat) (hl0 : aLen (m_all S) < 120) : CtV l yX8_writes wsX8_writes { frames := 0, cells := 0, slots := 0, locals := 0 } G (wM G am) (S) [.ref (am 0), .int (nI (c0))] (fun S' => S' = w_all S (va_up (va_up (m_all S) (3 + aLen (m_all S)) c0) 0 (aLen (m_all S) + 1))) 0 0 := by
  refine CtV.of (cc := cX8_writes) (maxL := 2) (ret := none) (by decide +kernel) rfl (Nat.le_of_ble_eq_true rfl) ?_
  intro p e s m args below meth c ls A hC hr hlk hin hK hA hX hl
  have hl : lv_has ls 2 [(0, .ref (am 0)), (1, .int (nI (c0)))] := hl
  refine lv_aload_n hC.1 hC.2.1 dX8_writes_0 rfl (lv_at hl 0 rfl) ?_
  refine g_m_all hC fi_X8_writes_X8 hK hX (wd9 hC 1 rfl) dX8_writes_1 ?_
  refine lv_iconst (v := nI (3)) hC.1 hC.2.1 dX8_writes_4 rfl ?_
  refine lv_aload_n hC.1 hC.2.1 dX8_writes_5 rfl (lv_at hl 0 rfl) ?_
  refine g_m_all hC fi_X8_writes_X8 hK hX (wd9 hC 1 rfl) dX8_writes_6 ?_
  refine lv_iconst (v := nI (0)) hC.1 hC.2.1 dX8_writes_9 rfl ?_
  refine l_m_all hC hK hX (i := 0) (by decide) dX8_writes_10 (v := aLen (m_all S)) rfl ?_
  refine n_add hC (a := 3) (b := aLen (m_all S)) dX8_writes_11 ?_
  refine lv_iload_n hC.1 hC.2.1 dX8_writes_12 rfl (lv_at hl 1 rfl) ?_
  refine s_m_all hC hK hX (i := (3) + (aLen (m_all S))) (v := c0) (by omega) dX8_writes_13 (fun H locs hX => ?_)
  replace hX : HH G A s.heap (wM G am (w_all (S) (va_up (m_all S) ((3) + (aLen (m_all S))) (c0)))) H locs := hX
  refine lv_aload_n hC.1 hC.2.1 dX8_writes_14 rfl (lv_at hl 0 rfl) ?_
  refine g_m_all hC fi_X8_writes_X8 hK hX (wd9 hC 1 rfl) dX8_writes_15 ?_
  refine lv_iconst (v := nI (0)) hC.1 hC.2.1 dX8_writes_18 rfl ?_
  refine lv_dup2_11 hC.1 hC.2.1 dX8_writes_19 rfl rfl ?_
  refine l_m_all hC hK hX (i := 0) (by decide) dX8_writes_20 (v := aLen (m_all S)) (va_up_ne _ _ (by omega)) ?_
  refine lv_iconst (v := nI (1)) hC.1 hC.2.1 dX8_writes_21 rfl ?_
  refine n_add hC (a := aLen (m_all S)) (b := 1) dX8_writes_22 ?_
  refine s_m_all hC hK hX (i := 0) (v := (aLen (m_all S)) + (1)) (by decide) dX8_writes_23 (fun H locs hX => ?_)
  replace hX : HH G A s.heap (wM G am (w_all (S) (va_up (va_up (m_all S) ((3) + (aLen (m_all S))) (c0)) (0) ((aLen (m_all S)) + (1))))) H locs := hX
  refine r_return hC hr hlk hX dX8_writes_24 ?_
  exact rfl
theorem fi_X8_reads_X8 : ∀ w ∈ wsX80, w ∈ wsX8_reads := by decide +kernel
set_option maxHeartbeats 4000000 in
set_option maxRecDepth 100000 in
theorem c_X8_reads (l : Launch) (G : GX) (am : Nat → Nat) (S : MS) (v0 : Nat) (hr0 : m_readPlaces S < 60) : CtV l yX8_reads wsX8_reads { frames := 0, cells := 0, slots := 0, locals := 0 } G (wM G am) (S) [.ref (am 0), .int (nI (v0))] (fun S' => S' = w_readPlaces (w_readTakes S (va_up (m_readTakes S) (m_readPlaces S) v0)) (m_readPlaces S + 1)) 0 0 := by
  refine CtV.of (cc := cX8_reads) (maxL := 2) (ret := none) (by decide +kernel) rfl (Nat.le_of_ble_eq_true rfl) ?_
  intro p e s m args below meth c ls A hC hr hlk hin hK hA hX hl
  have hl : lv_has ls 2 [(0, .ref (am 0)), (1, .int (nI (v0)))] := hl
  refine lv_aload_n hC.1 hC.2.1 dX8_reads_0 rfl (lv_at hl 0 rfl) ?_
  refine g_m_readTakes hC fi_X8_reads_X8 hK hX (wd9 hC 1 rfl) dX8_reads_1 ?_
  refine lv_aload_n hC.1 hC.2.1 dX8_reads_4 rfl (lv_at hl 0 rfl) ?_
  refine g_m_readPlaces hC fi_X8_reads_X8 hK hX (wd9 hC 2 rfl) dX8_reads_5 (v := m_readPlaces S) rfl ?_
  refine lv_iload_n hC.1 hC.2.1 dX8_reads_8 rfl (lv_at hl 1 rfl) ?_
  refine s_m_readTakes hC hK hX (i := m_readPlaces S) (v := v0) (by omega) dX8_reads_9 (fun H locs hX => ?_)
  replace hX : HH G A s.heap (wM G am (w_readTakes (S) (va_up (m_readTakes S) (m_readPlaces S) (v0)))) H locs := hX
  refine lv_aload_n hC.1 hC.2.1 dX8_reads_10 rfl (lv_at hl 0 rfl) ?_
  refine lv_dup hC.1 hC.2.1 dX8_reads_11 rfl ?_
  refine g_m_readPlaces hC fi_X8_reads_X8 hK hX (wd9 hC 2 rfl) dX8_reads_12 (v := m_readPlaces S) rfl ?_
  refine lv_iconst (v := nI (1)) hC.1 hC.2.1 dX8_reads_15 rfl ?_
  refine n_add hC (a := m_readPlaces S) (b := 1) dX8_reads_16 ?_
  refine p_m_readPlaces hC fi_X8_reads_X8 hK hX (v := (m_readPlaces S) + (1)) (wd9 hC 2 rfl) dX8_reads_17 (fun H locs hX => ?_)
  replace hX : HH G A s.heap (wM G am (w_readTakes (w_readPlaces (S) ((m_readPlaces S) + (1))) (va_up (m_readTakes S) (m_readPlaces S) (v0)))) H locs := hX
  refine r_return hC hr hlk hX dX8_reads_20 ?_
  exact rfl
theorem hd_X8_places : yX8_places.cls = RX8 ∧ yX8_places.cls ≠ "java/lang/invoke/MethodHandle" ∧ yX8_places.cls ≠ "java/lang/invoke/VarHandle" ∧ (parseMethodDescriptor yX8_places.desc).map (fun d => d.parameters.length) = some 1 := by decide +kernel
theorem fi_X8_finds_X8 : ∀ w ∈ wsX80, w ∈ wsX8_finds := by decide +kernel
theorem hd_X8_isTaken : yX8_isTaken.cls = RX8 ∧ yX8_isTaken.cls ≠ "java/lang/invoke/MethodHandle" ∧ yX8_isTaken.cls ≠ "java/lang/invoke/VarHandle" ∧ (parseMethodDescriptor yX8_isTaken.desc).map (fun d => d.parameters.length) = some 3 := by decide +kernel
theorem hd_X8_tries : yX8_tries.cls = RX8 ∧ yX8_tries.cls ≠ "java/lang/invoke/MethodHandle" ∧ yX8_tries.cls ≠ "java/lang/invoke/VarHandle" ∧ (parseMethodDescriptor yX8_tries.desc).map (fun d => d.parameters.length) = some 3 := by decide +kernel
theorem hd_X8_mayBegin : yX8_mayBegin.cls = RX8 ∧ yX8_mayBegin.cls ≠ "java/lang/invoke/MethodHandle" ∧ yX8_mayBegin.cls ≠ "java/lang/invoke/VarHandle" ∧ (parseMethodDescriptor yX8_mayBegin.desc).map (fun d => d.parameters.length) = some 2 := by decide +kernel
set_option maxHeartbeats 4000000 in
set_option maxRecDepth 100000 in
theorem c_X8_finds (l : Launch) (G : GX) (am : Nat → Nat) (S : MS) (p0 : Nat) (hp0 : p0 < 6) (hpl : aPl (m_all S) p0 ≤ 60) (hln : aLen (m_all S) ≤ 120) (hT0 : ∀ i, i < 120 → aTx (m_all S) i < 27) (hB0 : aBd (m_all S) p0 < 2 ^ 31) (hK0 : ∀ j, j < 60 → aTk (m_all S) p0 j < 2 ^ 31) : CtV l yX8_finds wsX8_finds { frames := 2, cells := 0, slots := 0, locals := 45 } G (wM G am) (S) [.ref (am 0), .int (nI (p0))] (fun S' => ∃ f g, S' = w_begin (w_fewest S f) g ∧ ∀ i ee, i ≤ aPl (m_all S) p0 → ee ≤ aLen (m_all S) → cellK f g (121 * i + ee) (kcol (aTt (m_all S) p0) (aMb (m_all S) p0) ee i)) 0 0 := by
  refine CtV.of (cc := cX8_finds) (maxL := 5) (ret := none) (by decide +kernel) rfl (Nat.le_of_ble_eq_true rfl) ?_
  intro p e s m args below meth c ls A hC hr hlk hin hK hA hX hl
  have hl : lv_has ls 5 [(0, .ref (am 0)), (1, .int (nI (p0)))] := hl
  have hkl := kcol_le (aTt (m_all S) p0) (aMb (m_all S) p0)
  refine lv_iconst (v := nI (0)) hC.1 hC.2.1 dX8_finds_0 rfl ?_
  refine lv_istore_n (lv' := [(2, .int (nI (0))), (0, .ref (am 0)), (1, .int (nI (p0)))]) hC.1 hC.2.1 dX8_finds_1 rfl hl (by decide) rfl (fun ls hl => ?_)
  have loop2 : ∀ (n9 : Nat) (i : Nat) (f : Nat → Nat) (g : Nat → Int32), (i ≤ aPl (m_all S) p0 + 1) → (∀ j ee, j < i → ee ≤ aLen (m_all S) → cellK f g (121 * j + ee) (kcol (aTt (m_all S) p0) (aMb (m_all S) p0) ee j)) → aPl (m_all S) p0 + 1 - i < n9 → ∀ (H : Heap) (locs : List Loc) (ls : Array Slot), HH G A s.heap (wM G am (w_begin (w_fewest (S) (f)) (g))) H locs → lv_has ls 5 [(2, .int (nI (i))), (0, .ref (am 0)), (1, .int (nI (p0)))] → W p l e { frames := 2, cells := 0, slots := 0, locals := 45 } s m args below meth c H locs 0 0 (EndV G (wM G am) A (fun S' => ∃ f g, S' = w_begin (w_fewest S f) g ∧ ∀ i ee, i ≤ aPl (m_all S) p0 → ee ≤ aLen (m_all S) → cellK f g (121 * i + ee) (kcol (aTt (m_all S) p0) (aMb (m_all S) p0) ee i)) below args s 0 0) (F0 m 2 ls []) := by
    intro n9
    induction n9 with
    | zero => intro i f g hi hin hn9; exact absurd hn9 (Nat.not_lt_zero _)
    | succ n9 ih2 =>
      intro i f g hi hin hn9 H locs ls hX hl
      refine lv_iload_n hC.1 hC.2.1 dX8_finds_2 rfl (lv_at hl 0 rfl) ?_
      refine lv_aload_n hC.1 hC.2.1 dX8_finds_3 rfl (lv_at hl 1 rfl) ?_
      refine lv_iload_n hC.1 hC.2.1 dX8_finds_4 rfl (lv_at hl 2 rfl) ?_
      refine cv_I (As := [.int (nI (p0))]) (rest := [.int (nI (i))]) hC hK hA hX (c_X8_places l G am (w_begin (w_fewest (S) (f)) (g)) (p0) (by omega)) (cwV 1 hC.2.2.2.2 gX8_finds_X8_places rfl rfl rfl hd_X8_places ⟨Nat.le_of_ble_eq_true rfl, Nat.le_of_ble_eq_true rfl⟩) (ci := 8) (q := (RX8, TX8, 21)) rfl (q0 := 0) rfl dX8_finds_5 rfl hl.1 rfl (Nat.le_of_ble_eq_true rfl) ⟨(Nat.zero_le _), (Nat.zero_le _)⟩ (fun r9 S9 H locs hp9 hX => ?_)
      obtain ⟨rfl, hS9⟩ := hp9
      rw [hS9] at hX
      replace hX : HH G A s.heap (wM G am (w_begin (w_fewest (S) (f)) (g))) H locs := hX
      refine n_icmp_gt hC (a := i) (b := aPl (m_all S) (p0)) (tgt := 203) dX8_finds_8 (by decide) (by omega) (by omega) (fun c8 => ?_) (fun c8 => ?_)
      · skip
        refine r_return hC hr hlk hX dX8_finds_203 ?_
        exact ⟨f, g, rfl, fun j e9 h1 h2 => hin j e9 (by omega) h2⟩
      · skip
        refine lv_iconst (v := nI (0)) hC.1 hC.2.1 dX8_finds_11 rfl ?_
        refine lv_istore_n (lv' := [(3, .int (nI (0))), (2, .int (nI (i))), (0, .ref (am 0)), (1, .int (nI (p0)))]) hC.1 hC.2.1 dX8_finds_12 rfl hl (by decide) rfl (fun ls hl => ?_)
        have loop13 : ∀ (n9 : Nat) (ee : Nat) (f2 : Nat → Nat) (g2 : Nat → Int32), (ee ≤ aLen (m_all S) + 1) → (∀ j ee, j < i → ee ≤ aLen (m_all S) → cellK f2 g2 (121 * j + ee) (kcol (aTt (m_all S) p0) (aMb (m_all S) p0) ee j)) → (∀ e9, e9 < ee → cellK f2 g2 (121 * i + e9) (kcol (aTt (m_all S) p0) (aMb (m_all S) p0) e9 i)) → aLen (m_all S) + 1 - ee < n9 → ∀ (H : Heap) (locs : List Loc) (ls : Array Slot), HH G A s.heap (wM G am (w_begin (w_fewest (S) (f2)) (g2))) H locs → lv_has ls 5 [(3, .int (nI (ee))), (2, .int (nI (i))), (0, .ref (am 0)), (1, .int (nI (p0)))] → W p l e { frames := 2, cells := 0, slots := 0, locals := 45 } s m args below meth c H locs 0 0 (EndV G (wM G am) A (fun S' => ∃ f g, S' = w_begin (w_fewest S f) g ∧ ∀ i ee, i ≤ aPl (m_all S) p0 → ee ≤ aLen (m_all S) → cellK f g (121 * i + ee) (kcol (aTt (m_all S) p0) (aMb (m_all S) p0) ee i)) below args s 0 0) (F0 m 13 ls []) := by
          intro n9
          induction n9 with
          | zero => intro ee f2 g2 he hin2 hrow hn9; exact absurd hn9 (Nat.not_lt_zero _)
          | succ n9 ih13 =>
            intro ee f2 g2 he hin2 hrow hn9 H locs ls hX hl
            refine lv_iload_n hC.1 hC.2.1 dX8_finds_13 rfl (lv_at hl 0 rfl) ?_
            refine lv_aload_n hC.1 hC.2.1 dX8_finds_14 rfl (lv_at hl 2 rfl) ?_
            refine g_m_all hC fi_X8_finds_X8 hK hX (wd9 hC 1 rfl) dX8_finds_15 ?_
            refine lv_iconst (v := nI (0)) hC.1 hC.2.1 dX8_finds_18 rfl ?_
            refine l_m_all hC hK hX (i := 0) (by decide) dX8_finds_19 (v := aLen (m_all S)) rfl ?_
            refine n_icmp_gt hC (a := ee) (b := aLen (m_all S)) (tgt := 197) dX8_finds_20 (by decide) (by omega) (by omega) (fun c20 => ?_) (fun c20 => ?_)
            · skip
              refine lv_iinc (v := nI (i + 1)) (lv' := [(2, .int (nI (i + 1))), (3, .int (nI (ee))), (0, .ref (am 0)), (1, .int (nI (p0)))]) hC.1 hC.2.1 dX8_finds_197 hl (k := 1) rfl (n_inc1 _) (by decide) rfl (fun ls hl => ?_)
              refine lv_goto (tgt := 2) hC.1 hC.2.1 dX8_finds_200 (by decide) ?_
              refine ih2 (i + 1) (f2) (g2) ?_ ?_ ?_ _ _ ls hX (lv_sub hl [0, 2, 3] rfl)
              · omega
              · exact fun j e9 h1 h2 => by
                  by_cases h : j = i
                  · subst h; exact hrow e9 (by omega)
                  · exact hin2 j e9 (by omega) h2
              · omega
            · skip
              have hL1 : 0 < ee → cellK f2 g2 (121 * i + ee - 1) (kcol (aTt (m_all S) p0) (aMb (m_all S) p0) (ee - 1) i) := fun h => by
                have h9 := hrow (ee - 1) (by omega)
                rwa [show 121 * i + (ee - 1) = 121 * i + ee - 1 by omega] at h9
              have hU : 0 < i → cellK f2 g2 (121 * i + ee - 121) (kcol (aTt (m_all S) p0) (aMb (m_all S) p0) ee (i - 1)) := fun h => by
                have h9 := hin2 (i - 1) ee (by omega) (by omega)
                rwa [show 121 * (i - 1) + ee = 121 * i + ee - 121 by omega] at h9
              have hD : 0 < i → 0 < ee → cellK f2 g2 (121 * i + ee - 121 - 1) (kcol (aTt (m_all S) p0) (aMb (m_all S) p0) (ee - 1) (i - 1)) := fun h h0 => by
                have h9 := hin2 (i - 1) (ee - 1) (by omega) (by omega)
                rwa [show 121 * (i - 1) + (ee - 1) = 121 * i + ee - 121 - 1 by omega] at h9
              have hq1 := hkl (ee - 1) i
              have hq2 := hkl ee (i - 1)
              have hq3 := hkl (ee - 1) (i - 1)
              refine lv_bipush (v := nI (121)) hC.1 hC.2.1 dX8_finds_23 (by decide +kernel) ?_
              refine lv_iload_n hC.1 hC.2.1 dX8_finds_25 rfl (lv_at hl 1 rfl) ?_
              refine n_mul hC (a := 121) (b := i) dX8_finds_26 ?_
              refine lv_iload_n hC.1 hC.2.1 dX8_finds_27 rfl (lv_at hl 0 rfl) ?_
              refine n_add hC (a := 121 * i) (b := ee) dX8_finds_28 ?_
              refine n_top (y := nI (121 * i + ee)) rfl ?_
              refine lv_istore (lv' := [(4, .int (nI (121 * i + ee))), (3, .int (nI (ee))), (2, .int (nI (i))), (0, .ref (am 0)), (1, .int (nI (p0)))]) hC.1 hC.2.1 dX8_finds_29 hl (by decide) rfl (fun ls hl => ?_)
              refine lv_aload_n hC.1 hC.2.1 dX8_finds_31 rfl (lv_at hl 3 rfl) ?_
              refine g_m_fewest hC fi_X8_finds_X8 hK hX (wd9 hC 2 rfl) dX8_finds_32 ?_
              refine lv_iload hC.1 hC.2.1 dX8_finds_35 (lv_at hl 0 rfl) ?_
              refine lv_sipush (v := nI (1000)) hC.1 hC.2.1 dX8_finds_37 (by decide +kernel) ?_
              refine s_m_fewest hC hK hX (i := 121 * i + ee) (v := 1000) (by omega) dX8_finds_40 (fun H locs hX => ?_)
              replace hX : HH G A s.heap (wM G am (w_begin (w_fewest (S) (va_up (f2) (121 * i + ee) (1000))) (g2))) H locs := hX
              refine lv_aload_n hC.1 hC.2.1 dX8_finds_41 rfl (lv_at hl 3 rfl) ?_
              refine g_m_begin hC fi_X8_finds_X8 hK hX (wd9 hC 3 rfl) dX8_finds_42 ?_
              refine lv_iload hC.1 hC.2.1 dX8_finds_45 (lv_at hl 0 rfl) ?_
              refine lv_bipush (v := (-5)) hC.1 hC.2.1 dX8_finds_47 (by decide +kernel) ?_
              refine s_m_begin hC hK hX (i := 121 * i + ee) (v := (-5)) (by omega) dX8_finds_49 (fun H locs hX => ?_)
              replace hX : HH G A s.heap (wM G am (w_begin (w_fewest (S) (va_up (f2) (121 * i + ee) (1000))) (upd (g2) (121 * i + ee) ((-5))))) H locs := hX
              have hin0 : cellO (va_up f2 (121 * i + ee) 1000) (upd g2 (121 * i + ee) (-5)) (121 * i + ee) none := ⟨va_up_self _ _ _, pk_us⟩
              have hoo0 : ∀ j, j ≠ 121 * i + ee → va_up f2 (121 * i + ee) 1000 j = f2 j ∧ upd g2 (121 * i + ee) (-5) j = g2 j := fun j hj => ⟨va_up_ne _ _ hj, pk_un hj⟩
              refine lv_iload_n hC.1 hC.2.1 dX8_finds_50 rfl (lv_at hl 2 rfl) ?_
              refine n_if_ne hC (a := i) (tgt := 71) dX8_finds_51 (by decide) (by omega) (fun c51 => ?_) (fun c51 => ?_)
              · skip
                refine lv_iload_n hC.1 hC.2.1 dX8_finds_71 rfl (lv_at hl 1 rfl) ?_
                refine n_if_le hC (a := ee) (tgt := 101) dX8_finds_72 (by decide) (by omega) (fun c72 => ?_) (fun c72 => ?_)
                · skip
                  refine lv_iload_n hC.1 hC.2.1 dX8_finds_101 rfl (lv_at hl 2 rfl) ?_
                  refine n_if_le hC (a := i) (tgt := 133) dX8_finds_102 (by decide) (by omega) (fun c102 => ?_) (fun c102 => ?_)
                  · skip
                    refine lv_iload_n hC.1 hC.2.1 dX8_finds_133 rfl (lv_at hl 2 rfl) ?_
                    refine n_if_le hC (a := i) (tgt := 191) dX8_finds_134 (by decide) (by omega) (fun c134 => ?_) (fun c134 => ?_)
                    · skip
                      refine lv_iinc (v := nI (ee + 1)) (lv' := [(3, .int (nI (ee + 1))), (4, .int (nI (121 * i + ee))), (2, .int (nI (i))), (0, .ref (am 0)), (1, .int (nI (p0)))]) hC.1 hC.2.1 dX8_finds_191 hl (k := 1) rfl (n_inc1 _) (by decide) rfl (fun ls hl => ?_)
                      refine lv_goto (tgt := 13) hC.1 hC.2.1 dX8_finds_194 (by decide) ?_
                      have hkfin : False := by
                        first
                        | omega
                        | (obtain rfl : ee = 0 := by omega
                           have h9 := aMb_0 (m_all S) p0
                           simp_all)
                      refine ih13 (ee + 1) (va_up (f2) (121 * i + ee) (1000)) (upd (g2) (121 * i + ee) ((-5))) ?_ ?_ ?_ ?_ _ _ ls hX (lv_sub hl [0, 2, 3, 4] rfl)
                      · omega
                      · exact hkfin.elim
                      · exact hkfin.elim
                      · omega
                    · skip
                      refine lv_iload_n hC.1 hC.2.1 dX8_finds_137 rfl (lv_at hl 1 rfl) ?_
                      refine n_if_le hC (a := ee) (tgt := 191) dX8_finds_138 (by decide) (by omega) (fun c138 => ?_) (fun c138 => ?_)
                      · skip
                        refine lv_iinc (v := nI (ee + 1)) (lv' := [(3, .int (nI (ee + 1))), (4, .int (nI (121 * i + ee))), (2, .int (nI (i))), (0, .ref (am 0)), (1, .int (nI (p0)))]) hC.1 hC.2.1 dX8_finds_191 hl (k := 1) rfl (n_inc1 _) (by decide) rfl (fun ls hl => ?_)
                        refine lv_goto (tgt := 13) hC.1 hC.2.1 dX8_finds_194 (by decide) ?_
                        have hkfin : False := by
                          first
                          | omega
                          | (obtain rfl : ee = 0 := by omega
                             have h9 := aMb_0 (m_all S) p0
                             simp_all)
                        refine ih13 (ee + 1) (va_up (f2) (121 * i + ee) (1000)) (upd (g2) (121 * i + ee) ((-5))) ?_ ?_ ?_ ?_ _ _ ls hX (lv_sub hl [0, 2, 3, 4] rfl)
                        · omega
                        · exact hkfin.elim
                        · exact hkfin.elim
                        · omega
                      · skip
                        refine lv_aload_n hC.1 hC.2.1 dX8_finds_141 rfl (lv_at hl 3 rfl) ?_
                        refine lv_iload hC.1 hC.2.1 dX8_finds_142 (lv_at hl 0 rfl) ?_
                        refine lv_aload_n hC.1 hC.2.1 dX8_finds_144 rfl (lv_at hl 3 rfl) ?_
                        refine g_m_fewest hC fi_X8_finds_X8 hK hX (wd9 hC 2 rfl) dX8_finds_145 ?_
                        refine lv_iload hC.1 hC.2.1 dX8_finds_148 (lv_at hl 0 rfl) ?_
                        refine lv_bipush (v := nI (121)) hC.1 hC.2.1 dX8_finds_150 (by decide +kernel) ?_
                        refine n_sub hC (a := 121 * i + ee) (b := 121) dX8_finds_152 (by omega) ?_
                        refine lv_iconst (v := nI (1)) hC.1 hC.2.1 dX8_finds_153 rfl ?_
                        refine n_sub hC (a := (121 * i + ee) - (121)) (b := 1) dX8_finds_154 (by omega) ?_
                        refine l_m_fewest hC hK hX (i := ((121 * i + ee) - (121)) - (1)) (by omega) dX8_finds_155 (v := kcol (aTt (m_all S) p0) (aMb (m_all S) p0) (ee - 1) (i - 1) / 128) ((hoo0 _ (by omega)).1.trans (hD (by omega) (by omega)).1) ?_
                        refine lv_aload_n hC.1 hC.2.1 dX8_finds_156 rfl (lv_at hl 3 rfl) ?_
                        refine lv_iload_n hC.1 hC.2.1 dX8_finds_157 rfl (lv_at hl 4 rfl) ?_
                        refine lv_iload_n hC.1 hC.2.1 dX8_finds_158 rfl (lv_at hl 2 rfl) ?_
                        refine lv_iconst (v := nI (1)) hC.1 hC.2.1 dX8_finds_159 rfl ?_
                        refine n_sub hC (a := i) (b := 1) dX8_finds_160 (by omega) ?_
                        refine lv_iload_n hC.1 hC.2.1 dX8_finds_161 rfl (lv_at hl 1 rfl) ?_
                        refine lv_iconst (v := nI (1)) hC.1 hC.2.1 dX8_finds_162 rfl ?_
                        refine n_sub hC (a := ee) (b := 1) dX8_finds_163 (by omega) ?_
                        refine cv_I (As := [.int (nI (p0)), .int (nI (i - 1)), .int (nI (ee - 1))]) (rest := [.int (nI (kcol (aTt (m_all S) p0) (aMb (m_all S) p0) (ee - 1) (i - 1) / 128)), .int (nI (121 * i + ee)), .ref (am 0)]) hC hK hA hX (c_X8_isTaken l G am (w_begin (w_fewest (S) (va_up (f2) (121 * i + ee) (1000))) (upd (g2) (121 * i + ee) ((-5)))) (p0) (i - 1) (ee - 1) hp0 (by omega) (by omega) (hT0 _ (by omega)) (hK0 _ (by omega))) (cwV 3 hC.2.2.2.2 gX8_finds_X8_isTaken rfl rfl rfl hd_X8_isTaken ⟨Nat.le_of_ble_eq_true rfl, Nat.le_of_ble_eq_true rfl⟩) (ci := 8) (q := (RX8, TX8, 21)) rfl (q0 := 0) rfl dX8_finds_164 rfl hl.1 rfl (Nat.le_of_ble_eq_true rfl) ⟨(Nat.zero_le _), (Nat.zero_le _)⟩ (fun r9 S9 H locs hp9 hX => ?_)
                        obtain ⟨rfl, hS9⟩ := hp9
                        rw [hS9] at hX
                        replace hX : HH G A s.heap (wM G am (w_begin (w_fewest (S) (va_up (f2) (121 * i + ee) (1000))) (upd (g2) (121 * i + ee) ((-5))))) H locs := hX
                        have join175 : ∀ (H : Heap) (locs : List Loc) (ls : Array Slot), HH G A s.heap (wM G am (w_begin (w_fewest (S) (va_up (f2) (121 * i + ee) (1000))) (upd (g2) (121 * i + ee) ((-5))))) H locs → lv_has ls 5 [(4, .int (nI (121 * i + ee))), (3, .int (nI (ee))), (2, .int (nI (i))), (0, .ref (am 0)), (1, .int (nI (p0)))] → W p l e { frames := 2, cells := 0, slots := 0, locals := 45 } s m args below meth c H locs 0 0 (EndV G (wM G am) A (fun S' => ∃ f g, S' = w_begin (w_fewest S f) g ∧ ∀ i ee, i ≤ aPl (m_all S) p0 → ee ≤ aLen (m_all S) → cellK f g (121 * i + ee) (kcol (aTt (m_all S) p0) (aMb (m_all S) p0) ee i)) below args s 0 0) (F0 m 175 ls [.int (nI (if aTt (m_all S) p0 (i - 1) (ee - 1) = true then 0 else 1)), .int (nI (kcol (aTt (m_all S) p0) (aMb (m_all S) p0) (ee - 1) (i - 1) / 128)), .int (nI (121 * i + ee)), .ref (am 0)]) := by
                          intro  H locs ls  hX hl
                          refine n_add hC (a := kcol (aTt (m_all S) p0) (aMb (m_all S) p0) (ee - 1) (i - 1) / 128) (b := if aTt (m_all S) p0 (i - 1) (ee - 1) = true then 0 else 1) dX8_finds_175 ?_
                          refine lv_aload_n hC.1 hC.2.1 dX8_finds_176 rfl (lv_at hl 3 rfl) ?_
                          refine g_m_begin hC fi_X8_finds_X8 hK hX (wd9 hC 3 rfl) dX8_finds_177 ?_
                          refine lv_iload hC.1 hC.2.1 dX8_finds_180 (lv_at hl 0 rfl) ?_
                          refine lv_bipush (v := nI (121)) hC.1 hC.2.1 dX8_finds_182 (by decide +kernel) ?_
                          refine n_sub hC (a := 121 * i + ee) (b := 121) dX8_finds_184 (by omega) ?_
                          refine lv_iconst (v := nI (1)) hC.1 hC.2.1 dX8_finds_185 rfl ?_
                          refine n_sub hC (a := (121 * i + ee) - (121)) (b := 1) dX8_finds_186 (by omega) ?_
                          refine l_m_begin hC hK hX (i := ((121 * i + ee) - (121)) - (1)) (by omega) dX8_finds_187 (v := nI (127 - kcol (aTt (m_all S) p0) (aMb (m_all S) p0) (ee - 1) (i - 1) % 128)) ((hoo0 _ (by omega)).2.trans (hD (by omega) (by omega)).2) ?_
                          refine cv_V (As := [.int (nI (121 * i + ee)), .int (nI ((kcol (aTt (m_all S) p0) (aMb (m_all S) p0) (ee - 1) (i - 1) / 128) + (if aTt (m_all S) p0 (i - 1) (ee - 1) = true then 0 else 1))), .int (nI (127 - kcol (aTt (m_all S) p0) (aMb (m_all S) p0) (ee - 1) (i - 1) % 128))]) (rest := []) hC hK hA hX (c_X8_tries l G am (w_begin (w_fewest (S) (va_up (f2) (121 * i + ee) (1000))) (upd (g2) (121 * i + ee) ((-5)))) (121 * i + ee) ((kcol (aTt (m_all S) p0) (aMb (m_all S) p0) (ee - 1) (i - 1) / 128) + (if aTt (m_all S) p0 (i - 1) (ee - 1) = true then 0 else 1)) (127 - kcol (aTt (m_all S) p0) (aMb (m_all S) p0) (ee - 1) (i - 1) % 128) (kcol (aTt (m_all S) p0) (aMb (m_all S) p0) (ee - 1) (i - 1) + if aTt (m_all S) p0 (i - 1) (ee - 1) = true then 0 else 128) (by split <;> omega) (by split <;> omega) (by omega) (by split <;> omega) none hin0 (show va_up f2 (121 * i + ee) 1000 (121 * i + ee) < 2 ^ 31 from by rw [va_up_self]; decide)) (cwV 3 hC.2.2.2.2 gX8_finds_X8_tries rfl rfl rfl hd_X8_tries ⟨Nat.le_of_ble_eq_true rfl, Nat.le_of_ble_eq_true rfl⟩) (ci := 8) (q := (RX8, TX8, 21)) rfl (q0 := 0) rfl dX8_finds_188 rfl hl.1 rfl (Nat.le_of_ble_eq_true rfl) ⟨(Nat.zero_le _), (Nat.zero_le _)⟩ (fun S9 H locs hp9 hX => ?_)
                          obtain ⟨f188, g188, hS9, hck188, hot188⟩ := hp9
                          rw [hS9] at hX
                          replace hX : HH G A s.heap (wM G am (w_begin (w_fewest (S) (f188)) (g188))) H locs := hX
                          obtain ⟨k188, hk188⟩ : ∃ k, k = optMin (none) (kcol (aTt (m_all S) p0) (aMb (m_all S) p0) (ee - 1) (i - 1) + if aTt (m_all S) p0 (i - 1) (ee - 1) = true then 0 else 128) := ⟨_, rfl⟩
                          replace hck188 : cellK f188 g188 (121 * i + ee) k188 := by rw [hk188]; exact hck188
                          have hkb188 : k188 < 100000 := by rw [hk188]; first | exact optMin_lt (by omega) | exact optMin_lt2 (by omega) (by omega) | exact optMin_lt (by split <;> omega) | exact optMin_lt2 (by omega) (by split <;> omega)
                          have hoo188 : ∀ j, j ≠ 121 * i + ee → f188 j = f2 j ∧ g188 j = g2 j := fun j hj => ⟨(hot188 j hj).1.trans (hoo0 j hj).1, (hot188 j hj).2.trans (hoo0 j hj).2⟩
                          refine lv_iinc (v := nI (ee + 1)) (lv' := [(3, .int (nI (ee + 1))), (4, .int (nI (121 * i + ee))), (2, .int (nI (i))), (0, .ref (am 0)), (1, .int (nI (p0)))]) hC.1 hC.2.1 dX8_finds_191 hl (k := 1) rfl (n_inc1 _) (by decide) rfl (fun ls hl => ?_)
                          refine lv_goto (tgt := 13) hC.1 hC.2.1 dX8_finds_194 (by decide) ?_
                          have hkfin : k188 = kcol (aTt (m_all S) p0) (aMb (m_all S) p0) ee i := by
                            first
                            | (exfalso; omega)
                            | (rw [hk188, hk130, hk98]
                               exact kfE (tk := aTt (m_all S) p0) (mb := aMb (m_all S) p0) (e := ee) (i := i) (by omega) (by omega))
                          refine ih13 (ee + 1) (f188) (g188) ?_ ?_ ?_ ?_ _ _ ls hX (lv_sub hl [0, 2, 3, 4] rfl)
                          · omega
                          · exact fun j e9 h1 h2 => by
                              have h3 := hoo188 (121 * j + e9) (by omega)
                              exact ⟨h3.1.trans (hin2 j e9 h1 h2).1, h3.2.trans (hin2 j e9 h1 h2).2⟩
                          · exact fun e9 h1 => by
                              by_cases h : e9 = ee
                              · subst h; rw [← hkfin]; exact hck188
                              · have h3 := hoo188 (121 * i + e9) (by omega)
                                exact ⟨h3.1.trans (hrow e9 (by omega)).1, h3.2.trans (hrow e9 (by omega)).2⟩
                          · omega
                        refine b_if_eq hC (b := aTt (m_all S) (p0) (i - 1) (ee - 1)) (tgt := 174) dX8_finds_167 (by decide) (fun c167 => ?_) (fun c167 => ?_)
                        · skip
                          refine lv_iconst (v := nI (1)) hC.1 hC.2.1 dX8_finds_174 rfl ?_
                          refine n_top (y := nI (if aTt (m_all S) p0 (i - 1) (ee - 1) = true then 0 else 1)) (by first | rw [if_pos (by assumption)] | rw [if_neg (by simp_all)]) ?_
                          refine join175  _ _ ls  hX (lv_sub hl [0, 1, 2, 3, 4] rfl)
                        · skip
                          refine lv_iconst (v := nI (0)) hC.1 hC.2.1 dX8_finds_170 rfl ?_
                          refine lv_goto (tgt := 175) hC.1 hC.2.1 dX8_finds_171 (by decide) ?_
                          refine n_top (y := nI (if aTt (m_all S) p0 (i - 1) (ee - 1) = true then 0 else 1)) (by first | rw [if_pos (by assumption)] | rw [if_neg (by simp_all)]) ?_
                          refine join175  _ _ ls  hX (lv_sub hl [0, 1, 2, 3, 4] rfl)
                  · skip
                    refine lv_aload_n hC.1 hC.2.1 dX8_finds_105 rfl (lv_at hl 3 rfl) ?_
                    refine lv_iload hC.1 hC.2.1 dX8_finds_106 (lv_at hl 0 rfl) ?_
                    refine lv_aload_n hC.1 hC.2.1 dX8_finds_108 rfl (lv_at hl 3 rfl) ?_
                    refine g_m_fewest hC fi_X8_finds_X8 hK hX (wd9 hC 2 rfl) dX8_finds_109 ?_
                    refine lv_iload hC.1 hC.2.1 dX8_finds_112 (lv_at hl 0 rfl) ?_
                    refine lv_bipush (v := nI (121)) hC.1 hC.2.1 dX8_finds_114 (by decide +kernel) ?_
                    refine n_sub hC (a := 121 * i + ee) (b := 121) dX8_finds_116 (by omega) ?_
                    refine l_m_fewest hC hK hX (i := (121 * i + ee) - (121)) (by omega) dX8_finds_117 (v := kcol (aTt (m_all S) p0) (aMb (m_all S) p0) ee (i - 1) / 128) ((hoo0 _ (by omega)).1.trans (hU (by omega)).1) ?_
                    refine lv_iconst (v := nI (1)) hC.1 hC.2.1 dX8_finds_118 rfl ?_
                    refine n_add hC (a := kcol (aTt (m_all S) p0) (aMb (m_all S) p0) ee (i - 1) / 128) (b := 1) dX8_finds_119 ?_
                    refine lv_aload_n hC.1 hC.2.1 dX8_finds_120 rfl (lv_at hl 3 rfl) ?_
                    refine g_m_begin hC fi_X8_finds_X8 hK hX (wd9 hC 3 rfl) dX8_finds_121 ?_
                    refine lv_iload hC.1 hC.2.1 dX8_finds_124 (lv_at hl 0 rfl) ?_
                    refine lv_bipush (v := nI (121)) hC.1 hC.2.1 dX8_finds_126 (by decide +kernel) ?_
                    refine n_sub hC (a := 121 * i + ee) (b := 121) dX8_finds_128 (by omega) ?_
                    refine l_m_begin hC hK hX (i := (121 * i + ee) - (121)) (by omega) dX8_finds_129 (v := nI (127 - kcol (aTt (m_all S) p0) (aMb (m_all S) p0) ee (i - 1) % 128)) ((hoo0 _ (by omega)).2.trans (hU (by omega)).2) ?_
                    refine cv_V (As := [.int (nI (121 * i + ee)), .int (nI ((kcol (aTt (m_all S) p0) (aMb (m_all S) p0) ee (i - 1) / 128) + (1))), .int (nI (127 - kcol (aTt (m_all S) p0) (aMb (m_all S) p0) ee (i - 1) % 128))]) (rest := []) hC hK hA hX (c_X8_tries l G am (w_begin (w_fewest (S) (va_up (f2) (121 * i + ee) (1000))) (upd (g2) (121 * i + ee) ((-5)))) (121 * i + ee) ((kcol (aTt (m_all S) p0) (aMb (m_all S) p0) ee (i - 1) / 128) + (1)) (127 - kcol (aTt (m_all S) p0) (aMb (m_all S) p0) ee (i - 1) % 128) (kcol (aTt (m_all S) p0) (aMb (m_all S) p0) ee (i - 1) + 128) (by omega) (by omega) (by omega) (by omega) none hin0 (show va_up f2 (121 * i + ee) 1000 (121 * i + ee) < 2 ^ 31 from by rw [va_up_self]; decide)) (cwV 3 hC.2.2.2.2 gX8_finds_X8_tries rfl rfl rfl hd_X8_tries ⟨Nat.le_of_ble_eq_true rfl, Nat.le_of_ble_eq_true rfl⟩) (ci := 8) (q := (RX8, TX8, 21)) rfl (q0 := 0) rfl dX8_finds_130 rfl hl.1 rfl (Nat.le_of_ble_eq_true rfl) ⟨(Nat.zero_le _), (Nat.zero_le _)⟩ (fun S9 H locs hp9 hX => ?_)
                    obtain ⟨f130, g130, hS9, hck130, hot130⟩ := hp9
                    rw [hS9] at hX
                    replace hX : HH G A s.heap (wM G am (w_begin (w_fewest (S) (f130)) (g130))) H locs := hX
                    obtain ⟨k130, hk130⟩ : ∃ k, k = optMin (none) (kcol (aTt (m_all S) p0) (aMb (m_all S) p0) ee (i - 1) + 128) := ⟨_, rfl⟩
                    replace hck130 : cellK f130 g130 (121 * i + ee) k130 := by rw [hk130]; exact hck130
                    have hkb130 : k130 < 100000 := by rw [hk130]; first | exact optMin_lt (by omega) | exact optMin_lt2 (by omega) (by omega) | exact optMin_lt (by split <;> omega) | exact optMin_lt2 (by omega) (by split <;> omega)
                    have hoo130 : ∀ j, j ≠ 121 * i + ee → f130 j = f2 j ∧ g130 j = g2 j := fun j hj => ⟨(hot130 j hj).1.trans (hoo0 j hj).1, (hot130 j hj).2.trans (hoo0 j hj).2⟩
                    refine lv_iload_n hC.1 hC.2.1 dX8_finds_133 rfl (lv_at hl 2 rfl) ?_
                    refine n_if_le hC (a := i) (tgt := 191) dX8_finds_134 (by decide) (by omega) (fun c134 => ?_) (fun c134 => ?_)
                    · skip
                      refine lv_iinc (v := nI (ee + 1)) (lv' := [(3, .int (nI (ee + 1))), (4, .int (nI (121 * i + ee))), (2, .int (nI (i))), (0, .ref (am 0)), (1, .int (nI (p0)))]) hC.1 hC.2.1 dX8_finds_191 hl (k := 1) rfl (n_inc1 _) (by decide) rfl (fun ls hl => ?_)
                      refine lv_goto (tgt := 13) hC.1 hC.2.1 dX8_finds_194 (by decide) ?_
                      have hkfin : k130 = kcol (aTt (m_all S) p0) (aMb (m_all S) p0) ee i := by
                        first
                        | (exfalso; omega)
                        | (obtain rfl : ee = 0 := by omega
                           exact hk130.trans (kfD (tk := aTt (m_all S) p0) (mb := aMb (m_all S) p0) (i := i) (by omega)))
                      refine ih13 (ee + 1) (f130) (g130) ?_ ?_ ?_ ?_ _ _ ls hX (lv_sub hl [0, 2, 3, 4] rfl)
                      · omega
                      · exact fun j e9 h1 h2 => by
                          have h3 := hoo130 (121 * j + e9) (by omega)
                          exact ⟨h3.1.trans (hin2 j e9 h1 h2).1, h3.2.trans (hin2 j e9 h1 h2).2⟩
                      · exact fun e9 h1 => by
                          by_cases h : e9 = ee
                          · subst h; rw [← hkfin]; exact hck130
                          · have h3 := hoo130 (121 * i + e9) (by omega)
                            exact ⟨h3.1.trans (hrow e9 (by omega)).1, h3.2.trans (hrow e9 (by omega)).2⟩
                      · omega
                    · skip
                      refine lv_iload_n hC.1 hC.2.1 dX8_finds_137 rfl (lv_at hl 1 rfl) ?_
                      refine n_if_le hC (a := ee) (tgt := 191) dX8_finds_138 (by decide) (by omega) (fun c138 => ?_) (fun c138 => ?_)
                      · skip
                        refine lv_iinc (v := nI (ee + 1)) (lv' := [(3, .int (nI (ee + 1))), (4, .int (nI (121 * i + ee))), (2, .int (nI (i))), (0, .ref (am 0)), (1, .int (nI (p0)))]) hC.1 hC.2.1 dX8_finds_191 hl (k := 1) rfl (n_inc1 _) (by decide) rfl (fun ls hl => ?_)
                        refine lv_goto (tgt := 13) hC.1 hC.2.1 dX8_finds_194 (by decide) ?_
                        have hkfin : k130 = kcol (aTt (m_all S) p0) (aMb (m_all S) p0) ee i := by
                          first
                          | (exfalso; omega)
                          | (obtain rfl : ee = 0 := by omega
                             exact hk130.trans (kfD (tk := aTt (m_all S) p0) (mb := aMb (m_all S) p0) (i := i) (by omega)))
                        refine ih13 (ee + 1) (f130) (g130) ?_ ?_ ?_ ?_ _ _ ls hX (lv_sub hl [0, 2, 3, 4] rfl)
                        · omega
                        · exact fun j e9 h1 h2 => by
                            have h3 := hoo130 (121 * j + e9) (by omega)
                            exact ⟨h3.1.trans (hin2 j e9 h1 h2).1, h3.2.trans (hin2 j e9 h1 h2).2⟩
                        · exact fun e9 h1 => by
                            by_cases h : e9 = ee
                            · subst h; rw [← hkfin]; exact hck130
                            · have h3 := hoo130 (121 * i + e9) (by omega)
                              exact ⟨h3.1.trans (hrow e9 (by omega)).1, h3.2.trans (hrow e9 (by omega)).2⟩
                        · omega
                      · skip
                        refine lv_aload_n hC.1 hC.2.1 dX8_finds_141 rfl (lv_at hl 3 rfl) ?_
                        refine lv_iload hC.1 hC.2.1 dX8_finds_142 (lv_at hl 0 rfl) ?_
                        refine lv_aload_n hC.1 hC.2.1 dX8_finds_144 rfl (lv_at hl 3 rfl) ?_
                        refine g_m_fewest hC fi_X8_finds_X8 hK hX (wd9 hC 2 rfl) dX8_finds_145 ?_
                        refine lv_iload hC.1 hC.2.1 dX8_finds_148 (lv_at hl 0 rfl) ?_
                        refine lv_bipush (v := nI (121)) hC.1 hC.2.1 dX8_finds_150 (by decide +kernel) ?_
                        refine n_sub hC (a := 121 * i + ee) (b := 121) dX8_finds_152 (by omega) ?_
                        refine lv_iconst (v := nI (1)) hC.1 hC.2.1 dX8_finds_153 rfl ?_
                        refine n_sub hC (a := (121 * i + ee) - (121)) (b := 1) dX8_finds_154 (by omega) ?_
                        refine l_m_fewest hC hK hX (i := ((121 * i + ee) - (121)) - (1)) (by omega) dX8_finds_155 (v := kcol (aTt (m_all S) p0) (aMb (m_all S) p0) (ee - 1) (i - 1) / 128) ((hoo130 _ (by omega)).1.trans (hD (by omega) (by omega)).1) ?_
                        refine lv_aload_n hC.1 hC.2.1 dX8_finds_156 rfl (lv_at hl 3 rfl) ?_
                        refine lv_iload_n hC.1 hC.2.1 dX8_finds_157 rfl (lv_at hl 4 rfl) ?_
                        refine lv_iload_n hC.1 hC.2.1 dX8_finds_158 rfl (lv_at hl 2 rfl) ?_
                        refine lv_iconst (v := nI (1)) hC.1 hC.2.1 dX8_finds_159 rfl ?_
                        refine n_sub hC (a := i) (b := 1) dX8_finds_160 (by omega) ?_
                        refine lv_iload_n hC.1 hC.2.1 dX8_finds_161 rfl (lv_at hl 1 rfl) ?_
                        refine lv_iconst (v := nI (1)) hC.1 hC.2.1 dX8_finds_162 rfl ?_
                        refine n_sub hC (a := ee) (b := 1) dX8_finds_163 (by omega) ?_
                        refine cv_I (As := [.int (nI (p0)), .int (nI (i - 1)), .int (nI (ee - 1))]) (rest := [.int (nI (kcol (aTt (m_all S) p0) (aMb (m_all S) p0) (ee - 1) (i - 1) / 128)), .int (nI (121 * i + ee)), .ref (am 0)]) hC hK hA hX (c_X8_isTaken l G am (w_begin (w_fewest (S) (f130)) (g130)) (p0) (i - 1) (ee - 1) hp0 (by omega) (by omega) (hT0 _ (by omega)) (hK0 _ (by omega))) (cwV 3 hC.2.2.2.2 gX8_finds_X8_isTaken rfl rfl rfl hd_X8_isTaken ⟨Nat.le_of_ble_eq_true rfl, Nat.le_of_ble_eq_true rfl⟩) (ci := 8) (q := (RX8, TX8, 21)) rfl (q0 := 0) rfl dX8_finds_164 rfl hl.1 rfl (Nat.le_of_ble_eq_true rfl) ⟨(Nat.zero_le _), (Nat.zero_le _)⟩ (fun r9 S9 H locs hp9 hX => ?_)
                        obtain ⟨rfl, hS9⟩ := hp9
                        rw [hS9] at hX
                        replace hX : HH G A s.heap (wM G am (w_begin (w_fewest (S) (f130)) (g130))) H locs := hX
                        have join175 : ∀ (H : Heap) (locs : List Loc) (ls : Array Slot), HH G A s.heap (wM G am (w_begin (w_fewest (S) (f130)) (g130))) H locs → lv_has ls 5 [(4, .int (nI (121 * i + ee))), (3, .int (nI (ee))), (2, .int (nI (i))), (0, .ref (am 0)), (1, .int (nI (p0)))] → W p l e { frames := 2, cells := 0, slots := 0, locals := 45 } s m args below meth c H locs 0 0 (EndV G (wM G am) A (fun S' => ∃ f g, S' = w_begin (w_fewest S f) g ∧ ∀ i ee, i ≤ aPl (m_all S) p0 → ee ≤ aLen (m_all S) → cellK f g (121 * i + ee) (kcol (aTt (m_all S) p0) (aMb (m_all S) p0) ee i)) below args s 0 0) (F0 m 175 ls [.int (nI (if aTt (m_all S) p0 (i - 1) (ee - 1) = true then 0 else 1)), .int (nI (kcol (aTt (m_all S) p0) (aMb (m_all S) p0) (ee - 1) (i - 1) / 128)), .int (nI (121 * i + ee)), .ref (am 0)]) := by
                          intro  H locs ls  hX hl
                          refine n_add hC (a := kcol (aTt (m_all S) p0) (aMb (m_all S) p0) (ee - 1) (i - 1) / 128) (b := if aTt (m_all S) p0 (i - 1) (ee - 1) = true then 0 else 1) dX8_finds_175 ?_
                          refine lv_aload_n hC.1 hC.2.1 dX8_finds_176 rfl (lv_at hl 3 rfl) ?_
                          refine g_m_begin hC fi_X8_finds_X8 hK hX (wd9 hC 3 rfl) dX8_finds_177 ?_
                          refine lv_iload hC.1 hC.2.1 dX8_finds_180 (lv_at hl 0 rfl) ?_
                          refine lv_bipush (v := nI (121)) hC.1 hC.2.1 dX8_finds_182 (by decide +kernel) ?_
                          refine n_sub hC (a := 121 * i + ee) (b := 121) dX8_finds_184 (by omega) ?_
                          refine lv_iconst (v := nI (1)) hC.1 hC.2.1 dX8_finds_185 rfl ?_
                          refine n_sub hC (a := (121 * i + ee) - (121)) (b := 1) dX8_finds_186 (by omega) ?_
                          refine l_m_begin hC hK hX (i := ((121 * i + ee) - (121)) - (1)) (by omega) dX8_finds_187 (v := nI (127 - kcol (aTt (m_all S) p0) (aMb (m_all S) p0) (ee - 1) (i - 1) % 128)) ((hoo130 _ (by omega)).2.trans (hD (by omega) (by omega)).2) ?_
                          refine cv_V (As := [.int (nI (121 * i + ee)), .int (nI ((kcol (aTt (m_all S) p0) (aMb (m_all S) p0) (ee - 1) (i - 1) / 128) + (if aTt (m_all S) p0 (i - 1) (ee - 1) = true then 0 else 1))), .int (nI (127 - kcol (aTt (m_all S) p0) (aMb (m_all S) p0) (ee - 1) (i - 1) % 128))]) (rest := []) hC hK hA hX (c_X8_tries l G am (w_begin (w_fewest (S) (f130)) (g130)) (121 * i + ee) ((kcol (aTt (m_all S) p0) (aMb (m_all S) p0) (ee - 1) (i - 1) / 128) + (if aTt (m_all S) p0 (i - 1) (ee - 1) = true then 0 else 1)) (127 - kcol (aTt (m_all S) p0) (aMb (m_all S) p0) (ee - 1) (i - 1) % 128) (kcol (aTt (m_all S) p0) (aMb (m_all S) p0) (ee - 1) (i - 1) + if aTt (m_all S) p0 (i - 1) (ee - 1) = true then 0 else 128) (by split <;> omega) (by split <;> omega) (by omega) (by split <;> omega) (some k130) hck130 (show f130 (121 * i + ee) < 2 ^ 31 from by rw [hck130.1]; omega)) (cwV 3 hC.2.2.2.2 gX8_finds_X8_tries rfl rfl rfl hd_X8_tries ⟨Nat.le_of_ble_eq_true rfl, Nat.le_of_ble_eq_true rfl⟩) (ci := 8) (q := (RX8, TX8, 21)) rfl (q0 := 0) rfl dX8_finds_188 rfl hl.1 rfl (Nat.le_of_ble_eq_true rfl) ⟨(Nat.zero_le _), (Nat.zero_le _)⟩ (fun S9 H locs hp9 hX => ?_)
                          obtain ⟨f188, g188, hS9, hck188, hot188⟩ := hp9
                          rw [hS9] at hX
                          replace hX : HH G A s.heap (wM G am (w_begin (w_fewest (S) (f188)) (g188))) H locs := hX
                          obtain ⟨k188, hk188⟩ : ∃ k, k = optMin (some k130) (kcol (aTt (m_all S) p0) (aMb (m_all S) p0) (ee - 1) (i - 1) + if aTt (m_all S) p0 (i - 1) (ee - 1) = true then 0 else 128) := ⟨_, rfl⟩
                          replace hck188 : cellK f188 g188 (121 * i + ee) k188 := by rw [hk188]; exact hck188
                          have hkb188 : k188 < 100000 := by rw [hk188]; first | exact optMin_lt (by omega) | exact optMin_lt2 (by omega) (by omega) | exact optMin_lt (by split <;> omega) | exact optMin_lt2 (by omega) (by split <;> omega)
                          have hoo188 : ∀ j, j ≠ 121 * i + ee → f188 j = f2 j ∧ g188 j = g2 j := fun j hj => ⟨(hot188 j hj).1.trans (hoo130 j hj).1, (hot188 j hj).2.trans (hoo130 j hj).2⟩
                          refine lv_iinc (v := nI (ee + 1)) (lv' := [(3, .int (nI (ee + 1))), (4, .int (nI (121 * i + ee))), (2, .int (nI (i))), (0, .ref (am 0)), (1, .int (nI (p0)))]) hC.1 hC.2.1 dX8_finds_191 hl (k := 1) rfl (n_inc1 _) (by decide) rfl (fun ls hl => ?_)
                          refine lv_goto (tgt := 13) hC.1 hC.2.1 dX8_finds_194 (by decide) ?_
                          have hkfin : k188 = kcol (aTt (m_all S) p0) (aMb (m_all S) p0) ee i := by
                            first
                            | (exfalso; omega)
                            | (rw [hk188, hk130, hk98]
                               exact kfE (tk := aTt (m_all S) p0) (mb := aMb (m_all S) p0) (e := ee) (i := i) (by omega) (by omega))
                          refine ih13 (ee + 1) (f188) (g188) ?_ ?_ ?_ ?_ _ _ ls hX (lv_sub hl [0, 2, 3, 4] rfl)
                          · omega
                          · exact fun j e9 h1 h2 => by
                              have h3 := hoo188 (121 * j + e9) (by omega)
                              exact ⟨h3.1.trans (hin2 j e9 h1 h2).1, h3.2.trans (hin2 j e9 h1 h2).2⟩
                          · exact fun e9 h1 => by
                              by_cases h : e9 = ee
                              · subst h; rw [← hkfin]; exact hck188
                              · have h3 := hoo188 (121 * i + e9) (by omega)
                                exact ⟨h3.1.trans (hrow e9 (by omega)).1, h3.2.trans (hrow e9 (by omega)).2⟩
                          · omega
                        refine b_if_eq hC (b := aTt (m_all S) (p0) (i - 1) (ee - 1)) (tgt := 174) dX8_finds_167 (by decide) (fun c167 => ?_) (fun c167 => ?_)
                        · skip
                          refine lv_iconst (v := nI (1)) hC.1 hC.2.1 dX8_finds_174 rfl ?_
                          refine n_top (y := nI (if aTt (m_all S) p0 (i - 1) (ee - 1) = true then 0 else 1)) (by first | rw [if_pos (by assumption)] | rw [if_neg (by simp_all)]) ?_
                          refine join175  _ _ ls  hX (lv_sub hl [0, 1, 2, 3, 4] rfl)
                        · skip
                          refine lv_iconst (v := nI (0)) hC.1 hC.2.1 dX8_finds_170 rfl ?_
                          refine lv_goto (tgt := 175) hC.1 hC.2.1 dX8_finds_171 (by decide) ?_
                          refine n_top (y := nI (if aTt (m_all S) p0 (i - 1) (ee - 1) = true then 0 else 1)) (by first | rw [if_pos (by assumption)] | rw [if_neg (by simp_all)]) ?_
                          refine join175  _ _ ls  hX (lv_sub hl [0, 1, 2, 3, 4] rfl)
                · skip
                  refine lv_aload_n hC.1 hC.2.1 dX8_finds_75 rfl (lv_at hl 3 rfl) ?_
                  refine lv_iload hC.1 hC.2.1 dX8_finds_76 (lv_at hl 0 rfl) ?_
                  refine lv_aload_n hC.1 hC.2.1 dX8_finds_78 rfl (lv_at hl 3 rfl) ?_
                  refine g_m_fewest hC fi_X8_finds_X8 hK hX (wd9 hC 2 rfl) dX8_finds_79 ?_
                  refine lv_iload hC.1 hC.2.1 dX8_finds_82 (lv_at hl 0 rfl) ?_
                  refine lv_iconst (v := nI (1)) hC.1 hC.2.1 dX8_finds_84 rfl ?_
                  refine n_sub hC (a := 121 * i + ee) (b := 1) dX8_finds_85 (by omega) ?_
                  refine l_m_fewest hC hK hX (i := (121 * i + ee) - (1)) (by omega) dX8_finds_86 (v := kcol (aTt (m_all S) p0) (aMb (m_all S) p0) (ee - 1) i / 128) ((hoo0 _ (by omega)).1.trans (hL1 (by omega)).1) ?_
                  refine lv_iconst (v := nI (1)) hC.1 hC.2.1 dX8_finds_87 rfl ?_
                  refine n_add hC (a := kcol (aTt (m_all S) p0) (aMb (m_all S) p0) (ee - 1) i / 128) (b := 1) dX8_finds_88 ?_
                  refine lv_aload_n hC.1 hC.2.1 dX8_finds_89 rfl (lv_at hl 3 rfl) ?_
                  refine g_m_begin hC fi_X8_finds_X8 hK hX (wd9 hC 3 rfl) dX8_finds_90 ?_
                  refine lv_iload hC.1 hC.2.1 dX8_finds_93 (lv_at hl 0 rfl) ?_
                  refine lv_iconst (v := nI (1)) hC.1 hC.2.1 dX8_finds_95 rfl ?_
                  refine n_sub hC (a := 121 * i + ee) (b := 1) dX8_finds_96 (by omega) ?_
                  refine l_m_begin hC hK hX (i := (121 * i + ee) - (1)) (by omega) dX8_finds_97 (v := nI (127 - kcol (aTt (m_all S) p0) (aMb (m_all S) p0) (ee - 1) i % 128)) ((hoo0 _ (by omega)).2.trans (hL1 (by omega)).2) ?_
                  refine cv_V (As := [.int (nI (121 * i + ee)), .int (nI ((kcol (aTt (m_all S) p0) (aMb (m_all S) p0) (ee - 1) i / 128) + (1))), .int (nI (127 - kcol (aTt (m_all S) p0) (aMb (m_all S) p0) (ee - 1) i % 128))]) (rest := []) hC hK hA hX (c_X8_tries l G am (w_begin (w_fewest (S) (va_up (f2) (121 * i + ee) (1000))) (upd (g2) (121 * i + ee) ((-5)))) (121 * i + ee) ((kcol (aTt (m_all S) p0) (aMb (m_all S) p0) (ee - 1) i / 128) + (1)) (127 - kcol (aTt (m_all S) p0) (aMb (m_all S) p0) (ee - 1) i % 128) (kcol (aTt (m_all S) p0) (aMb (m_all S) p0) (ee - 1) i + 128) (by omega) (by omega) (by omega) (by omega) none hin0 (show va_up f2 (121 * i + ee) 1000 (121 * i + ee) < 2 ^ 31 from by rw [va_up_self]; decide)) (cwV 3 hC.2.2.2.2 gX8_finds_X8_tries rfl rfl rfl hd_X8_tries ⟨Nat.le_of_ble_eq_true rfl, Nat.le_of_ble_eq_true rfl⟩) (ci := 8) (q := (RX8, TX8, 21)) rfl (q0 := 0) rfl dX8_finds_98 rfl hl.1 rfl (Nat.le_of_ble_eq_true rfl) ⟨(Nat.zero_le _), (Nat.zero_le _)⟩ (fun S9 H locs hp9 hX => ?_)
                  obtain ⟨f98, g98, hS9, hck98, hot98⟩ := hp9
                  rw [hS9] at hX
                  replace hX : HH G A s.heap (wM G am (w_begin (w_fewest (S) (f98)) (g98))) H locs := hX
                  obtain ⟨k98, hk98⟩ : ∃ k, k = optMin (none) (kcol (aTt (m_all S) p0) (aMb (m_all S) p0) (ee - 1) i + 128) := ⟨_, rfl⟩
                  replace hck98 : cellK f98 g98 (121 * i + ee) k98 := by rw [hk98]; exact hck98
                  have hkb98 : k98 < 100000 := by rw [hk98]; first | exact optMin_lt (by omega) | exact optMin_lt2 (by omega) (by omega) | exact optMin_lt (by split <;> omega) | exact optMin_lt2 (by omega) (by split <;> omega)
                  have hoo98 : ∀ j, j ≠ 121 * i + ee → f98 j = f2 j ∧ g98 j = g2 j := fun j hj => ⟨(hot98 j hj).1.trans (hoo0 j hj).1, (hot98 j hj).2.trans (hoo0 j hj).2⟩
                  refine lv_iload_n hC.1 hC.2.1 dX8_finds_101 rfl (lv_at hl 2 rfl) ?_
                  refine n_if_le hC (a := i) (tgt := 133) dX8_finds_102 (by decide) (by omega) (fun c102 => ?_) (fun c102 => ?_)
                  · skip
                    refine lv_iload_n hC.1 hC.2.1 dX8_finds_133 rfl (lv_at hl 2 rfl) ?_
                    refine n_if_le hC (a := i) (tgt := 191) dX8_finds_134 (by decide) (by omega) (fun c134 => ?_) (fun c134 => ?_)
                    · skip
                      refine lv_iinc (v := nI (ee + 1)) (lv' := [(3, .int (nI (ee + 1))), (4, .int (nI (121 * i + ee))), (2, .int (nI (i))), (0, .ref (am 0)), (1, .int (nI (p0)))]) hC.1 hC.2.1 dX8_finds_191 hl (k := 1) rfl (n_inc1 _) (by decide) rfl (fun ls hl => ?_)
                      refine lv_goto (tgt := 13) hC.1 hC.2.1 dX8_finds_194 (by decide) ?_
                      have hkfin : k98 = kcol (aTt (m_all S) p0) (aMb (m_all S) p0) ee i := by
                        first
                        | (exfalso; omega)
                        | (obtain rfl : i = 0 := by omega
                           exact hk98.trans (by rw [hk68]; exact kfB (tk := aTt (m_all S) p0) (mb := aMb (m_all S) p0) (e := ee) (by omega) (by assumption)))
                        | (obtain rfl : i = 0 := by omega
                           exact hk98.trans (kfC (tk := aTt (m_all S) p0) (mb := aMb (m_all S) p0) (e := ee) (by omega) (by assumption)))
                      refine ih13 (ee + 1) (f98) (g98) ?_ ?_ ?_ ?_ _ _ ls hX (lv_sub hl [0, 2, 3, 4] rfl)
                      · omega
                      · exact fun j e9 h1 h2 => by
                          have h3 := hoo98 (121 * j + e9) (by omega)
                          exact ⟨h3.1.trans (hin2 j e9 h1 h2).1, h3.2.trans (hin2 j e9 h1 h2).2⟩
                      · exact fun e9 h1 => by
                          by_cases h : e9 = ee
                          · subst h; rw [← hkfin]; exact hck98
                          · have h3 := hoo98 (121 * i + e9) (by omega)
                            exact ⟨h3.1.trans (hrow e9 (by omega)).1, h3.2.trans (hrow e9 (by omega)).2⟩
                      · omega
                    · skip
                      refine lv_iload_n hC.1 hC.2.1 dX8_finds_137 rfl (lv_at hl 1 rfl) ?_
                      refine n_if_le hC (a := ee) (tgt := 191) dX8_finds_138 (by decide) (by omega) (fun c138 => ?_) (fun c138 => ?_)
                      · skip
                        refine lv_iinc (v := nI (ee + 1)) (lv' := [(3, .int (nI (ee + 1))), (4, .int (nI (121 * i + ee))), (2, .int (nI (i))), (0, .ref (am 0)), (1, .int (nI (p0)))]) hC.1 hC.2.1 dX8_finds_191 hl (k := 1) rfl (n_inc1 _) (by decide) rfl (fun ls hl => ?_)
                        refine lv_goto (tgt := 13) hC.1 hC.2.1 dX8_finds_194 (by decide) ?_
                        have hkfin : k98 = kcol (aTt (m_all S) p0) (aMb (m_all S) p0) ee i := by
                          first
                          | (exfalso; omega)
                          | (obtain rfl : i = 0 := by omega
                             exact hk98.trans (by rw [hk68]; exact kfB (tk := aTt (m_all S) p0) (mb := aMb (m_all S) p0) (e := ee) (by omega) (by assumption)))
                          | (obtain rfl : i = 0 := by omega
                             exact hk98.trans (kfC (tk := aTt (m_all S) p0) (mb := aMb (m_all S) p0) (e := ee) (by omega) (by assumption)))
                        refine ih13 (ee + 1) (f98) (g98) ?_ ?_ ?_ ?_ _ _ ls hX (lv_sub hl [0, 2, 3, 4] rfl)
                        · omega
                        · exact fun j e9 h1 h2 => by
                            have h3 := hoo98 (121 * j + e9) (by omega)
                            exact ⟨h3.1.trans (hin2 j e9 h1 h2).1, h3.2.trans (hin2 j e9 h1 h2).2⟩
                        · exact fun e9 h1 => by
                            by_cases h : e9 = ee
                            · subst h; rw [← hkfin]; exact hck98
                            · have h3 := hoo98 (121 * i + e9) (by omega)
                              exact ⟨h3.1.trans (hrow e9 (by omega)).1, h3.2.trans (hrow e9 (by omega)).2⟩
                        · omega
                      · skip
                        refine lv_aload_n hC.1 hC.2.1 dX8_finds_141 rfl (lv_at hl 3 rfl) ?_
                        refine lv_iload hC.1 hC.2.1 dX8_finds_142 (lv_at hl 0 rfl) ?_
                        refine lv_aload_n hC.1 hC.2.1 dX8_finds_144 rfl (lv_at hl 3 rfl) ?_
                        refine g_m_fewest hC fi_X8_finds_X8 hK hX (wd9 hC 2 rfl) dX8_finds_145 ?_
                        refine lv_iload hC.1 hC.2.1 dX8_finds_148 (lv_at hl 0 rfl) ?_
                        refine lv_bipush (v := nI (121)) hC.1 hC.2.1 dX8_finds_150 (by decide +kernel) ?_
                        refine n_sub hC (a := 121 * i + ee) (b := 121) dX8_finds_152 (by omega) ?_
                        refine lv_iconst (v := nI (1)) hC.1 hC.2.1 dX8_finds_153 rfl ?_
                        refine n_sub hC (a := (121 * i + ee) - (121)) (b := 1) dX8_finds_154 (by omega) ?_
                        refine l_m_fewest hC hK hX (i := ((121 * i + ee) - (121)) - (1)) (by omega) dX8_finds_155 (v := kcol (aTt (m_all S) p0) (aMb (m_all S) p0) (ee - 1) (i - 1) / 128) ((hoo98 _ (by omega)).1.trans (hD (by omega) (by omega)).1) ?_
                        refine lv_aload_n hC.1 hC.2.1 dX8_finds_156 rfl (lv_at hl 3 rfl) ?_
                        refine lv_iload_n hC.1 hC.2.1 dX8_finds_157 rfl (lv_at hl 4 rfl) ?_
                        refine lv_iload_n hC.1 hC.2.1 dX8_finds_158 rfl (lv_at hl 2 rfl) ?_
                        refine lv_iconst (v := nI (1)) hC.1 hC.2.1 dX8_finds_159 rfl ?_
                        refine n_sub hC (a := i) (b := 1) dX8_finds_160 (by omega) ?_
                        refine lv_iload_n hC.1 hC.2.1 dX8_finds_161 rfl (lv_at hl 1 rfl) ?_
                        refine lv_iconst (v := nI (1)) hC.1 hC.2.1 dX8_finds_162 rfl ?_
                        refine n_sub hC (a := ee) (b := 1) dX8_finds_163 (by omega) ?_
                        refine cv_I (As := [.int (nI (p0)), .int (nI (i - 1)), .int (nI (ee - 1))]) (rest := [.int (nI (kcol (aTt (m_all S) p0) (aMb (m_all S) p0) (ee - 1) (i - 1) / 128)), .int (nI (121 * i + ee)), .ref (am 0)]) hC hK hA hX (c_X8_isTaken l G am (w_begin (w_fewest (S) (f98)) (g98)) (p0) (i - 1) (ee - 1) hp0 (by omega) (by omega) (hT0 _ (by omega)) (hK0 _ (by omega))) (cwV 3 hC.2.2.2.2 gX8_finds_X8_isTaken rfl rfl rfl hd_X8_isTaken ⟨Nat.le_of_ble_eq_true rfl, Nat.le_of_ble_eq_true rfl⟩) (ci := 8) (q := (RX8, TX8, 21)) rfl (q0 := 0) rfl dX8_finds_164 rfl hl.1 rfl (Nat.le_of_ble_eq_true rfl) ⟨(Nat.zero_le _), (Nat.zero_le _)⟩ (fun r9 S9 H locs hp9 hX => ?_)
                        obtain ⟨rfl, hS9⟩ := hp9
                        rw [hS9] at hX
                        replace hX : HH G A s.heap (wM G am (w_begin (w_fewest (S) (f98)) (g98))) H locs := hX
                        have join175 : ∀ (H : Heap) (locs : List Loc) (ls : Array Slot), HH G A s.heap (wM G am (w_begin (w_fewest (S) (f98)) (g98))) H locs → lv_has ls 5 [(4, .int (nI (121 * i + ee))), (3, .int (nI (ee))), (2, .int (nI (i))), (0, .ref (am 0)), (1, .int (nI (p0)))] → W p l e { frames := 2, cells := 0, slots := 0, locals := 45 } s m args below meth c H locs 0 0 (EndV G (wM G am) A (fun S' => ∃ f g, S' = w_begin (w_fewest S f) g ∧ ∀ i ee, i ≤ aPl (m_all S) p0 → ee ≤ aLen (m_all S) → cellK f g (121 * i + ee) (kcol (aTt (m_all S) p0) (aMb (m_all S) p0) ee i)) below args s 0 0) (F0 m 175 ls [.int (nI (if aTt (m_all S) p0 (i - 1) (ee - 1) = true then 0 else 1)), .int (nI (kcol (aTt (m_all S) p0) (aMb (m_all S) p0) (ee - 1) (i - 1) / 128)), .int (nI (121 * i + ee)), .ref (am 0)]) := by
                          intro  H locs ls  hX hl
                          refine n_add hC (a := kcol (aTt (m_all S) p0) (aMb (m_all S) p0) (ee - 1) (i - 1) / 128) (b := if aTt (m_all S) p0 (i - 1) (ee - 1) = true then 0 else 1) dX8_finds_175 ?_
                          refine lv_aload_n hC.1 hC.2.1 dX8_finds_176 rfl (lv_at hl 3 rfl) ?_
                          refine g_m_begin hC fi_X8_finds_X8 hK hX (wd9 hC 3 rfl) dX8_finds_177 ?_
                          refine lv_iload hC.1 hC.2.1 dX8_finds_180 (lv_at hl 0 rfl) ?_
                          refine lv_bipush (v := nI (121)) hC.1 hC.2.1 dX8_finds_182 (by decide +kernel) ?_
                          refine n_sub hC (a := 121 * i + ee) (b := 121) dX8_finds_184 (by omega) ?_
                          refine lv_iconst (v := nI (1)) hC.1 hC.2.1 dX8_finds_185 rfl ?_
                          refine n_sub hC (a := (121 * i + ee) - (121)) (b := 1) dX8_finds_186 (by omega) ?_
                          refine l_m_begin hC hK hX (i := ((121 * i + ee) - (121)) - (1)) (by omega) dX8_finds_187 (v := nI (127 - kcol (aTt (m_all S) p0) (aMb (m_all S) p0) (ee - 1) (i - 1) % 128)) ((hoo98 _ (by omega)).2.trans (hD (by omega) (by omega)).2) ?_
                          refine cv_V (As := [.int (nI (121 * i + ee)), .int (nI ((kcol (aTt (m_all S) p0) (aMb (m_all S) p0) (ee - 1) (i - 1) / 128) + (if aTt (m_all S) p0 (i - 1) (ee - 1) = true then 0 else 1))), .int (nI (127 - kcol (aTt (m_all S) p0) (aMb (m_all S) p0) (ee - 1) (i - 1) % 128))]) (rest := []) hC hK hA hX (c_X8_tries l G am (w_begin (w_fewest (S) (f98)) (g98)) (121 * i + ee) ((kcol (aTt (m_all S) p0) (aMb (m_all S) p0) (ee - 1) (i - 1) / 128) + (if aTt (m_all S) p0 (i - 1) (ee - 1) = true then 0 else 1)) (127 - kcol (aTt (m_all S) p0) (aMb (m_all S) p0) (ee - 1) (i - 1) % 128) (kcol (aTt (m_all S) p0) (aMb (m_all S) p0) (ee - 1) (i - 1) + if aTt (m_all S) p0 (i - 1) (ee - 1) = true then 0 else 128) (by split <;> omega) (by split <;> omega) (by omega) (by split <;> omega) (some k98) hck98 (show f98 (121 * i + ee) < 2 ^ 31 from by rw [hck98.1]; omega)) (cwV 3 hC.2.2.2.2 gX8_finds_X8_tries rfl rfl rfl hd_X8_tries ⟨Nat.le_of_ble_eq_true rfl, Nat.le_of_ble_eq_true rfl⟩) (ci := 8) (q := (RX8, TX8, 21)) rfl (q0 := 0) rfl dX8_finds_188 rfl hl.1 rfl (Nat.le_of_ble_eq_true rfl) ⟨(Nat.zero_le _), (Nat.zero_le _)⟩ (fun S9 H locs hp9 hX => ?_)
                          obtain ⟨f188, g188, hS9, hck188, hot188⟩ := hp9
                          rw [hS9] at hX
                          replace hX : HH G A s.heap (wM G am (w_begin (w_fewest (S) (f188)) (g188))) H locs := hX
                          obtain ⟨k188, hk188⟩ : ∃ k, k = optMin (some k98) (kcol (aTt (m_all S) p0) (aMb (m_all S) p0) (ee - 1) (i - 1) + if aTt (m_all S) p0 (i - 1) (ee - 1) = true then 0 else 128) := ⟨_, rfl⟩
                          replace hck188 : cellK f188 g188 (121 * i + ee) k188 := by rw [hk188]; exact hck188
                          have hkb188 : k188 < 100000 := by rw [hk188]; first | exact optMin_lt (by omega) | exact optMin_lt2 (by omega) (by omega) | exact optMin_lt (by split <;> omega) | exact optMin_lt2 (by omega) (by split <;> omega)
                          have hoo188 : ∀ j, j ≠ 121 * i + ee → f188 j = f2 j ∧ g188 j = g2 j := fun j hj => ⟨(hot188 j hj).1.trans (hoo98 j hj).1, (hot188 j hj).2.trans (hoo98 j hj).2⟩
                          refine lv_iinc (v := nI (ee + 1)) (lv' := [(3, .int (nI (ee + 1))), (4, .int (nI (121 * i + ee))), (2, .int (nI (i))), (0, .ref (am 0)), (1, .int (nI (p0)))]) hC.1 hC.2.1 dX8_finds_191 hl (k := 1) rfl (n_inc1 _) (by decide) rfl (fun ls hl => ?_)
                          refine lv_goto (tgt := 13) hC.1 hC.2.1 dX8_finds_194 (by decide) ?_
                          have hkfin : k188 = kcol (aTt (m_all S) p0) (aMb (m_all S) p0) ee i := by
                            first
                            | (exfalso; omega)
                            | (rw [hk188, hk130, hk98]
                               exact kfE (tk := aTt (m_all S) p0) (mb := aMb (m_all S) p0) (e := ee) (i := i) (by omega) (by omega))
                          refine ih13 (ee + 1) (f188) (g188) ?_ ?_ ?_ ?_ _ _ ls hX (lv_sub hl [0, 2, 3, 4] rfl)
                          · omega
                          · exact fun j e9 h1 h2 => by
                              have h3 := hoo188 (121 * j + e9) (by omega)
                              exact ⟨h3.1.trans (hin2 j e9 h1 h2).1, h3.2.trans (hin2 j e9 h1 h2).2⟩
                          · exact fun e9 h1 => by
                              by_cases h : e9 = ee
                              · subst h; rw [← hkfin]; exact hck188
                              · have h3 := hoo188 (121 * i + e9) (by omega)
                                exact ⟨h3.1.trans (hrow e9 (by omega)).1, h3.2.trans (hrow e9 (by omega)).2⟩
                          · omega
                        refine b_if_eq hC (b := aTt (m_all S) (p0) (i - 1) (ee - 1)) (tgt := 174) dX8_finds_167 (by decide) (fun c167 => ?_) (fun c167 => ?_)
                        · skip
                          refine lv_iconst (v := nI (1)) hC.1 hC.2.1 dX8_finds_174 rfl ?_
                          refine n_top (y := nI (if aTt (m_all S) p0 (i - 1) (ee - 1) = true then 0 else 1)) (by first | rw [if_pos (by assumption)] | rw [if_neg (by simp_all)]) ?_
                          refine join175  _ _ ls  hX (lv_sub hl [0, 1, 2, 3, 4] rfl)
                        · skip
                          refine lv_iconst (v := nI (0)) hC.1 hC.2.1 dX8_finds_170 rfl ?_
                          refine lv_goto (tgt := 175) hC.1 hC.2.1 dX8_finds_171 (by decide) ?_
                          refine n_top (y := nI (if aTt (m_all S) p0 (i - 1) (ee - 1) = true then 0 else 1)) (by first | rw [if_pos (by assumption)] | rw [if_neg (by simp_all)]) ?_
                          refine join175  _ _ ls  hX (lv_sub hl [0, 1, 2, 3, 4] rfl)
                  · skip
                    refine lv_aload_n hC.1 hC.2.1 dX8_finds_105 rfl (lv_at hl 3 rfl) ?_
                    refine lv_iload hC.1 hC.2.1 dX8_finds_106 (lv_at hl 0 rfl) ?_
                    refine lv_aload_n hC.1 hC.2.1 dX8_finds_108 rfl (lv_at hl 3 rfl) ?_
                    refine g_m_fewest hC fi_X8_finds_X8 hK hX (wd9 hC 2 rfl) dX8_finds_109 ?_
                    refine lv_iload hC.1 hC.2.1 dX8_finds_112 (lv_at hl 0 rfl) ?_
                    refine lv_bipush (v := nI (121)) hC.1 hC.2.1 dX8_finds_114 (by decide +kernel) ?_
                    refine n_sub hC (a := 121 * i + ee) (b := 121) dX8_finds_116 (by omega) ?_
                    refine l_m_fewest hC hK hX (i := (121 * i + ee) - (121)) (by omega) dX8_finds_117 (v := kcol (aTt (m_all S) p0) (aMb (m_all S) p0) ee (i - 1) / 128) ((hoo98 _ (by omega)).1.trans (hU (by omega)).1) ?_
                    refine lv_iconst (v := nI (1)) hC.1 hC.2.1 dX8_finds_118 rfl ?_
                    refine n_add hC (a := kcol (aTt (m_all S) p0) (aMb (m_all S) p0) ee (i - 1) / 128) (b := 1) dX8_finds_119 ?_
                    refine lv_aload_n hC.1 hC.2.1 dX8_finds_120 rfl (lv_at hl 3 rfl) ?_
                    refine g_m_begin hC fi_X8_finds_X8 hK hX (wd9 hC 3 rfl) dX8_finds_121 ?_
                    refine lv_iload hC.1 hC.2.1 dX8_finds_124 (lv_at hl 0 rfl) ?_
                    refine lv_bipush (v := nI (121)) hC.1 hC.2.1 dX8_finds_126 (by decide +kernel) ?_
                    refine n_sub hC (a := 121 * i + ee) (b := 121) dX8_finds_128 (by omega) ?_
                    refine l_m_begin hC hK hX (i := (121 * i + ee) - (121)) (by omega) dX8_finds_129 (v := nI (127 - kcol (aTt (m_all S) p0) (aMb (m_all S) p0) ee (i - 1) % 128)) ((hoo98 _ (by omega)).2.trans (hU (by omega)).2) ?_
                    refine cv_V (As := [.int (nI (121 * i + ee)), .int (nI ((kcol (aTt (m_all S) p0) (aMb (m_all S) p0) ee (i - 1) / 128) + (1))), .int (nI (127 - kcol (aTt (m_all S) p0) (aMb (m_all S) p0) ee (i - 1) % 128))]) (rest := []) hC hK hA hX (c_X8_tries l G am (w_begin (w_fewest (S) (f98)) (g98)) (121 * i + ee) ((kcol (aTt (m_all S) p0) (aMb (m_all S) p0) ee (i - 1) / 128) + (1)) (127 - kcol (aTt (m_all S) p0) (aMb (m_all S) p0) ee (i - 1) % 128) (kcol (aTt (m_all S) p0) (aMb (m_all S) p0) ee (i - 1) + 128) (by omega) (by omega) (by omega) (by omega) (some k98) hck98 (show f98 (121 * i + ee) < 2 ^ 31 from by rw [hck98.1]; omega)) (cwV 3 hC.2.2.2.2 gX8_finds_X8_tries rfl rfl rfl hd_X8_tries ⟨Nat.le_of_ble_eq_true rfl, Nat.le_of_ble_eq_true rfl⟩) (ci := 8) (q := (RX8, TX8, 21)) rfl (q0 := 0) rfl dX8_finds_130 rfl hl.1 rfl (Nat.le_of_ble_eq_true rfl) ⟨(Nat.zero_le _), (Nat.zero_le _)⟩ (fun S9 H locs hp9 hX => ?_)
                    obtain ⟨f130, g130, hS9, hck130, hot130⟩ := hp9
                    rw [hS9] at hX
                    replace hX : HH G A s.heap (wM G am (w_begin (w_fewest (S) (f130)) (g130))) H locs := hX
                    obtain ⟨k130, hk130⟩ : ∃ k, k = optMin (some k98) (kcol (aTt (m_all S) p0) (aMb (m_all S) p0) ee (i - 1) + 128) := ⟨_, rfl⟩
                    replace hck130 : cellK f130 g130 (121 * i + ee) k130 := by rw [hk130]; exact hck130
                    have hkb130 : k130 < 100000 := by rw [hk130]; first | exact optMin_lt (by omega) | exact optMin_lt2 (by omega) (by omega) | exact optMin_lt (by split <;> omega) | exact optMin_lt2 (by omega) (by split <;> omega)
                    have hoo130 : ∀ j, j ≠ 121 * i + ee → f130 j = f2 j ∧ g130 j = g2 j := fun j hj => ⟨(hot130 j hj).1.trans (hoo98 j hj).1, (hot130 j hj).2.trans (hoo98 j hj).2⟩
                    refine lv_iload_n hC.1 hC.2.1 dX8_finds_133 rfl (lv_at hl 2 rfl) ?_
                    refine n_if_le hC (a := i) (tgt := 191) dX8_finds_134 (by decide) (by omega) (fun c134 => ?_) (fun c134 => ?_)
                    · skip
                      refine lv_iinc (v := nI (ee + 1)) (lv' := [(3, .int (nI (ee + 1))), (4, .int (nI (121 * i + ee))), (2, .int (nI (i))), (0, .ref (am 0)), (1, .int (nI (p0)))]) hC.1 hC.2.1 dX8_finds_191 hl (k := 1) rfl (n_inc1 _) (by decide) rfl (fun ls hl => ?_)
                      refine lv_goto (tgt := 13) hC.1 hC.2.1 dX8_finds_194 (by decide) ?_
                      have hkfin : k130 = kcol (aTt (m_all S) p0) (aMb (m_all S) p0) ee i := by
                        first
                        | (exfalso; omega)
                        | (obtain rfl : ee = 0 := by omega
                           exact hk130.trans (kfD (tk := aTt (m_all S) p0) (mb := aMb (m_all S) p0) (i := i) (by omega)))
                      refine ih13 (ee + 1) (f130) (g130) ?_ ?_ ?_ ?_ _ _ ls hX (lv_sub hl [0, 2, 3, 4] rfl)
                      · omega
                      · exact fun j e9 h1 h2 => by
                          have h3 := hoo130 (121 * j + e9) (by omega)
                          exact ⟨h3.1.trans (hin2 j e9 h1 h2).1, h3.2.trans (hin2 j e9 h1 h2).2⟩
                      · exact fun e9 h1 => by
                          by_cases h : e9 = ee
                          · subst h; rw [← hkfin]; exact hck130
                          · have h3 := hoo130 (121 * i + e9) (by omega)
                            exact ⟨h3.1.trans (hrow e9 (by omega)).1, h3.2.trans (hrow e9 (by omega)).2⟩
                      · omega
                    · skip
                      refine lv_iload_n hC.1 hC.2.1 dX8_finds_137 rfl (lv_at hl 1 rfl) ?_
                      refine n_if_le hC (a := ee) (tgt := 191) dX8_finds_138 (by decide) (by omega) (fun c138 => ?_) (fun c138 => ?_)
                      · skip
                        refine lv_iinc (v := nI (ee + 1)) (lv' := [(3, .int (nI (ee + 1))), (4, .int (nI (121 * i + ee))), (2, .int (nI (i))), (0, .ref (am 0)), (1, .int (nI (p0)))]) hC.1 hC.2.1 dX8_finds_191 hl (k := 1) rfl (n_inc1 _) (by decide) rfl (fun ls hl => ?_)
                        refine lv_goto (tgt := 13) hC.1 hC.2.1 dX8_finds_194 (by decide) ?_
                        have hkfin : k130 = kcol (aTt (m_all S) p0) (aMb (m_all S) p0) ee i := by
                          first
                          | (exfalso; omega)
                          | (obtain rfl : ee = 0 := by omega
                             exact hk130.trans (kfD (tk := aTt (m_all S) p0) (mb := aMb (m_all S) p0) (i := i) (by omega)))
                        refine ih13 (ee + 1) (f130) (g130) ?_ ?_ ?_ ?_ _ _ ls hX (lv_sub hl [0, 2, 3, 4] rfl)
                        · omega
                        · exact fun j e9 h1 h2 => by
                            have h3 := hoo130 (121 * j + e9) (by omega)
                            exact ⟨h3.1.trans (hin2 j e9 h1 h2).1, h3.2.trans (hin2 j e9 h1 h2).2⟩
                        · exact fun e9 h1 => by
                            by_cases h : e9 = ee
                            · subst h; rw [← hkfin]; exact hck130
                            · have h3 := hoo130 (121 * i + e9) (by omega)
                              exact ⟨h3.1.trans (hrow e9 (by omega)).1, h3.2.trans (hrow e9 (by omega)).2⟩
                        · omega
                      · skip
                        refine lv_aload_n hC.1 hC.2.1 dX8_finds_141 rfl (lv_at hl 3 rfl) ?_
                        refine lv_iload hC.1 hC.2.1 dX8_finds_142 (lv_at hl 0 rfl) ?_
                        refine lv_aload_n hC.1 hC.2.1 dX8_finds_144 rfl (lv_at hl 3 rfl) ?_
                        refine g_m_fewest hC fi_X8_finds_X8 hK hX (wd9 hC 2 rfl) dX8_finds_145 ?_
                        refine lv_iload hC.1 hC.2.1 dX8_finds_148 (lv_at hl 0 rfl) ?_
                        refine lv_bipush (v := nI (121)) hC.1 hC.2.1 dX8_finds_150 (by decide +kernel) ?_
                        refine n_sub hC (a := 121 * i + ee) (b := 121) dX8_finds_152 (by omega) ?_
                        refine lv_iconst (v := nI (1)) hC.1 hC.2.1 dX8_finds_153 rfl ?_
                        refine n_sub hC (a := (121 * i + ee) - (121)) (b := 1) dX8_finds_154 (by omega) ?_
                        refine l_m_fewest hC hK hX (i := ((121 * i + ee) - (121)) - (1)) (by omega) dX8_finds_155 (v := kcol (aTt (m_all S) p0) (aMb (m_all S) p0) (ee - 1) (i - 1) / 128) ((hoo130 _ (by omega)).1.trans (hD (by omega) (by omega)).1) ?_
                        refine lv_aload_n hC.1 hC.2.1 dX8_finds_156 rfl (lv_at hl 3 rfl) ?_
                        refine lv_iload_n hC.1 hC.2.1 dX8_finds_157 rfl (lv_at hl 4 rfl) ?_
                        refine lv_iload_n hC.1 hC.2.1 dX8_finds_158 rfl (lv_at hl 2 rfl) ?_
                        refine lv_iconst (v := nI (1)) hC.1 hC.2.1 dX8_finds_159 rfl ?_
                        refine n_sub hC (a := i) (b := 1) dX8_finds_160 (by omega) ?_
                        refine lv_iload_n hC.1 hC.2.1 dX8_finds_161 rfl (lv_at hl 1 rfl) ?_
                        refine lv_iconst (v := nI (1)) hC.1 hC.2.1 dX8_finds_162 rfl ?_
                        refine n_sub hC (a := ee) (b := 1) dX8_finds_163 (by omega) ?_
                        refine cv_I (As := [.int (nI (p0)), .int (nI (i - 1)), .int (nI (ee - 1))]) (rest := [.int (nI (kcol (aTt (m_all S) p0) (aMb (m_all S) p0) (ee - 1) (i - 1) / 128)), .int (nI (121 * i + ee)), .ref (am 0)]) hC hK hA hX (c_X8_isTaken l G am (w_begin (w_fewest (S) (f130)) (g130)) (p0) (i - 1) (ee - 1) hp0 (by omega) (by omega) (hT0 _ (by omega)) (hK0 _ (by omega))) (cwV 3 hC.2.2.2.2 gX8_finds_X8_isTaken rfl rfl rfl hd_X8_isTaken ⟨Nat.le_of_ble_eq_true rfl, Nat.le_of_ble_eq_true rfl⟩) (ci := 8) (q := (RX8, TX8, 21)) rfl (q0 := 0) rfl dX8_finds_164 rfl hl.1 rfl (Nat.le_of_ble_eq_true rfl) ⟨(Nat.zero_le _), (Nat.zero_le _)⟩ (fun r9 S9 H locs hp9 hX => ?_)
                        obtain ⟨rfl, hS9⟩ := hp9
                        rw [hS9] at hX
                        replace hX : HH G A s.heap (wM G am (w_begin (w_fewest (S) (f130)) (g130))) H locs := hX
                        have join175 : ∀ (H : Heap) (locs : List Loc) (ls : Array Slot), HH G A s.heap (wM G am (w_begin (w_fewest (S) (f130)) (g130))) H locs → lv_has ls 5 [(4, .int (nI (121 * i + ee))), (3, .int (nI (ee))), (2, .int (nI (i))), (0, .ref (am 0)), (1, .int (nI (p0)))] → W p l e { frames := 2, cells := 0, slots := 0, locals := 45 } s m args below meth c H locs 0 0 (EndV G (wM G am) A (fun S' => ∃ f g, S' = w_begin (w_fewest S f) g ∧ ∀ i ee, i ≤ aPl (m_all S) p0 → ee ≤ aLen (m_all S) → cellK f g (121 * i + ee) (kcol (aTt (m_all S) p0) (aMb (m_all S) p0) ee i)) below args s 0 0) (F0 m 175 ls [.int (nI (if aTt (m_all S) p0 (i - 1) (ee - 1) = true then 0 else 1)), .int (nI (kcol (aTt (m_all S) p0) (aMb (m_all S) p0) (ee - 1) (i - 1) / 128)), .int (nI (121 * i + ee)), .ref (am 0)]) := by
                          intro  H locs ls  hX hl
                          refine n_add hC (a := kcol (aTt (m_all S) p0) (aMb (m_all S) p0) (ee - 1) (i - 1) / 128) (b := if aTt (m_all S) p0 (i - 1) (ee - 1) = true then 0 else 1) dX8_finds_175 ?_
                          refine lv_aload_n hC.1 hC.2.1 dX8_finds_176 rfl (lv_at hl 3 rfl) ?_
                          refine g_m_begin hC fi_X8_finds_X8 hK hX (wd9 hC 3 rfl) dX8_finds_177 ?_
                          refine lv_iload hC.1 hC.2.1 dX8_finds_180 (lv_at hl 0 rfl) ?_
                          refine lv_bipush (v := nI (121)) hC.1 hC.2.1 dX8_finds_182 (by decide +kernel) ?_
                          refine n_sub hC (a := 121 * i + ee) (b := 121) dX8_finds_184 (by omega) ?_
                          refine lv_iconst (v := nI (1)) hC.1 hC.2.1 dX8_finds_185 rfl ?_
                          refine n_sub hC (a := (121 * i + ee) - (121)) (b := 1) dX8_finds_186 (by omega) ?_
                          refine l_m_begin hC hK hX (i := ((121 * i + ee) - (121)) - (1)) (by omega) dX8_finds_187 (v := nI (127 - kcol (aTt (m_all S) p0) (aMb (m_all S) p0) (ee - 1) (i - 1) % 128)) ((hoo130 _ (by omega)).2.trans (hD (by omega) (by omega)).2) ?_
                          refine cv_V (As := [.int (nI (121 * i + ee)), .int (nI ((kcol (aTt (m_all S) p0) (aMb (m_all S) p0) (ee - 1) (i - 1) / 128) + (if aTt (m_all S) p0 (i - 1) (ee - 1) = true then 0 else 1))), .int (nI (127 - kcol (aTt (m_all S) p0) (aMb (m_all S) p0) (ee - 1) (i - 1) % 128))]) (rest := []) hC hK hA hX (c_X8_tries l G am (w_begin (w_fewest (S) (f130)) (g130)) (121 * i + ee) ((kcol (aTt (m_all S) p0) (aMb (m_all S) p0) (ee - 1) (i - 1) / 128) + (if aTt (m_all S) p0 (i - 1) (ee - 1) = true then 0 else 1)) (127 - kcol (aTt (m_all S) p0) (aMb (m_all S) p0) (ee - 1) (i - 1) % 128) (kcol (aTt (m_all S) p0) (aMb (m_all S) p0) (ee - 1) (i - 1) + if aTt (m_all S) p0 (i - 1) (ee - 1) = true then 0 else 128) (by split <;> omega) (by split <;> omega) (by omega) (by split <;> omega) (some k130) hck130 (show f130 (121 * i + ee) < 2 ^ 31 from by rw [hck130.1]; omega)) (cwV 3 hC.2.2.2.2 gX8_finds_X8_tries rfl rfl rfl hd_X8_tries ⟨Nat.le_of_ble_eq_true rfl, Nat.le_of_ble_eq_true rfl⟩) (ci := 8) (q := (RX8, TX8, 21)) rfl (q0 := 0) rfl dX8_finds_188 rfl hl.1 rfl (Nat.le_of_ble_eq_true rfl) ⟨(Nat.zero_le _), (Nat.zero_le _)⟩ (fun S9 H locs hp9 hX => ?_)
                          obtain ⟨f188, g188, hS9, hck188, hot188⟩ := hp9
                          rw [hS9] at hX
                          replace hX : HH G A s.heap (wM G am (w_begin (w_fewest (S) (f188)) (g188))) H locs := hX
                          obtain ⟨k188, hk188⟩ : ∃ k, k = optMin (some k130) (kcol (aTt (m_all S) p0) (aMb (m_all S) p0) (ee - 1) (i - 1) + if aTt (m_all S) p0 (i - 1) (ee - 1) = true then 0 else 128) := ⟨_, rfl⟩
                          replace hck188 : cellK f188 g188 (121 * i + ee) k188 := by rw [hk188]; exact hck188
                          have hkb188 : k188 < 100000 := by rw [hk188]; first | exact optMin_lt (by omega) | exact optMin_lt2 (by omega) (by omega) | exact optMin_lt (by split <;> omega) | exact optMin_lt2 (by omega) (by split <;> omega)
                          have hoo188 : ∀ j, j ≠ 121 * i + ee → f188 j = f2 j ∧ g188 j = g2 j := fun j hj => ⟨(hot188 j hj).1.trans (hoo130 j hj).1, (hot188 j hj).2.trans (hoo130 j hj).2⟩
                          refine lv_iinc (v := nI (ee + 1)) (lv' := [(3, .int (nI (ee + 1))), (4, .int (nI (121 * i + ee))), (2, .int (nI (i))), (0, .ref (am 0)), (1, .int (nI (p0)))]) hC.1 hC.2.1 dX8_finds_191 hl (k := 1) rfl (n_inc1 _) (by decide) rfl (fun ls hl => ?_)
                          refine lv_goto (tgt := 13) hC.1 hC.2.1 dX8_finds_194 (by decide) ?_
                          have hkfin : k188 = kcol (aTt (m_all S) p0) (aMb (m_all S) p0) ee i := by
                            first
                            | (exfalso; omega)
                            | (rw [hk188, hk130, hk98]
                               exact kfE (tk := aTt (m_all S) p0) (mb := aMb (m_all S) p0) (e := ee) (i := i) (by omega) (by omega))
                          refine ih13 (ee + 1) (f188) (g188) ?_ ?_ ?_ ?_ _ _ ls hX (lv_sub hl [0, 2, 3, 4] rfl)
                          · omega
                          · exact fun j e9 h1 h2 => by
                              have h3 := hoo188 (121 * j + e9) (by omega)
                              exact ⟨h3.1.trans (hin2 j e9 h1 h2).1, h3.2.trans (hin2 j e9 h1 h2).2⟩
                          · exact fun e9 h1 => by
                              by_cases h : e9 = ee
                              · subst h; rw [← hkfin]; exact hck188
                              · have h3 := hoo188 (121 * i + e9) (by omega)
                                exact ⟨h3.1.trans (hrow e9 (by omega)).1, h3.2.trans (hrow e9 (by omega)).2⟩
                          · omega
                        refine b_if_eq hC (b := aTt (m_all S) (p0) (i - 1) (ee - 1)) (tgt := 174) dX8_finds_167 (by decide) (fun c167 => ?_) (fun c167 => ?_)
                        · skip
                          refine lv_iconst (v := nI (1)) hC.1 hC.2.1 dX8_finds_174 rfl ?_
                          refine n_top (y := nI (if aTt (m_all S) p0 (i - 1) (ee - 1) = true then 0 else 1)) (by first | rw [if_pos (by assumption)] | rw [if_neg (by simp_all)]) ?_
                          refine join175  _ _ ls  hX (lv_sub hl [0, 1, 2, 3, 4] rfl)
                        · skip
                          refine lv_iconst (v := nI (0)) hC.1 hC.2.1 dX8_finds_170 rfl ?_
                          refine lv_goto (tgt := 175) hC.1 hC.2.1 dX8_finds_171 (by decide) ?_
                          refine n_top (y := nI (if aTt (m_all S) p0 (i - 1) (ee - 1) = true then 0 else 1)) (by first | rw [if_pos (by assumption)] | rw [if_neg (by simp_all)]) ?_
                          refine join175  _ _ ls  hX (lv_sub hl [0, 1, 2, 3, 4] rfl)
              · skip
                refine lv_aload_n hC.1 hC.2.1 dX8_finds_54 rfl (lv_at hl 3 rfl) ?_
                refine lv_iload_n hC.1 hC.2.1 dX8_finds_55 rfl (lv_at hl 4 rfl) ?_
                refine lv_iload_n hC.1 hC.2.1 dX8_finds_56 rfl (lv_at hl 1 rfl) ?_
                refine cv_I (As := [.int (nI (p0)), .int (nI (ee))]) (rest := []) hC hK hA hX (c_X8_mayBegin l G am (w_begin (w_fewest (S) (va_up (f2) (121 * i + ee) (1000))) (upd (g2) (121 * i + ee) ((-5)))) (p0) (ee) (by omega) (by omega) hB0 (show aTx (m_all S) (ee - 1) < 2 ^ 31 from by have := hT0 (ee - 1) (by omega); omega)) (cwV 2 hC.2.2.2.2 gX8_finds_X8_mayBegin rfl rfl rfl hd_X8_mayBegin ⟨Nat.le_of_ble_eq_true rfl, Nat.le_of_ble_eq_true rfl⟩) (ci := 8) (q := (RX8, TX8, 21)) rfl (q0 := 0) rfl dX8_finds_57 rfl hl.1 rfl (Nat.le_of_ble_eq_true rfl) ⟨(Nat.zero_le _), (Nat.zero_le _)⟩ (fun r9 S9 H locs hp9 hX => ?_)
                obtain ⟨rfl, hS9⟩ := hp9
                rw [hS9] at hX
                replace hX : HH G A s.heap (wM G am (w_begin (w_fewest (S) (va_up (f2) (121 * i + ee) (1000))) (upd (g2) (121 * i + ee) ((-5))))) H locs := hX
                refine b_if_eq hC (b := aMb (m_all S) (p0) (ee)) (tgt := 71) dX8_finds_60 (by decide) (fun c60 => ?_) (fun c60 => ?_)
                · skip
                  refine lv_iload_n hC.1 hC.2.1 dX8_finds_71 rfl (lv_at hl 1 rfl) ?_
                  refine n_if_le hC (a := ee) (tgt := 101) dX8_finds_72 (by decide) (by omega) (fun c72 => ?_) (fun c72 => ?_)
                  · skip
                    refine lv_iload_n hC.1 hC.2.1 dX8_finds_101 rfl (lv_at hl 2 rfl) ?_
                    refine n_if_le hC (a := i) (tgt := 133) dX8_finds_102 (by decide) (by omega) (fun c102 => ?_) (fun c102 => ?_)
                    · skip
                      refine lv_iload_n hC.1 hC.2.1 dX8_finds_133 rfl (lv_at hl 2 rfl) ?_
                      refine n_if_le hC (a := i) (tgt := 191) dX8_finds_134 (by decide) (by omega) (fun c134 => ?_) (fun c134 => ?_)
                      · skip
                        refine lv_iinc (v := nI (ee + 1)) (lv' := [(3, .int (nI (ee + 1))), (4, .int (nI (121 * i + ee))), (2, .int (nI (i))), (0, .ref (am 0)), (1, .int (nI (p0)))]) hC.1 hC.2.1 dX8_finds_191 hl (k := 1) rfl (n_inc1 _) (by decide) rfl (fun ls hl => ?_)
                        refine lv_goto (tgt := 13) hC.1 hC.2.1 dX8_finds_194 (by decide) ?_
                        have hkfin : False := by
                          first
                          | omega
                          | (obtain rfl : ee = 0 := by omega
                             have h9 := aMb_0 (m_all S) p0
                             simp_all)
                        refine ih13 (ee + 1) (va_up (f2) (121 * i + ee) (1000)) (upd (g2) (121 * i + ee) ((-5))) ?_ ?_ ?_ ?_ _ _ ls hX (lv_sub hl [0, 2, 3, 4] rfl)
                        · omega
                        · exact hkfin.elim
                        · exact hkfin.elim
                        · omega
                      · skip
                        refine lv_iload_n hC.1 hC.2.1 dX8_finds_137 rfl (lv_at hl 1 rfl) ?_
                        refine n_if_le hC (a := ee) (tgt := 191) dX8_finds_138 (by decide) (by omega) (fun c138 => ?_) (fun c138 => ?_)
                        · skip
                          refine lv_iinc (v := nI (ee + 1)) (lv' := [(3, .int (nI (ee + 1))), (4, .int (nI (121 * i + ee))), (2, .int (nI (i))), (0, .ref (am 0)), (1, .int (nI (p0)))]) hC.1 hC.2.1 dX8_finds_191 hl (k := 1) rfl (n_inc1 _) (by decide) rfl (fun ls hl => ?_)
                          refine lv_goto (tgt := 13) hC.1 hC.2.1 dX8_finds_194 (by decide) ?_
                          have hkfin : False := by
                            first
                            | omega
                            | (obtain rfl : ee = 0 := by omega
                               have h9 := aMb_0 (m_all S) p0
                               simp_all)
                          refine ih13 (ee + 1) (va_up (f2) (121 * i + ee) (1000)) (upd (g2) (121 * i + ee) ((-5))) ?_ ?_ ?_ ?_ _ _ ls hX (lv_sub hl [0, 2, 3, 4] rfl)
                          · omega
                          · exact hkfin.elim
                          · exact hkfin.elim
                          · omega
                        · skip
                          refine lv_aload_n hC.1 hC.2.1 dX8_finds_141 rfl (lv_at hl 3 rfl) ?_
                          refine lv_iload hC.1 hC.2.1 dX8_finds_142 (lv_at hl 0 rfl) ?_
                          refine lv_aload_n hC.1 hC.2.1 dX8_finds_144 rfl (lv_at hl 3 rfl) ?_
                          refine g_m_fewest hC fi_X8_finds_X8 hK hX (wd9 hC 2 rfl) dX8_finds_145 ?_
                          refine lv_iload hC.1 hC.2.1 dX8_finds_148 (lv_at hl 0 rfl) ?_
                          refine lv_bipush (v := nI (121)) hC.1 hC.2.1 dX8_finds_150 (by decide +kernel) ?_
                          refine n_sub hC (a := 121 * i + ee) (b := 121) dX8_finds_152 (by omega) ?_
                          refine lv_iconst (v := nI (1)) hC.1 hC.2.1 dX8_finds_153 rfl ?_
                          refine n_sub hC (a := (121 * i + ee) - (121)) (b := 1) dX8_finds_154 (by omega) ?_
                          refine l_m_fewest hC hK hX (i := ((121 * i + ee) - (121)) - (1)) (by omega) dX8_finds_155 (v := kcol (aTt (m_all S) p0) (aMb (m_all S) p0) (ee - 1) (i - 1) / 128) ((hoo0 _ (by omega)).1.trans (hD (by omega) (by omega)).1) ?_
                          refine lv_aload_n hC.1 hC.2.1 dX8_finds_156 rfl (lv_at hl 3 rfl) ?_
                          refine lv_iload_n hC.1 hC.2.1 dX8_finds_157 rfl (lv_at hl 4 rfl) ?_
                          refine lv_iload_n hC.1 hC.2.1 dX8_finds_158 rfl (lv_at hl 2 rfl) ?_
                          refine lv_iconst (v := nI (1)) hC.1 hC.2.1 dX8_finds_159 rfl ?_
                          refine n_sub hC (a := i) (b := 1) dX8_finds_160 (by omega) ?_
                          refine lv_iload_n hC.1 hC.2.1 dX8_finds_161 rfl (lv_at hl 1 rfl) ?_
                          refine lv_iconst (v := nI (1)) hC.1 hC.2.1 dX8_finds_162 rfl ?_
                          refine n_sub hC (a := ee) (b := 1) dX8_finds_163 (by omega) ?_
                          refine cv_I (As := [.int (nI (p0)), .int (nI (i - 1)), .int (nI (ee - 1))]) (rest := [.int (nI (kcol (aTt (m_all S) p0) (aMb (m_all S) p0) (ee - 1) (i - 1) / 128)), .int (nI (121 * i + ee)), .ref (am 0)]) hC hK hA hX (c_X8_isTaken l G am (w_begin (w_fewest (S) (va_up (f2) (121 * i + ee) (1000))) (upd (g2) (121 * i + ee) ((-5)))) (p0) (i - 1) (ee - 1) hp0 (by omega) (by omega) (hT0 _ (by omega)) (hK0 _ (by omega))) (cwV 3 hC.2.2.2.2 gX8_finds_X8_isTaken rfl rfl rfl hd_X8_isTaken ⟨Nat.le_of_ble_eq_true rfl, Nat.le_of_ble_eq_true rfl⟩) (ci := 8) (q := (RX8, TX8, 21)) rfl (q0 := 0) rfl dX8_finds_164 rfl hl.1 rfl (Nat.le_of_ble_eq_true rfl) ⟨(Nat.zero_le _), (Nat.zero_le _)⟩ (fun r9 S9 H locs hp9 hX => ?_)
                          obtain ⟨rfl, hS9⟩ := hp9
                          rw [hS9] at hX
                          replace hX : HH G A s.heap (wM G am (w_begin (w_fewest (S) (va_up (f2) (121 * i + ee) (1000))) (upd (g2) (121 * i + ee) ((-5))))) H locs := hX
                          have join175 : ∀ (H : Heap) (locs : List Loc) (ls : Array Slot), HH G A s.heap (wM G am (w_begin (w_fewest (S) (va_up (f2) (121 * i + ee) (1000))) (upd (g2) (121 * i + ee) ((-5))))) H locs → lv_has ls 5 [(4, .int (nI (121 * i + ee))), (3, .int (nI (ee))), (2, .int (nI (i))), (0, .ref (am 0)), (1, .int (nI (p0)))] → W p l e { frames := 2, cells := 0, slots := 0, locals := 45 } s m args below meth c H locs 0 0 (EndV G (wM G am) A (fun S' => ∃ f g, S' = w_begin (w_fewest S f) g ∧ ∀ i ee, i ≤ aPl (m_all S) p0 → ee ≤ aLen (m_all S) → cellK f g (121 * i + ee) (kcol (aTt (m_all S) p0) (aMb (m_all S) p0) ee i)) below args s 0 0) (F0 m 175 ls [.int (nI (if aTt (m_all S) p0 (i - 1) (ee - 1) = true then 0 else 1)), .int (nI (kcol (aTt (m_all S) p0) (aMb (m_all S) p0) (ee - 1) (i - 1) / 128)), .int (nI (121 * i + ee)), .ref (am 0)]) := by
                            intro  H locs ls  hX hl
                            refine n_add hC (a := kcol (aTt (m_all S) p0) (aMb (m_all S) p0) (ee - 1) (i - 1) / 128) (b := if aTt (m_all S) p0 (i - 1) (ee - 1) = true then 0 else 1) dX8_finds_175 ?_
                            refine lv_aload_n hC.1 hC.2.1 dX8_finds_176 rfl (lv_at hl 3 rfl) ?_
                            refine g_m_begin hC fi_X8_finds_X8 hK hX (wd9 hC 3 rfl) dX8_finds_177 ?_
                            refine lv_iload hC.1 hC.2.1 dX8_finds_180 (lv_at hl 0 rfl) ?_
                            refine lv_bipush (v := nI (121)) hC.1 hC.2.1 dX8_finds_182 (by decide +kernel) ?_
                            refine n_sub hC (a := 121 * i + ee) (b := 121) dX8_finds_184 (by omega) ?_
                            refine lv_iconst (v := nI (1)) hC.1 hC.2.1 dX8_finds_185 rfl ?_
                            refine n_sub hC (a := (121 * i + ee) - (121)) (b := 1) dX8_finds_186 (by omega) ?_
                            refine l_m_begin hC hK hX (i := ((121 * i + ee) - (121)) - (1)) (by omega) dX8_finds_187 (v := nI (127 - kcol (aTt (m_all S) p0) (aMb (m_all S) p0) (ee - 1) (i - 1) % 128)) ((hoo0 _ (by omega)).2.trans (hD (by omega) (by omega)).2) ?_
                            refine cv_V (As := [.int (nI (121 * i + ee)), .int (nI ((kcol (aTt (m_all S) p0) (aMb (m_all S) p0) (ee - 1) (i - 1) / 128) + (if aTt (m_all S) p0 (i - 1) (ee - 1) = true then 0 else 1))), .int (nI (127 - kcol (aTt (m_all S) p0) (aMb (m_all S) p0) (ee - 1) (i - 1) % 128))]) (rest := []) hC hK hA hX (c_X8_tries l G am (w_begin (w_fewest (S) (va_up (f2) (121 * i + ee) (1000))) (upd (g2) (121 * i + ee) ((-5)))) (121 * i + ee) ((kcol (aTt (m_all S) p0) (aMb (m_all S) p0) (ee - 1) (i - 1) / 128) + (if aTt (m_all S) p0 (i - 1) (ee - 1) = true then 0 else 1)) (127 - kcol (aTt (m_all S) p0) (aMb (m_all S) p0) (ee - 1) (i - 1) % 128) (kcol (aTt (m_all S) p0) (aMb (m_all S) p0) (ee - 1) (i - 1) + if aTt (m_all S) p0 (i - 1) (ee - 1) = true then 0 else 128) (by split <;> omega) (by split <;> omega) (by omega) (by split <;> omega) none hin0 (show va_up f2 (121 * i + ee) 1000 (121 * i + ee) < 2 ^ 31 from by rw [va_up_self]; decide)) (cwV 3 hC.2.2.2.2 gX8_finds_X8_tries rfl rfl rfl hd_X8_tries ⟨Nat.le_of_ble_eq_true rfl, Nat.le_of_ble_eq_true rfl⟩) (ci := 8) (q := (RX8, TX8, 21)) rfl (q0 := 0) rfl dX8_finds_188 rfl hl.1 rfl (Nat.le_of_ble_eq_true rfl) ⟨(Nat.zero_le _), (Nat.zero_le _)⟩ (fun S9 H locs hp9 hX => ?_)
                            obtain ⟨f188, g188, hS9, hck188, hot188⟩ := hp9
                            rw [hS9] at hX
                            replace hX : HH G A s.heap (wM G am (w_begin (w_fewest (S) (f188)) (g188))) H locs := hX
                            obtain ⟨k188, hk188⟩ : ∃ k, k = optMin (none) (kcol (aTt (m_all S) p0) (aMb (m_all S) p0) (ee - 1) (i - 1) + if aTt (m_all S) p0 (i - 1) (ee - 1) = true then 0 else 128) := ⟨_, rfl⟩
                            replace hck188 : cellK f188 g188 (121 * i + ee) k188 := by rw [hk188]; exact hck188
                            have hkb188 : k188 < 100000 := by rw [hk188]; first | exact optMin_lt (by omega) | exact optMin_lt2 (by omega) (by omega) | exact optMin_lt (by split <;> omega) | exact optMin_lt2 (by omega) (by split <;> omega)
                            have hoo188 : ∀ j, j ≠ 121 * i + ee → f188 j = f2 j ∧ g188 j = g2 j := fun j hj => ⟨(hot188 j hj).1.trans (hoo0 j hj).1, (hot188 j hj).2.trans (hoo0 j hj).2⟩
                            refine lv_iinc (v := nI (ee + 1)) (lv' := [(3, .int (nI (ee + 1))), (4, .int (nI (121 * i + ee))), (2, .int (nI (i))), (0, .ref (am 0)), (1, .int (nI (p0)))]) hC.1 hC.2.1 dX8_finds_191 hl (k := 1) rfl (n_inc1 _) (by decide) rfl (fun ls hl => ?_)
                            refine lv_goto (tgt := 13) hC.1 hC.2.1 dX8_finds_194 (by decide) ?_
                            have hkfin : k188 = kcol (aTt (m_all S) p0) (aMb (m_all S) p0) ee i := by
                              first
                              | (exfalso; omega)
                              | (rw [hk188, hk130, hk98]
                                 exact kfE (tk := aTt (m_all S) p0) (mb := aMb (m_all S) p0) (e := ee) (i := i) (by omega) (by omega))
                            refine ih13 (ee + 1) (f188) (g188) ?_ ?_ ?_ ?_ _ _ ls hX (lv_sub hl [0, 2, 3, 4] rfl)
                            · omega
                            · exact fun j e9 h1 h2 => by
                                have h3 := hoo188 (121 * j + e9) (by omega)
                                exact ⟨h3.1.trans (hin2 j e9 h1 h2).1, h3.2.trans (hin2 j e9 h1 h2).2⟩
                            · exact fun e9 h1 => by
                                by_cases h : e9 = ee
                                · subst h; rw [← hkfin]; exact hck188
                                · have h3 := hoo188 (121 * i + e9) (by omega)
                                  exact ⟨h3.1.trans (hrow e9 (by omega)).1, h3.2.trans (hrow e9 (by omega)).2⟩
                            · omega
                          refine b_if_eq hC (b := aTt (m_all S) (p0) (i - 1) (ee - 1)) (tgt := 174) dX8_finds_167 (by decide) (fun c167 => ?_) (fun c167 => ?_)
                          · skip
                            refine lv_iconst (v := nI (1)) hC.1 hC.2.1 dX8_finds_174 rfl ?_
                            refine n_top (y := nI (if aTt (m_all S) p0 (i - 1) (ee - 1) = true then 0 else 1)) (by first | rw [if_pos (by assumption)] | rw [if_neg (by simp_all)]) ?_
                            refine join175  _ _ ls  hX (lv_sub hl [0, 1, 2, 3, 4] rfl)
                          · skip
                            refine lv_iconst (v := nI (0)) hC.1 hC.2.1 dX8_finds_170 rfl ?_
                            refine lv_goto (tgt := 175) hC.1 hC.2.1 dX8_finds_171 (by decide) ?_
                            refine n_top (y := nI (if aTt (m_all S) p0 (i - 1) (ee - 1) = true then 0 else 1)) (by first | rw [if_pos (by assumption)] | rw [if_neg (by simp_all)]) ?_
                            refine join175  _ _ ls  hX (lv_sub hl [0, 1, 2, 3, 4] rfl)
                    · skip
                      refine lv_aload_n hC.1 hC.2.1 dX8_finds_105 rfl (lv_at hl 3 rfl) ?_
                      refine lv_iload hC.1 hC.2.1 dX8_finds_106 (lv_at hl 0 rfl) ?_
                      refine lv_aload_n hC.1 hC.2.1 dX8_finds_108 rfl (lv_at hl 3 rfl) ?_
                      refine g_m_fewest hC fi_X8_finds_X8 hK hX (wd9 hC 2 rfl) dX8_finds_109 ?_
                      refine lv_iload hC.1 hC.2.1 dX8_finds_112 (lv_at hl 0 rfl) ?_
                      refine lv_bipush (v := nI (121)) hC.1 hC.2.1 dX8_finds_114 (by decide +kernel) ?_
                      refine n_sub hC (a := 121 * i + ee) (b := 121) dX8_finds_116 (by omega) ?_
                      refine l_m_fewest hC hK hX (i := (121 * i + ee) - (121)) (by omega) dX8_finds_117 (v := kcol (aTt (m_all S) p0) (aMb (m_all S) p0) ee (i - 1) / 128) ((hoo0 _ (by omega)).1.trans (hU (by omega)).1) ?_
                      refine lv_iconst (v := nI (1)) hC.1 hC.2.1 dX8_finds_118 rfl ?_
                      refine n_add hC (a := kcol (aTt (m_all S) p0) (aMb (m_all S) p0) ee (i - 1) / 128) (b := 1) dX8_finds_119 ?_
                      refine lv_aload_n hC.1 hC.2.1 dX8_finds_120 rfl (lv_at hl 3 rfl) ?_
                      refine g_m_begin hC fi_X8_finds_X8 hK hX (wd9 hC 3 rfl) dX8_finds_121 ?_
                      refine lv_iload hC.1 hC.2.1 dX8_finds_124 (lv_at hl 0 rfl) ?_
                      refine lv_bipush (v := nI (121)) hC.1 hC.2.1 dX8_finds_126 (by decide +kernel) ?_
                      refine n_sub hC (a := 121 * i + ee) (b := 121) dX8_finds_128 (by omega) ?_
                      refine l_m_begin hC hK hX (i := (121 * i + ee) - (121)) (by omega) dX8_finds_129 (v := nI (127 - kcol (aTt (m_all S) p0) (aMb (m_all S) p0) ee (i - 1) % 128)) ((hoo0 _ (by omega)).2.trans (hU (by omega)).2) ?_
                      refine cv_V (As := [.int (nI (121 * i + ee)), .int (nI ((kcol (aTt (m_all S) p0) (aMb (m_all S) p0) ee (i - 1) / 128) + (1))), .int (nI (127 - kcol (aTt (m_all S) p0) (aMb (m_all S) p0) ee (i - 1) % 128))]) (rest := []) hC hK hA hX (c_X8_tries l G am (w_begin (w_fewest (S) (va_up (f2) (121 * i + ee) (1000))) (upd (g2) (121 * i + ee) ((-5)))) (121 * i + ee) ((kcol (aTt (m_all S) p0) (aMb (m_all S) p0) ee (i - 1) / 128) + (1)) (127 - kcol (aTt (m_all S) p0) (aMb (m_all S) p0) ee (i - 1) % 128) (kcol (aTt (m_all S) p0) (aMb (m_all S) p0) ee (i - 1) + 128) (by omega) (by omega) (by omega) (by omega) none hin0 (show va_up f2 (121 * i + ee) 1000 (121 * i + ee) < 2 ^ 31 from by rw [va_up_self]; decide)) (cwV 3 hC.2.2.2.2 gX8_finds_X8_tries rfl rfl rfl hd_X8_tries ⟨Nat.le_of_ble_eq_true rfl, Nat.le_of_ble_eq_true rfl⟩) (ci := 8) (q := (RX8, TX8, 21)) rfl (q0 := 0) rfl dX8_finds_130 rfl hl.1 rfl (Nat.le_of_ble_eq_true rfl) ⟨(Nat.zero_le _), (Nat.zero_le _)⟩ (fun S9 H locs hp9 hX => ?_)
                      obtain ⟨f130, g130, hS9, hck130, hot130⟩ := hp9
                      rw [hS9] at hX
                      replace hX : HH G A s.heap (wM G am (w_begin (w_fewest (S) (f130)) (g130))) H locs := hX
                      obtain ⟨k130, hk130⟩ : ∃ k, k = optMin (none) (kcol (aTt (m_all S) p0) (aMb (m_all S) p0) ee (i - 1) + 128) := ⟨_, rfl⟩
                      replace hck130 : cellK f130 g130 (121 * i + ee) k130 := by rw [hk130]; exact hck130
                      have hkb130 : k130 < 100000 := by rw [hk130]; first | exact optMin_lt (by omega) | exact optMin_lt2 (by omega) (by omega) | exact optMin_lt (by split <;> omega) | exact optMin_lt2 (by omega) (by split <;> omega)
                      have hoo130 : ∀ j, j ≠ 121 * i + ee → f130 j = f2 j ∧ g130 j = g2 j := fun j hj => ⟨(hot130 j hj).1.trans (hoo0 j hj).1, (hot130 j hj).2.trans (hoo0 j hj).2⟩
                      refine lv_iload_n hC.1 hC.2.1 dX8_finds_133 rfl (lv_at hl 2 rfl) ?_
                      refine n_if_le hC (a := i) (tgt := 191) dX8_finds_134 (by decide) (by omega) (fun c134 => ?_) (fun c134 => ?_)
                      · skip
                        refine lv_iinc (v := nI (ee + 1)) (lv' := [(3, .int (nI (ee + 1))), (4, .int (nI (121 * i + ee))), (2, .int (nI (i))), (0, .ref (am 0)), (1, .int (nI (p0)))]) hC.1 hC.2.1 dX8_finds_191 hl (k := 1) rfl (n_inc1 _) (by decide) rfl (fun ls hl => ?_)
                        refine lv_goto (tgt := 13) hC.1 hC.2.1 dX8_finds_194 (by decide) ?_
                        have hkfin : k130 = kcol (aTt (m_all S) p0) (aMb (m_all S) p0) ee i := by
                          first
                          | (exfalso; omega)
                          | (obtain rfl : ee = 0 := by omega
                             exact hk130.trans (kfD (tk := aTt (m_all S) p0) (mb := aMb (m_all S) p0) (i := i) (by omega)))
                        refine ih13 (ee + 1) (f130) (g130) ?_ ?_ ?_ ?_ _ _ ls hX (lv_sub hl [0, 2, 3, 4] rfl)
                        · omega
                        · exact fun j e9 h1 h2 => by
                            have h3 := hoo130 (121 * j + e9) (by omega)
                            exact ⟨h3.1.trans (hin2 j e9 h1 h2).1, h3.2.trans (hin2 j e9 h1 h2).2⟩
                        · exact fun e9 h1 => by
                            by_cases h : e9 = ee
                            · subst h; rw [← hkfin]; exact hck130
                            · have h3 := hoo130 (121 * i + e9) (by omega)
                              exact ⟨h3.1.trans (hrow e9 (by omega)).1, h3.2.trans (hrow e9 (by omega)).2⟩
                        · omega
                      · skip
                        refine lv_iload_n hC.1 hC.2.1 dX8_finds_137 rfl (lv_at hl 1 rfl) ?_
                        refine n_if_le hC (a := ee) (tgt := 191) dX8_finds_138 (by decide) (by omega) (fun c138 => ?_) (fun c138 => ?_)
                        · skip
                          refine lv_iinc (v := nI (ee + 1)) (lv' := [(3, .int (nI (ee + 1))), (4, .int (nI (121 * i + ee))), (2, .int (nI (i))), (0, .ref (am 0)), (1, .int (nI (p0)))]) hC.1 hC.2.1 dX8_finds_191 hl (k := 1) rfl (n_inc1 _) (by decide) rfl (fun ls hl => ?_)
                          refine lv_goto (tgt := 13) hC.1 hC.2.1 dX8_finds_194 (by decide) ?_
                          have hkfin : k130 = kcol (aTt (m_all S) p0) (aMb (m_all S) p0) ee i := by
                            first
                            | (exfalso; omega)
                            | (obtain rfl : ee = 0 := by omega
                               exact hk130.trans (kfD (tk := aTt (m_all S) p0) (mb := aMb (m_all S) p0) (i := i) (by omega)))
                          refine ih13 (ee + 1) (f130) (g130) ?_ ?_ ?_ ?_ _ _ ls hX (lv_sub hl [0, 2, 3, 4] rfl)
                          · omega
                          · exact fun j e9 h1 h2 => by
                              have h3 := hoo130 (121 * j + e9) (by omega)
                              exact ⟨h3.1.trans (hin2 j e9 h1 h2).1, h3.2.trans (hin2 j e9 h1 h2).2⟩
                          · exact fun e9 h1 => by
                              by_cases h : e9 = ee
                              · subst h; rw [← hkfin]; exact hck130
                              · have h3 := hoo130 (121 * i + e9) (by omega)
                                exact ⟨h3.1.trans (hrow e9 (by omega)).1, h3.2.trans (hrow e9 (by omega)).2⟩
                          · omega
                        · skip
                          refine lv_aload_n hC.1 hC.2.1 dX8_finds_141 rfl (lv_at hl 3 rfl) ?_
                          refine lv_iload hC.1 hC.2.1 dX8_finds_142 (lv_at hl 0 rfl) ?_
                          refine lv_aload_n hC.1 hC.2.1 dX8_finds_144 rfl (lv_at hl 3 rfl) ?_
                          refine g_m_fewest hC fi_X8_finds_X8 hK hX (wd9 hC 2 rfl) dX8_finds_145 ?_
                          refine lv_iload hC.1 hC.2.1 dX8_finds_148 (lv_at hl 0 rfl) ?_
                          refine lv_bipush (v := nI (121)) hC.1 hC.2.1 dX8_finds_150 (by decide +kernel) ?_
                          refine n_sub hC (a := 121 * i + ee) (b := 121) dX8_finds_152 (by omega) ?_
                          refine lv_iconst (v := nI (1)) hC.1 hC.2.1 dX8_finds_153 rfl ?_
                          refine n_sub hC (a := (121 * i + ee) - (121)) (b := 1) dX8_finds_154 (by omega) ?_
                          refine l_m_fewest hC hK hX (i := ((121 * i + ee) - (121)) - (1)) (by omega) dX8_finds_155 (v := kcol (aTt (m_all S) p0) (aMb (m_all S) p0) (ee - 1) (i - 1) / 128) ((hoo130 _ (by omega)).1.trans (hD (by omega) (by omega)).1) ?_
                          refine lv_aload_n hC.1 hC.2.1 dX8_finds_156 rfl (lv_at hl 3 rfl) ?_
                          refine lv_iload_n hC.1 hC.2.1 dX8_finds_157 rfl (lv_at hl 4 rfl) ?_
                          refine lv_iload_n hC.1 hC.2.1 dX8_finds_158 rfl (lv_at hl 2 rfl) ?_
                          refine lv_iconst (v := nI (1)) hC.1 hC.2.1 dX8_finds_159 rfl ?_
                          refine n_sub hC (a := i) (b := 1) dX8_finds_160 (by omega) ?_
                          refine lv_iload_n hC.1 hC.2.1 dX8_finds_161 rfl (lv_at hl 1 rfl) ?_
                          refine lv_iconst (v := nI (1)) hC.1 hC.2.1 dX8_finds_162 rfl ?_
                          refine n_sub hC (a := ee) (b := 1) dX8_finds_163 (by omega) ?_
                          refine cv_I (As := [.int (nI (p0)), .int (nI (i - 1)), .int (nI (ee - 1))]) (rest := [.int (nI (kcol (aTt (m_all S) p0) (aMb (m_all S) p0) (ee - 1) (i - 1) / 128)), .int (nI (121 * i + ee)), .ref (am 0)]) hC hK hA hX (c_X8_isTaken l G am (w_begin (w_fewest (S) (f130)) (g130)) (p0) (i - 1) (ee - 1) hp0 (by omega) (by omega) (hT0 _ (by omega)) (hK0 _ (by omega))) (cwV 3 hC.2.2.2.2 gX8_finds_X8_isTaken rfl rfl rfl hd_X8_isTaken ⟨Nat.le_of_ble_eq_true rfl, Nat.le_of_ble_eq_true rfl⟩) (ci := 8) (q := (RX8, TX8, 21)) rfl (q0 := 0) rfl dX8_finds_164 rfl hl.1 rfl (Nat.le_of_ble_eq_true rfl) ⟨(Nat.zero_le _), (Nat.zero_le _)⟩ (fun r9 S9 H locs hp9 hX => ?_)
                          obtain ⟨rfl, hS9⟩ := hp9
                          rw [hS9] at hX
                          replace hX : HH G A s.heap (wM G am (w_begin (w_fewest (S) (f130)) (g130))) H locs := hX
                          have join175 : ∀ (H : Heap) (locs : List Loc) (ls : Array Slot), HH G A s.heap (wM G am (w_begin (w_fewest (S) (f130)) (g130))) H locs → lv_has ls 5 [(4, .int (nI (121 * i + ee))), (3, .int (nI (ee))), (2, .int (nI (i))), (0, .ref (am 0)), (1, .int (nI (p0)))] → W p l e { frames := 2, cells := 0, slots := 0, locals := 45 } s m args below meth c H locs 0 0 (EndV G (wM G am) A (fun S' => ∃ f g, S' = w_begin (w_fewest S f) g ∧ ∀ i ee, i ≤ aPl (m_all S) p0 → ee ≤ aLen (m_all S) → cellK f g (121 * i + ee) (kcol (aTt (m_all S) p0) (aMb (m_all S) p0) ee i)) below args s 0 0) (F0 m 175 ls [.int (nI (if aTt (m_all S) p0 (i - 1) (ee - 1) = true then 0 else 1)), .int (nI (kcol (aTt (m_all S) p0) (aMb (m_all S) p0) (ee - 1) (i - 1) / 128)), .int (nI (121 * i + ee)), .ref (am 0)]) := by
                            intro  H locs ls  hX hl
                            refine n_add hC (a := kcol (aTt (m_all S) p0) (aMb (m_all S) p0) (ee - 1) (i - 1) / 128) (b := if aTt (m_all S) p0 (i - 1) (ee - 1) = true then 0 else 1) dX8_finds_175 ?_
                            refine lv_aload_n hC.1 hC.2.1 dX8_finds_176 rfl (lv_at hl 3 rfl) ?_
                            refine g_m_begin hC fi_X8_finds_X8 hK hX (wd9 hC 3 rfl) dX8_finds_177 ?_
                            refine lv_iload hC.1 hC.2.1 dX8_finds_180 (lv_at hl 0 rfl) ?_
                            refine lv_bipush (v := nI (121)) hC.1 hC.2.1 dX8_finds_182 (by decide +kernel) ?_
                            refine n_sub hC (a := 121 * i + ee) (b := 121) dX8_finds_184 (by omega) ?_
                            refine lv_iconst (v := nI (1)) hC.1 hC.2.1 dX8_finds_185 rfl ?_
                            refine n_sub hC (a := (121 * i + ee) - (121)) (b := 1) dX8_finds_186 (by omega) ?_
                            refine l_m_begin hC hK hX (i := ((121 * i + ee) - (121)) - (1)) (by omega) dX8_finds_187 (v := nI (127 - kcol (aTt (m_all S) p0) (aMb (m_all S) p0) (ee - 1) (i - 1) % 128)) ((hoo130 _ (by omega)).2.trans (hD (by omega) (by omega)).2) ?_
                            refine cv_V (As := [.int (nI (121 * i + ee)), .int (nI ((kcol (aTt (m_all S) p0) (aMb (m_all S) p0) (ee - 1) (i - 1) / 128) + (if aTt (m_all S) p0 (i - 1) (ee - 1) = true then 0 else 1))), .int (nI (127 - kcol (aTt (m_all S) p0) (aMb (m_all S) p0) (ee - 1) (i - 1) % 128))]) (rest := []) hC hK hA hX (c_X8_tries l G am (w_begin (w_fewest (S) (f130)) (g130)) (121 * i + ee) ((kcol (aTt (m_all S) p0) (aMb (m_all S) p0) (ee - 1) (i - 1) / 128) + (if aTt (m_all S) p0 (i - 1) (ee - 1) = true then 0 else 1)) (127 - kcol (aTt (m_all S) p0) (aMb (m_all S) p0) (ee - 1) (i - 1) % 128) (kcol (aTt (m_all S) p0) (aMb (m_all S) p0) (ee - 1) (i - 1) + if aTt (m_all S) p0 (i - 1) (ee - 1) = true then 0 else 128) (by split <;> omega) (by split <;> omega) (by omega) (by split <;> omega) (some k130) hck130 (show f130 (121 * i + ee) < 2 ^ 31 from by rw [hck130.1]; omega)) (cwV 3 hC.2.2.2.2 gX8_finds_X8_tries rfl rfl rfl hd_X8_tries ⟨Nat.le_of_ble_eq_true rfl, Nat.le_of_ble_eq_true rfl⟩) (ci := 8) (q := (RX8, TX8, 21)) rfl (q0 := 0) rfl dX8_finds_188 rfl hl.1 rfl (Nat.le_of_ble_eq_true rfl) ⟨(Nat.zero_le _), (Nat.zero_le _)⟩ (fun S9 H locs hp9 hX => ?_)
                            obtain ⟨f188, g188, hS9, hck188, hot188⟩ := hp9
                            rw [hS9] at hX
                            replace hX : HH G A s.heap (wM G am (w_begin (w_fewest (S) (f188)) (g188))) H locs := hX
                            obtain ⟨k188, hk188⟩ : ∃ k, k = optMin (some k130) (kcol (aTt (m_all S) p0) (aMb (m_all S) p0) (ee - 1) (i - 1) + if aTt (m_all S) p0 (i - 1) (ee - 1) = true then 0 else 128) := ⟨_, rfl⟩
                            replace hck188 : cellK f188 g188 (121 * i + ee) k188 := by rw [hk188]; exact hck188
                            have hkb188 : k188 < 100000 := by rw [hk188]; first | exact optMin_lt (by omega) | exact optMin_lt2 (by omega) (by omega) | exact optMin_lt (by split <;> omega) | exact optMin_lt2 (by omega) (by split <;> omega)
                            have hoo188 : ∀ j, j ≠ 121 * i + ee → f188 j = f2 j ∧ g188 j = g2 j := fun j hj => ⟨(hot188 j hj).1.trans (hoo130 j hj).1, (hot188 j hj).2.trans (hoo130 j hj).2⟩
                            refine lv_iinc (v := nI (ee + 1)) (lv' := [(3, .int (nI (ee + 1))), (4, .int (nI (121 * i + ee))), (2, .int (nI (i))), (0, .ref (am 0)), (1, .int (nI (p0)))]) hC.1 hC.2.1 dX8_finds_191 hl (k := 1) rfl (n_inc1 _) (by decide) rfl (fun ls hl => ?_)
                            refine lv_goto (tgt := 13) hC.1 hC.2.1 dX8_finds_194 (by decide) ?_
                            have hkfin : k188 = kcol (aTt (m_all S) p0) (aMb (m_all S) p0) ee i := by
                              first
                              | (exfalso; omega)
                              | (rw [hk188, hk130, hk98]
                                 exact kfE (tk := aTt (m_all S) p0) (mb := aMb (m_all S) p0) (e := ee) (i := i) (by omega) (by omega))
                            refine ih13 (ee + 1) (f188) (g188) ?_ ?_ ?_ ?_ _ _ ls hX (lv_sub hl [0, 2, 3, 4] rfl)
                            · omega
                            · exact fun j e9 h1 h2 => by
                                have h3 := hoo188 (121 * j + e9) (by omega)
                                exact ⟨h3.1.trans (hin2 j e9 h1 h2).1, h3.2.trans (hin2 j e9 h1 h2).2⟩
                            · exact fun e9 h1 => by
                                by_cases h : e9 = ee
                                · subst h; rw [← hkfin]; exact hck188
                                · have h3 := hoo188 (121 * i + e9) (by omega)
                                  exact ⟨h3.1.trans (hrow e9 (by omega)).1, h3.2.trans (hrow e9 (by omega)).2⟩
                            · omega
                          refine b_if_eq hC (b := aTt (m_all S) (p0) (i - 1) (ee - 1)) (tgt := 174) dX8_finds_167 (by decide) (fun c167 => ?_) (fun c167 => ?_)
                          · skip
                            refine lv_iconst (v := nI (1)) hC.1 hC.2.1 dX8_finds_174 rfl ?_
                            refine n_top (y := nI (if aTt (m_all S) p0 (i - 1) (ee - 1) = true then 0 else 1)) (by first | rw [if_pos (by assumption)] | rw [if_neg (by simp_all)]) ?_
                            refine join175  _ _ ls  hX (lv_sub hl [0, 1, 2, 3, 4] rfl)
                          · skip
                            refine lv_iconst (v := nI (0)) hC.1 hC.2.1 dX8_finds_170 rfl ?_
                            refine lv_goto (tgt := 175) hC.1 hC.2.1 dX8_finds_171 (by decide) ?_
                            refine n_top (y := nI (if aTt (m_all S) p0 (i - 1) (ee - 1) = true then 0 else 1)) (by first | rw [if_pos (by assumption)] | rw [if_neg (by simp_all)]) ?_
                            refine join175  _ _ ls  hX (lv_sub hl [0, 1, 2, 3, 4] rfl)
                  · skip
                    refine lv_aload_n hC.1 hC.2.1 dX8_finds_75 rfl (lv_at hl 3 rfl) ?_
                    refine lv_iload hC.1 hC.2.1 dX8_finds_76 (lv_at hl 0 rfl) ?_
                    refine lv_aload_n hC.1 hC.2.1 dX8_finds_78 rfl (lv_at hl 3 rfl) ?_
                    refine g_m_fewest hC fi_X8_finds_X8 hK hX (wd9 hC 2 rfl) dX8_finds_79 ?_
                    refine lv_iload hC.1 hC.2.1 dX8_finds_82 (lv_at hl 0 rfl) ?_
                    refine lv_iconst (v := nI (1)) hC.1 hC.2.1 dX8_finds_84 rfl ?_
                    refine n_sub hC (a := 121 * i + ee) (b := 1) dX8_finds_85 (by omega) ?_
                    refine l_m_fewest hC hK hX (i := (121 * i + ee) - (1)) (by omega) dX8_finds_86 (v := kcol (aTt (m_all S) p0) (aMb (m_all S) p0) (ee - 1) i / 128) ((hoo0 _ (by omega)).1.trans (hL1 (by omega)).1) ?_
                    refine lv_iconst (v := nI (1)) hC.1 hC.2.1 dX8_finds_87 rfl ?_
                    refine n_add hC (a := kcol (aTt (m_all S) p0) (aMb (m_all S) p0) (ee - 1) i / 128) (b := 1) dX8_finds_88 ?_
                    refine lv_aload_n hC.1 hC.2.1 dX8_finds_89 rfl (lv_at hl 3 rfl) ?_
                    refine g_m_begin hC fi_X8_finds_X8 hK hX (wd9 hC 3 rfl) dX8_finds_90 ?_
                    refine lv_iload hC.1 hC.2.1 dX8_finds_93 (lv_at hl 0 rfl) ?_
                    refine lv_iconst (v := nI (1)) hC.1 hC.2.1 dX8_finds_95 rfl ?_
                    refine n_sub hC (a := 121 * i + ee) (b := 1) dX8_finds_96 (by omega) ?_
                    refine l_m_begin hC hK hX (i := (121 * i + ee) - (1)) (by omega) dX8_finds_97 (v := nI (127 - kcol (aTt (m_all S) p0) (aMb (m_all S) p0) (ee - 1) i % 128)) ((hoo0 _ (by omega)).2.trans (hL1 (by omega)).2) ?_
                    refine cv_V (As := [.int (nI (121 * i + ee)), .int (nI ((kcol (aTt (m_all S) p0) (aMb (m_all S) p0) (ee - 1) i / 128) + (1))), .int (nI (127 - kcol (aTt (m_all S) p0) (aMb (m_all S) p0) (ee - 1) i % 128))]) (rest := []) hC hK hA hX (c_X8_tries l G am (w_begin (w_fewest (S) (va_up (f2) (121 * i + ee) (1000))) (upd (g2) (121 * i + ee) ((-5)))) (121 * i + ee) ((kcol (aTt (m_all S) p0) (aMb (m_all S) p0) (ee - 1) i / 128) + (1)) (127 - kcol (aTt (m_all S) p0) (aMb (m_all S) p0) (ee - 1) i % 128) (kcol (aTt (m_all S) p0) (aMb (m_all S) p0) (ee - 1) i + 128) (by omega) (by omega) (by omega) (by omega) none hin0 (show va_up f2 (121 * i + ee) 1000 (121 * i + ee) < 2 ^ 31 from by rw [va_up_self]; decide)) (cwV 3 hC.2.2.2.2 gX8_finds_X8_tries rfl rfl rfl hd_X8_tries ⟨Nat.le_of_ble_eq_true rfl, Nat.le_of_ble_eq_true rfl⟩) (ci := 8) (q := (RX8, TX8, 21)) rfl (q0 := 0) rfl dX8_finds_98 rfl hl.1 rfl (Nat.le_of_ble_eq_true rfl) ⟨(Nat.zero_le _), (Nat.zero_le _)⟩ (fun S9 H locs hp9 hX => ?_)
                    obtain ⟨f98, g98, hS9, hck98, hot98⟩ := hp9
                    rw [hS9] at hX
                    replace hX : HH G A s.heap (wM G am (w_begin (w_fewest (S) (f98)) (g98))) H locs := hX
                    obtain ⟨k98, hk98⟩ : ∃ k, k = optMin (none) (kcol (aTt (m_all S) p0) (aMb (m_all S) p0) (ee - 1) i + 128) := ⟨_, rfl⟩
                    replace hck98 : cellK f98 g98 (121 * i + ee) k98 := by rw [hk98]; exact hck98
                    have hkb98 : k98 < 100000 := by rw [hk98]; first | exact optMin_lt (by omega) | exact optMin_lt2 (by omega) (by omega) | exact optMin_lt (by split <;> omega) | exact optMin_lt2 (by omega) (by split <;> omega)
                    have hoo98 : ∀ j, j ≠ 121 * i + ee → f98 j = f2 j ∧ g98 j = g2 j := fun j hj => ⟨(hot98 j hj).1.trans (hoo0 j hj).1, (hot98 j hj).2.trans (hoo0 j hj).2⟩
                    refine lv_iload_n hC.1 hC.2.1 dX8_finds_101 rfl (lv_at hl 2 rfl) ?_
                    refine n_if_le hC (a := i) (tgt := 133) dX8_finds_102 (by decide) (by omega) (fun c102 => ?_) (fun c102 => ?_)
                    · skip
                      refine lv_iload_n hC.1 hC.2.1 dX8_finds_133 rfl (lv_at hl 2 rfl) ?_
                      refine n_if_le hC (a := i) (tgt := 191) dX8_finds_134 (by decide) (by omega) (fun c134 => ?_) (fun c134 => ?_)
                      · skip
                        refine lv_iinc (v := nI (ee + 1)) (lv' := [(3, .int (nI (ee + 1))), (4, .int (nI (121 * i + ee))), (2, .int (nI (i))), (0, .ref (am 0)), (1, .int (nI (p0)))]) hC.1 hC.2.1 dX8_finds_191 hl (k := 1) rfl (n_inc1 _) (by decide) rfl (fun ls hl => ?_)
                        refine lv_goto (tgt := 13) hC.1 hC.2.1 dX8_finds_194 (by decide) ?_
                        have hkfin : k98 = kcol (aTt (m_all S) p0) (aMb (m_all S) p0) ee i := by
                          first
                          | (exfalso; omega)
                          | (obtain rfl : i = 0 := by omega
                             exact hk98.trans (by rw [hk68]; exact kfB (tk := aTt (m_all S) p0) (mb := aMb (m_all S) p0) (e := ee) (by omega) (by assumption)))
                          | (obtain rfl : i = 0 := by omega
                             exact hk98.trans (kfC (tk := aTt (m_all S) p0) (mb := aMb (m_all S) p0) (e := ee) (by omega) (by assumption)))
                        refine ih13 (ee + 1) (f98) (g98) ?_ ?_ ?_ ?_ _ _ ls hX (lv_sub hl [0, 2, 3, 4] rfl)
                        · omega
                        · exact fun j e9 h1 h2 => by
                            have h3 := hoo98 (121 * j + e9) (by omega)
                            exact ⟨h3.1.trans (hin2 j e9 h1 h2).1, h3.2.trans (hin2 j e9 h1 h2).2⟩
                        · exact fun e9 h1 => by
                            by_cases h : e9 = ee
                            · subst h; rw [← hkfin]; exact hck98
                            · have h3 := hoo98 (121 * i + e9) (by omega)
                              exact ⟨h3.1.trans (hrow e9 (by omega)).1, h3.2.trans (hrow e9 (by omega)).2⟩
                        · omega
                      · skip
                        refine lv_iload_n hC.1 hC.2.1 dX8_finds_137 rfl (lv_at hl 1 rfl) ?_
                        refine n_if_le hC (a := ee) (tgt := 191) dX8_finds_138 (by decide) (by omega) (fun c138 => ?_) (fun c138 => ?_)
                        · skip
                          refine lv_iinc (v := nI (ee + 1)) (lv' := [(3, .int (nI (ee + 1))), (4, .int (nI (121 * i + ee))), (2, .int (nI (i))), (0, .ref (am 0)), (1, .int (nI (p0)))]) hC.1 hC.2.1 dX8_finds_191 hl (k := 1) rfl (n_inc1 _) (by decide) rfl (fun ls hl => ?_)
                          refine lv_goto (tgt := 13) hC.1 hC.2.1 dX8_finds_194 (by decide) ?_
                          have hkfin : k98 = kcol (aTt (m_all S) p0) (aMb (m_all S) p0) ee i := by
                            first
                            | (exfalso; omega)
                            | (obtain rfl : i = 0 := by omega
                               exact hk98.trans (by rw [hk68]; exact kfB (tk := aTt (m_all S) p0) (mb := aMb (m_all S) p0) (e := ee) (by omega) (by assumption)))
                            | (obtain rfl : i = 0 := by omega
                               exact hk98.trans (kfC (tk := aTt (m_all S) p0) (mb := aMb (m_all S) p0) (e := ee) (by omega) (by assumption)))
                          refine ih13 (ee + 1) (f98) (g98) ?_ ?_ ?_ ?_ _ _ ls hX (lv_sub hl [0, 2, 3, 4] rfl)
                          · omega
                          · exact fun j e9 h1 h2 => by
                              have h3 := hoo98 (121 * j + e9) (by omega)
                              exact ⟨h3.1.trans (hin2 j e9 h1 h2).1, h3.2.trans (hin2 j e9 h1 h2).2⟩
                          · exact fun e9 h1 => by
                              by_cases h : e9 = ee
                              · subst h; rw [← hkfin]; exact hck98
                              · have h3 := hoo98 (121 * i + e9) (by omega)
                                exact ⟨h3.1.trans (hrow e9 (by omega)).1, h3.2.trans (hrow e9 (by omega)).2⟩
                          · omega
                        · skip
                          refine lv_aload_n hC.1 hC.2.1 dX8_finds_141 rfl (lv_at hl 3 rfl) ?_
                          refine lv_iload hC.1 hC.2.1 dX8_finds_142 (lv_at hl 0 rfl) ?_
                          refine lv_aload_n hC.1 hC.2.1 dX8_finds_144 rfl (lv_at hl 3 rfl) ?_
                          refine g_m_fewest hC fi_X8_finds_X8 hK hX (wd9 hC 2 rfl) dX8_finds_145 ?_
                          refine lv_iload hC.1 hC.2.1 dX8_finds_148 (lv_at hl 0 rfl) ?_
                          refine lv_bipush (v := nI (121)) hC.1 hC.2.1 dX8_finds_150 (by decide +kernel) ?_
                          refine n_sub hC (a := 121 * i + ee) (b := 121) dX8_finds_152 (by omega) ?_
                          refine lv_iconst (v := nI (1)) hC.1 hC.2.1 dX8_finds_153 rfl ?_
                          refine n_sub hC (a := (121 * i + ee) - (121)) (b := 1) dX8_finds_154 (by omega) ?_
                          refine l_m_fewest hC hK hX (i := ((121 * i + ee) - (121)) - (1)) (by omega) dX8_finds_155 (v := kcol (aTt (m_all S) p0) (aMb (m_all S) p0) (ee - 1) (i - 1) / 128) ((hoo98 _ (by omega)).1.trans (hD (by omega) (by omega)).1) ?_
                          refine lv_aload_n hC.1 hC.2.1 dX8_finds_156 rfl (lv_at hl 3 rfl) ?_
                          refine lv_iload_n hC.1 hC.2.1 dX8_finds_157 rfl (lv_at hl 4 rfl) ?_
                          refine lv_iload_n hC.1 hC.2.1 dX8_finds_158 rfl (lv_at hl 2 rfl) ?_
                          refine lv_iconst (v := nI (1)) hC.1 hC.2.1 dX8_finds_159 rfl ?_
                          refine n_sub hC (a := i) (b := 1) dX8_finds_160 (by omega) ?_
                          refine lv_iload_n hC.1 hC.2.1 dX8_finds_161 rfl (lv_at hl 1 rfl) ?_
                          refine lv_iconst (v := nI (1)) hC.1 hC.2.1 dX8_finds_162 rfl ?_
                          refine n_sub hC (a := ee) (b := 1) dX8_finds_163 (by omega) ?_
                          refine cv_I (As := [.int (nI (p0)), .int (nI (i - 1)), .int (nI (ee - 1))]) (rest := [.int (nI (kcol (aTt (m_all S) p0) (aMb (m_all S) p0) (ee - 1) (i - 1) / 128)), .int (nI (121 * i + ee)), .ref (am 0)]) hC hK hA hX (c_X8_isTaken l G am (w_begin (w_fewest (S) (f98)) (g98)) (p0) (i - 1) (ee - 1) hp0 (by omega) (by omega) (hT0 _ (by omega)) (hK0 _ (by omega))) (cwV 3 hC.2.2.2.2 gX8_finds_X8_isTaken rfl rfl rfl hd_X8_isTaken ⟨Nat.le_of_ble_eq_true rfl, Nat.le_of_ble_eq_true rfl⟩) (ci := 8) (q := (RX8, TX8, 21)) rfl (q0 := 0) rfl dX8_finds_164 rfl hl.1 rfl (Nat.le_of_ble_eq_true rfl) ⟨(Nat.zero_le _), (Nat.zero_le _)⟩ (fun r9 S9 H locs hp9 hX => ?_)
                          obtain ⟨rfl, hS9⟩ := hp9
                          rw [hS9] at hX
                          replace hX : HH G A s.heap (wM G am (w_begin (w_fewest (S) (f98)) (g98))) H locs := hX
                          have join175 : ∀ (H : Heap) (locs : List Loc) (ls : Array Slot), HH G A s.heap (wM G am (w_begin (w_fewest (S) (f98)) (g98))) H locs → lv_has ls 5 [(4, .int (nI (121 * i + ee))), (3, .int (nI (ee))), (2, .int (nI (i))), (0, .ref (am 0)), (1, .int (nI (p0)))] → W p l e { frames := 2, cells := 0, slots := 0, locals := 45 } s m args below meth c H locs 0 0 (EndV G (wM G am) A (fun S' => ∃ f g, S' = w_begin (w_fewest S f) g ∧ ∀ i ee, i ≤ aPl (m_all S) p0 → ee ≤ aLen (m_all S) → cellK f g (121 * i + ee) (kcol (aTt (m_all S) p0) (aMb (m_all S) p0) ee i)) below args s 0 0) (F0 m 175 ls [.int (nI (if aTt (m_all S) p0 (i - 1) (ee - 1) = true then 0 else 1)), .int (nI (kcol (aTt (m_all S) p0) (aMb (m_all S) p0) (ee - 1) (i - 1) / 128)), .int (nI (121 * i + ee)), .ref (am 0)]) := by
                            intro  H locs ls  hX hl
                            refine n_add hC (a := kcol (aTt (m_all S) p0) (aMb (m_all S) p0) (ee - 1) (i - 1) / 128) (b := if aTt (m_all S) p0 (i - 1) (ee - 1) = true then 0 else 1) dX8_finds_175 ?_
                            refine lv_aload_n hC.1 hC.2.1 dX8_finds_176 rfl (lv_at hl 3 rfl) ?_
                            refine g_m_begin hC fi_X8_finds_X8 hK hX (wd9 hC 3 rfl) dX8_finds_177 ?_
                            refine lv_iload hC.1 hC.2.1 dX8_finds_180 (lv_at hl 0 rfl) ?_
                            refine lv_bipush (v := nI (121)) hC.1 hC.2.1 dX8_finds_182 (by decide +kernel) ?_
                            refine n_sub hC (a := 121 * i + ee) (b := 121) dX8_finds_184 (by omega) ?_
                            refine lv_iconst (v := nI (1)) hC.1 hC.2.1 dX8_finds_185 rfl ?_
                            refine n_sub hC (a := (121 * i + ee) - (121)) (b := 1) dX8_finds_186 (by omega) ?_
                            refine l_m_begin hC hK hX (i := ((121 * i + ee) - (121)) - (1)) (by omega) dX8_finds_187 (v := nI (127 - kcol (aTt (m_all S) p0) (aMb (m_all S) p0) (ee - 1) (i - 1) % 128)) ((hoo98 _ (by omega)).2.trans (hD (by omega) (by omega)).2) ?_
                            refine cv_V (As := [.int (nI (121 * i + ee)), .int (nI ((kcol (aTt (m_all S) p0) (aMb (m_all S) p0) (ee - 1) (i - 1) / 128) + (if aTt (m_all S) p0 (i - 1) (ee - 1) = true then 0 else 1))), .int (nI (127 - kcol (aTt (m_all S) p0) (aMb (m_all S) p0) (ee - 1) (i - 1) % 128))]) (rest := []) hC hK hA hX (c_X8_tries l G am (w_begin (w_fewest (S) (f98)) (g98)) (121 * i + ee) ((kcol (aTt (m_all S) p0) (aMb (m_all S) p0) (ee - 1) (i - 1) / 128) + (if aTt (m_all S) p0 (i - 1) (ee - 1) = true then 0 else 1)) (127 - kcol (aTt (m_all S) p0) (aMb (m_all S) p0) (ee - 1) (i - 1) % 128) (kcol (aTt (m_all S) p0) (aMb (m_all S) p0) (ee - 1) (i - 1) + if aTt (m_all S) p0 (i - 1) (ee - 1) = true then 0 else 128) (by split <;> omega) (by split <;> omega) (by omega) (by split <;> omega) (some k98) hck98 (show f98 (121 * i + ee) < 2 ^ 31 from by rw [hck98.1]; omega)) (cwV 3 hC.2.2.2.2 gX8_finds_X8_tries rfl rfl rfl hd_X8_tries ⟨Nat.le_of_ble_eq_true rfl, Nat.le_of_ble_eq_true rfl⟩) (ci := 8) (q := (RX8, TX8, 21)) rfl (q0 := 0) rfl dX8_finds_188 rfl hl.1 rfl (Nat.le_of_ble_eq_true rfl) ⟨(Nat.zero_le _), (Nat.zero_le _)⟩ (fun S9 H locs hp9 hX => ?_)
                            obtain ⟨f188, g188, hS9, hck188, hot188⟩ := hp9
                            rw [hS9] at hX
                            replace hX : HH G A s.heap (wM G am (w_begin (w_fewest (S) (f188)) (g188))) H locs := hX
                            obtain ⟨k188, hk188⟩ : ∃ k, k = optMin (some k98) (kcol (aTt (m_all S) p0) (aMb (m_all S) p0) (ee - 1) (i - 1) + if aTt (m_all S) p0 (i - 1) (ee - 1) = true then 0 else 128) := ⟨_, rfl⟩
                            replace hck188 : cellK f188 g188 (121 * i + ee) k188 := by rw [hk188]; exact hck188
                            have hkb188 : k188 < 100000 := by rw [hk188]; first | exact optMin_lt (by omega) | exact optMin_lt2 (by omega) (by omega) | exact optMin_lt (by split <;> omega) | exact optMin_lt2 (by omega) (by split <;> omega)
                            have hoo188 : ∀ j, j ≠ 121 * i + ee → f188 j = f2 j ∧ g188 j = g2 j := fun j hj => ⟨(hot188 j hj).1.trans (hoo98 j hj).1, (hot188 j hj).2.trans (hoo98 j hj).2⟩
                            refine lv_iinc (v := nI (ee + 1)) (lv' := [(3, .int (nI (ee + 1))), (4, .int (nI (121 * i + ee))), (2, .int (nI (i))), (0, .ref (am 0)), (1, .int (nI (p0)))]) hC.1 hC.2.1 dX8_finds_191 hl (k := 1) rfl (n_inc1 _) (by decide) rfl (fun ls hl => ?_)
                            refine lv_goto (tgt := 13) hC.1 hC.2.1 dX8_finds_194 (by decide) ?_
                            have hkfin : k188 = kcol (aTt (m_all S) p0) (aMb (m_all S) p0) ee i := by
                              first
                              | (exfalso; omega)
                              | (rw [hk188, hk130, hk98]
                                 exact kfE (tk := aTt (m_all S) p0) (mb := aMb (m_all S) p0) (e := ee) (i := i) (by omega) (by omega))
                            refine ih13 (ee + 1) (f188) (g188) ?_ ?_ ?_ ?_ _ _ ls hX (lv_sub hl [0, 2, 3, 4] rfl)
                            · omega
                            · exact fun j e9 h1 h2 => by
                                have h3 := hoo188 (121 * j + e9) (by omega)
                                exact ⟨h3.1.trans (hin2 j e9 h1 h2).1, h3.2.trans (hin2 j e9 h1 h2).2⟩
                            · exact fun e9 h1 => by
                                by_cases h : e9 = ee
                                · subst h; rw [← hkfin]; exact hck188
                                · have h3 := hoo188 (121 * i + e9) (by omega)
                                  exact ⟨h3.1.trans (hrow e9 (by omega)).1, h3.2.trans (hrow e9 (by omega)).2⟩
                            · omega
                          refine b_if_eq hC (b := aTt (m_all S) (p0) (i - 1) (ee - 1)) (tgt := 174) dX8_finds_167 (by decide) (fun c167 => ?_) (fun c167 => ?_)
                          · skip
                            refine lv_iconst (v := nI (1)) hC.1 hC.2.1 dX8_finds_174 rfl ?_
                            refine n_top (y := nI (if aTt (m_all S) p0 (i - 1) (ee - 1) = true then 0 else 1)) (by first | rw [if_pos (by assumption)] | rw [if_neg (by simp_all)]) ?_
                            refine join175  _ _ ls  hX (lv_sub hl [0, 1, 2, 3, 4] rfl)
                          · skip
                            refine lv_iconst (v := nI (0)) hC.1 hC.2.1 dX8_finds_170 rfl ?_
                            refine lv_goto (tgt := 175) hC.1 hC.2.1 dX8_finds_171 (by decide) ?_
                            refine n_top (y := nI (if aTt (m_all S) p0 (i - 1) (ee - 1) = true then 0 else 1)) (by first | rw [if_pos (by assumption)] | rw [if_neg (by simp_all)]) ?_
                            refine join175  _ _ ls  hX (lv_sub hl [0, 1, 2, 3, 4] rfl)
                    · skip
                      refine lv_aload_n hC.1 hC.2.1 dX8_finds_105 rfl (lv_at hl 3 rfl) ?_
                      refine lv_iload hC.1 hC.2.1 dX8_finds_106 (lv_at hl 0 rfl) ?_
                      refine lv_aload_n hC.1 hC.2.1 dX8_finds_108 rfl (lv_at hl 3 rfl) ?_
                      refine g_m_fewest hC fi_X8_finds_X8 hK hX (wd9 hC 2 rfl) dX8_finds_109 ?_
                      refine lv_iload hC.1 hC.2.1 dX8_finds_112 (lv_at hl 0 rfl) ?_
                      refine lv_bipush (v := nI (121)) hC.1 hC.2.1 dX8_finds_114 (by decide +kernel) ?_
                      refine n_sub hC (a := 121 * i + ee) (b := 121) dX8_finds_116 (by omega) ?_
                      refine l_m_fewest hC hK hX (i := (121 * i + ee) - (121)) (by omega) dX8_finds_117 (v := kcol (aTt (m_all S) p0) (aMb (m_all S) p0) ee (i - 1) / 128) ((hoo98 _ (by omega)).1.trans (hU (by omega)).1) ?_
                      refine lv_iconst (v := nI (1)) hC.1 hC.2.1 dX8_finds_118 rfl ?_
                      refine n_add hC (a := kcol (aTt (m_all S) p0) (aMb (m_all S) p0) ee (i - 1) / 128) (b := 1) dX8_finds_119 ?_
                      refine lv_aload_n hC.1 hC.2.1 dX8_finds_120 rfl (lv_at hl 3 rfl) ?_
                      refine g_m_begin hC fi_X8_finds_X8 hK hX (wd9 hC 3 rfl) dX8_finds_121 ?_
                      refine lv_iload hC.1 hC.2.1 dX8_finds_124 (lv_at hl 0 rfl) ?_
                      refine lv_bipush (v := nI (121)) hC.1 hC.2.1 dX8_finds_126 (by decide +kernel) ?_
                      refine n_sub hC (a := 121 * i + ee) (b := 121) dX8_finds_128 (by omega) ?_
                      refine l_m_begin hC hK hX (i := (121 * i + ee) - (121)) (by omega) dX8_finds_129 (v := nI (127 - kcol (aTt (m_all S) p0) (aMb (m_all S) p0) ee (i - 1) % 128)) ((hoo98 _ (by omega)).2.trans (hU (by omega)).2) ?_
                      refine cv_V (As := [.int (nI (121 * i + ee)), .int (nI ((kcol (aTt (m_all S) p0) (aMb (m_all S) p0) ee (i - 1) / 128) + (1))), .int (nI (127 - kcol (aTt (m_all S) p0) (aMb (m_all S) p0) ee (i - 1) % 128))]) (rest := []) hC hK hA hX (c_X8_tries l G am (w_begin (w_fewest (S) (f98)) (g98)) (121 * i + ee) ((kcol (aTt (m_all S) p0) (aMb (m_all S) p0) ee (i - 1) / 128) + (1)) (127 - kcol (aTt (m_all S) p0) (aMb (m_all S) p0) ee (i - 1) % 128) (kcol (aTt (m_all S) p0) (aMb (m_all S) p0) ee (i - 1) + 128) (by omega) (by omega) (by omega) (by omega) (some k98) hck98 (show f98 (121 * i + ee) < 2 ^ 31 from by rw [hck98.1]; omega)) (cwV 3 hC.2.2.2.2 gX8_finds_X8_tries rfl rfl rfl hd_X8_tries ⟨Nat.le_of_ble_eq_true rfl, Nat.le_of_ble_eq_true rfl⟩) (ci := 8) (q := (RX8, TX8, 21)) rfl (q0 := 0) rfl dX8_finds_130 rfl hl.1 rfl (Nat.le_of_ble_eq_true rfl) ⟨(Nat.zero_le _), (Nat.zero_le _)⟩ (fun S9 H locs hp9 hX => ?_)
                      obtain ⟨f130, g130, hS9, hck130, hot130⟩ := hp9
                      rw [hS9] at hX
                      replace hX : HH G A s.heap (wM G am (w_begin (w_fewest (S) (f130)) (g130))) H locs := hX
                      obtain ⟨k130, hk130⟩ : ∃ k, k = optMin (some k98) (kcol (aTt (m_all S) p0) (aMb (m_all S) p0) ee (i - 1) + 128) := ⟨_, rfl⟩
                      replace hck130 : cellK f130 g130 (121 * i + ee) k130 := by rw [hk130]; exact hck130
                      have hkb130 : k130 < 100000 := by rw [hk130]; first | exact optMin_lt (by omega) | exact optMin_lt2 (by omega) (by omega) | exact optMin_lt (by split <;> omega) | exact optMin_lt2 (by omega) (by split <;> omega)
                      have hoo130 : ∀ j, j ≠ 121 * i + ee → f130 j = f2 j ∧ g130 j = g2 j := fun j hj => ⟨(hot130 j hj).1.trans (hoo98 j hj).1, (hot130 j hj).2.trans (hoo98 j hj).2⟩
                      refine lv_iload_n hC.1 hC.2.1 dX8_finds_133 rfl (lv_at hl 2 rfl) ?_
                      refine n_if_le hC (a := i) (tgt := 191) dX8_finds_134 (by decide) (by omega) (fun c134 => ?_) (fun c134 => ?_)
                      · skip
                        refine lv_iinc (v := nI (ee + 1)) (lv' := [(3, .int (nI (ee + 1))), (4, .int (nI (121 * i + ee))), (2, .int (nI (i))), (0, .ref (am 0)), (1, .int (nI (p0)))]) hC.1 hC.2.1 dX8_finds_191 hl (k := 1) rfl (n_inc1 _) (by decide) rfl (fun ls hl => ?_)
                        refine lv_goto (tgt := 13) hC.1 hC.2.1 dX8_finds_194 (by decide) ?_
                        have hkfin : k130 = kcol (aTt (m_all S) p0) (aMb (m_all S) p0) ee i := by
                          first
                          | (exfalso; omega)
                          | (obtain rfl : ee = 0 := by omega
                             exact hk130.trans (kfD (tk := aTt (m_all S) p0) (mb := aMb (m_all S) p0) (i := i) (by omega)))
                        refine ih13 (ee + 1) (f130) (g130) ?_ ?_ ?_ ?_ _ _ ls hX (lv_sub hl [0, 2, 3, 4] rfl)
                        · omega
                        · exact fun j e9 h1 h2 => by
                            have h3 := hoo130 (121 * j + e9) (by omega)
                            exact ⟨h3.1.trans (hin2 j e9 h1 h2).1, h3.2.trans (hin2 j e9 h1 h2).2⟩
                        · exact fun e9 h1 => by
                            by_cases h : e9 = ee
                            · subst h; rw [← hkfin]; exact hck130
                            · have h3 := hoo130 (121 * i + e9) (by omega)
                              exact ⟨h3.1.trans (hrow e9 (by omega)).1, h3.2.trans (hrow e9 (by omega)).2⟩
                        · omega
                      · skip
                        refine lv_iload_n hC.1 hC.2.1 dX8_finds_137 rfl (lv_at hl 1 rfl) ?_
                        refine n_if_le hC (a := ee) (tgt := 191) dX8_finds_138 (by decide) (by omega) (fun c138 => ?_) (fun c138 => ?_)
                        · skip
                          refine lv_iinc (v := nI (ee + 1)) (lv' := [(3, .int (nI (ee + 1))), (4, .int (nI (121 * i + ee))), (2, .int (nI (i))), (0, .ref (am 0)), (1, .int (nI (p0)))]) hC.1 hC.2.1 dX8_finds_191 hl (k := 1) rfl (n_inc1 _) (by decide) rfl (fun ls hl => ?_)
                          refine lv_goto (tgt := 13) hC.1 hC.2.1 dX8_finds_194 (by decide) ?_
                          have hkfin : k130 = kcol (aTt (m_all S) p0) (aMb (m_all S) p0) ee i := by
                            first
                            | (exfalso; omega)
                            | (obtain rfl : ee = 0 := by omega
                               exact hk130.trans (kfD (tk := aTt (m_all S) p0) (mb := aMb (m_all S) p0) (i := i) (by omega)))
                          refine ih13 (ee + 1) (f130) (g130) ?_ ?_ ?_ ?_ _ _ ls hX (lv_sub hl [0, 2, 3, 4] rfl)
                          · omega
                          · exact fun j e9 h1 h2 => by
                              have h3 := hoo130 (121 * j + e9) (by omega)
                              exact ⟨h3.1.trans (hin2 j e9 h1 h2).1, h3.2.trans (hin2 j e9 h1 h2).2⟩
                          · exact fun e9 h1 => by
                              by_cases h : e9 = ee
                              · subst h; rw [← hkfin]; exact hck130
                              · have h3 := hoo130 (121 * i + e9) (by omega)
                                exact ⟨h3.1.trans (hrow e9 (by omega)).1, h3.2.trans (hrow e9 (by omega)).2⟩
                          · omega
                        · skip
                          refine lv_aload_n hC.1 hC.2.1 dX8_finds_141 rfl (lv_at hl 3 rfl) ?_
                          refine lv_iload hC.1 hC.2.1 dX8_finds_142 (lv_at hl 0 rfl) ?_
                          refine lv_aload_n hC.1 hC.2.1 dX8_finds_144 rfl (lv_at hl 3 rfl) ?_
                          refine g_m_fewest hC fi_X8_finds_X8 hK hX (wd9 hC 2 rfl) dX8_finds_145 ?_
                          refine lv_iload hC.1 hC.2.1 dX8_finds_148 (lv_at hl 0 rfl) ?_
                          refine lv_bipush (v := nI (121)) hC.1 hC.2.1 dX8_finds_150 (by decide +kernel) ?_
                          refine n_sub hC (a := 121 * i + ee) (b := 121) dX8_finds_152 (by omega) ?_
                          refine lv_iconst (v := nI (1)) hC.1 hC.2.1 dX8_finds_153 rfl ?_
                          refine n_sub hC (a := (121 * i + ee) - (121)) (b := 1) dX8_finds_154 (by omega) ?_
                          refine l_m_fewest hC hK hX (i := ((121 * i + ee) - (121)) - (1)) (by omega) dX8_finds_155 (v := kcol (aTt (m_all S) p0) (aMb (m_all S) p0) (ee - 1) (i - 1) / 128) ((hoo130 _ (by omega)).1.trans (hD (by omega) (by omega)).1) ?_
                          refine lv_aload_n hC.1 hC.2.1 dX8_finds_156 rfl (lv_at hl 3 rfl) ?_
                          refine lv_iload_n hC.1 hC.2.1 dX8_finds_157 rfl (lv_at hl 4 rfl) ?_
                          refine lv_iload_n hC.1 hC.2.1 dX8_finds_158 rfl (lv_at hl 2 rfl) ?_
                          refine lv_iconst (v := nI (1)) hC.1 hC.2.1 dX8_finds_159 rfl ?_
                          refine n_sub hC (a := i) (b := 1) dX8_finds_160 (by omega) ?_
                          refine lv_iload_n hC.1 hC.2.1 dX8_finds_161 rfl (lv_at hl 1 rfl) ?_
                          refine lv_iconst (v := nI (1)) hC.1 hC.2.1 dX8_finds_162 rfl ?_
                          refine n_sub hC (a := ee) (b := 1) dX8_finds_163 (by omega) ?_
                          refine cv_I (As := [.int (nI (p0)), .int (nI (i - 1)), .int (nI (ee - 1))]) (rest := [.int (nI (kcol (aTt (m_all S) p0) (aMb (m_all S) p0) (ee - 1) (i - 1) / 128)), .int (nI (121 * i + ee)), .ref (am 0)]) hC hK hA hX (c_X8_isTaken l G am (w_begin (w_fewest (S) (f130)) (g130)) (p0) (i - 1) (ee - 1) hp0 (by omega) (by omega) (hT0 _ (by omega)) (hK0 _ (by omega))) (cwV 3 hC.2.2.2.2 gX8_finds_X8_isTaken rfl rfl rfl hd_X8_isTaken ⟨Nat.le_of_ble_eq_true rfl, Nat.le_of_ble_eq_true rfl⟩) (ci := 8) (q := (RX8, TX8, 21)) rfl (q0 := 0) rfl dX8_finds_164 rfl hl.1 rfl (Nat.le_of_ble_eq_true rfl) ⟨(Nat.zero_le _), (Nat.zero_le _)⟩ (fun r9 S9 H locs hp9 hX => ?_)
                          obtain ⟨rfl, hS9⟩ := hp9
                          rw [hS9] at hX
                          replace hX : HH G A s.heap (wM G am (w_begin (w_fewest (S) (f130)) (g130))) H locs := hX
                          have join175 : ∀ (H : Heap) (locs : List Loc) (ls : Array Slot), HH G A s.heap (wM G am (w_begin (w_fewest (S) (f130)) (g130))) H locs → lv_has ls 5 [(4, .int (nI (121 * i + ee))), (3, .int (nI (ee))), (2, .int (nI (i))), (0, .ref (am 0)), (1, .int (nI (p0)))] → W p l e { frames := 2, cells := 0, slots := 0, locals := 45 } s m args below meth c H locs 0 0 (EndV G (wM G am) A (fun S' => ∃ f g, S' = w_begin (w_fewest S f) g ∧ ∀ i ee, i ≤ aPl (m_all S) p0 → ee ≤ aLen (m_all S) → cellK f g (121 * i + ee) (kcol (aTt (m_all S) p0) (aMb (m_all S) p0) ee i)) below args s 0 0) (F0 m 175 ls [.int (nI (if aTt (m_all S) p0 (i - 1) (ee - 1) = true then 0 else 1)), .int (nI (kcol (aTt (m_all S) p0) (aMb (m_all S) p0) (ee - 1) (i - 1) / 128)), .int (nI (121 * i + ee)), .ref (am 0)]) := by
                            intro  H locs ls  hX hl
                            refine n_add hC (a := kcol (aTt (m_all S) p0) (aMb (m_all S) p0) (ee - 1) (i - 1) / 128) (b := if aTt (m_all S) p0 (i - 1) (ee - 1) = true then 0 else 1) dX8_finds_175 ?_
                            refine lv_aload_n hC.1 hC.2.1 dX8_finds_176 rfl (lv_at hl 3 rfl) ?_
                            refine g_m_begin hC fi_X8_finds_X8 hK hX (wd9 hC 3 rfl) dX8_finds_177 ?_
                            refine lv_iload hC.1 hC.2.1 dX8_finds_180 (lv_at hl 0 rfl) ?_
                            refine lv_bipush (v := nI (121)) hC.1 hC.2.1 dX8_finds_182 (by decide +kernel) ?_
                            refine n_sub hC (a := 121 * i + ee) (b := 121) dX8_finds_184 (by omega) ?_
                            refine lv_iconst (v := nI (1)) hC.1 hC.2.1 dX8_finds_185 rfl ?_
                            refine n_sub hC (a := (121 * i + ee) - (121)) (b := 1) dX8_finds_186 (by omega) ?_
                            refine l_m_begin hC hK hX (i := ((121 * i + ee) - (121)) - (1)) (by omega) dX8_finds_187 (v := nI (127 - kcol (aTt (m_all S) p0) (aMb (m_all S) p0) (ee - 1) (i - 1) % 128)) ((hoo130 _ (by omega)).2.trans (hD (by omega) (by omega)).2) ?_
                            refine cv_V (As := [.int (nI (121 * i + ee)), .int (nI ((kcol (aTt (m_all S) p0) (aMb (m_all S) p0) (ee - 1) (i - 1) / 128) + (if aTt (m_all S) p0 (i - 1) (ee - 1) = true then 0 else 1))), .int (nI (127 - kcol (aTt (m_all S) p0) (aMb (m_all S) p0) (ee - 1) (i - 1) % 128))]) (rest := []) hC hK hA hX (c_X8_tries l G am (w_begin (w_fewest (S) (f130)) (g130)) (121 * i + ee) ((kcol (aTt (m_all S) p0) (aMb (m_all S) p0) (ee - 1) (i - 1) / 128) + (if aTt (m_all S) p0 (i - 1) (ee - 1) = true then 0 else 1)) (127 - kcol (aTt (m_all S) p0) (aMb (m_all S) p0) (ee - 1) (i - 1) % 128) (kcol (aTt (m_all S) p0) (aMb (m_all S) p0) (ee - 1) (i - 1) + if aTt (m_all S) p0 (i - 1) (ee - 1) = true then 0 else 128) (by split <;> omega) (by split <;> omega) (by omega) (by split <;> omega) (some k130) hck130 (show f130 (121 * i + ee) < 2 ^ 31 from by rw [hck130.1]; omega)) (cwV 3 hC.2.2.2.2 gX8_finds_X8_tries rfl rfl rfl hd_X8_tries ⟨Nat.le_of_ble_eq_true rfl, Nat.le_of_ble_eq_true rfl⟩) (ci := 8) (q := (RX8, TX8, 21)) rfl (q0 := 0) rfl dX8_finds_188 rfl hl.1 rfl (Nat.le_of_ble_eq_true rfl) ⟨(Nat.zero_le _), (Nat.zero_le _)⟩ (fun S9 H locs hp9 hX => ?_)
                            obtain ⟨f188, g188, hS9, hck188, hot188⟩ := hp9
                            rw [hS9] at hX
                            replace hX : HH G A s.heap (wM G am (w_begin (w_fewest (S) (f188)) (g188))) H locs := hX
                            obtain ⟨k188, hk188⟩ : ∃ k, k = optMin (some k130) (kcol (aTt (m_all S) p0) (aMb (m_all S) p0) (ee - 1) (i - 1) + if aTt (m_all S) p0 (i - 1) (ee - 1) = true then 0 else 128) := ⟨_, rfl⟩
                            replace hck188 : cellK f188 g188 (121 * i + ee) k188 := by rw [hk188]; exact hck188
                            have hkb188 : k188 < 100000 := by rw [hk188]; first | exact optMin_lt (by omega) | exact optMin_lt2 (by omega) (by omega) | exact optMin_lt (by split <;> omega) | exact optMin_lt2 (by omega) (by split <;> omega)
                            have hoo188 : ∀ j, j ≠ 121 * i + ee → f188 j = f2 j ∧ g188 j = g2 j := fun j hj => ⟨(hot188 j hj).1.trans (hoo130 j hj).1, (hot188 j hj).2.trans (hoo130 j hj).2⟩
                            refine lv_iinc (v := nI (ee + 1)) (lv' := [(3, .int (nI (ee + 1))), (4, .int (nI (121 * i + ee))), (2, .int (nI (i))), (0, .ref (am 0)), (1, .int (nI (p0)))]) hC.1 hC.2.1 dX8_finds_191 hl (k := 1) rfl (n_inc1 _) (by decide) rfl (fun ls hl => ?_)
                            refine lv_goto (tgt := 13) hC.1 hC.2.1 dX8_finds_194 (by decide) ?_
                            have hkfin : k188 = kcol (aTt (m_all S) p0) (aMb (m_all S) p0) ee i := by
                              first
                              | (exfalso; omega)
                              | (rw [hk188, hk130, hk98]
                                 exact kfE (tk := aTt (m_all S) p0) (mb := aMb (m_all S) p0) (e := ee) (i := i) (by omega) (by omega))
                            refine ih13 (ee + 1) (f188) (g188) ?_ ?_ ?_ ?_ _ _ ls hX (lv_sub hl [0, 2, 3, 4] rfl)
                            · omega
                            · exact fun j e9 h1 h2 => by
                                have h3 := hoo188 (121 * j + e9) (by omega)
                                exact ⟨h3.1.trans (hin2 j e9 h1 h2).1, h3.2.trans (hin2 j e9 h1 h2).2⟩
                            · exact fun e9 h1 => by
                                by_cases h : e9 = ee
                                · subst h; rw [← hkfin]; exact hck188
                                · have h3 := hoo188 (121 * i + e9) (by omega)
                                  exact ⟨h3.1.trans (hrow e9 (by omega)).1, h3.2.trans (hrow e9 (by omega)).2⟩
                            · omega
                          refine b_if_eq hC (b := aTt (m_all S) (p0) (i - 1) (ee - 1)) (tgt := 174) dX8_finds_167 (by decide) (fun c167 => ?_) (fun c167 => ?_)
                          · skip
                            refine lv_iconst (v := nI (1)) hC.1 hC.2.1 dX8_finds_174 rfl ?_
                            refine n_top (y := nI (if aTt (m_all S) p0 (i - 1) (ee - 1) = true then 0 else 1)) (by first | rw [if_pos (by assumption)] | rw [if_neg (by simp_all)]) ?_
                            refine join175  _ _ ls  hX (lv_sub hl [0, 1, 2, 3, 4] rfl)
                          · skip
                            refine lv_iconst (v := nI (0)) hC.1 hC.2.1 dX8_finds_170 rfl ?_
                            refine lv_goto (tgt := 175) hC.1 hC.2.1 dX8_finds_171 (by decide) ?_
                            refine n_top (y := nI (if aTt (m_all S) p0 (i - 1) (ee - 1) = true then 0 else 1)) (by first | rw [if_pos (by assumption)] | rw [if_neg (by simp_all)]) ?_
                            refine join175  _ _ ls  hX (lv_sub hl [0, 1, 2, 3, 4] rfl)
                · skip
                  refine lv_aload_n hC.1 hC.2.1 dX8_finds_63 rfl (lv_at hl 3 rfl) ?_
                  refine lv_iload hC.1 hC.2.1 dX8_finds_64 (lv_at hl 0 rfl) ?_
                  refine lv_iconst (v := nI (0)) hC.1 hC.2.1 dX8_finds_66 rfl ?_
                  refine lv_iload_n hC.1 hC.2.1 dX8_finds_67 rfl (lv_at hl 1 rfl) ?_
                  refine cv_V (As := [.int (nI (121 * i + ee)), .int (nI (0)), .int (nI (ee))]) (rest := []) hC hK hA hX (c_X8_tries l G am (w_begin (w_fewest (S) (va_up (f2) (121 * i + ee) (1000))) (upd (g2) (121 * i + ee) ((-5)))) (121 * i + ee) (0) (ee) (127 - ee) (by omega) (by omega) (by omega) (by omega) none hin0 (show va_up f2 (121 * i + ee) 1000 (121 * i + ee) < 2 ^ 31 from by rw [va_up_self]; decide)) (cwV 3 hC.2.2.2.2 gX8_finds_X8_tries rfl rfl rfl hd_X8_tries ⟨Nat.le_of_ble_eq_true rfl, Nat.le_of_ble_eq_true rfl⟩) (ci := 8) (q := (RX8, TX8, 21)) rfl (q0 := 0) rfl dX8_finds_68 rfl hl.1 rfl (Nat.le_of_ble_eq_true rfl) ⟨(Nat.zero_le _), (Nat.zero_le _)⟩ (fun S9 H locs hp9 hX => ?_)
                  obtain ⟨f68, g68, hS9, hck68, hot68⟩ := hp9
                  rw [hS9] at hX
                  replace hX : HH G A s.heap (wM G am (w_begin (w_fewest (S) (f68)) (g68))) H locs := hX
                  obtain ⟨k68, hk68⟩ : ∃ k, k = optMin (none) (127 - ee) := ⟨_, rfl⟩
                  replace hck68 : cellK f68 g68 (121 * i + ee) k68 := by rw [hk68]; exact hck68
                  have hkb68 : k68 < 100000 := by rw [hk68]; first | exact optMin_lt (by omega) | exact optMin_lt2 (by omega) (by omega) | exact optMin_lt (by split <;> omega) | exact optMin_lt2 (by omega) (by split <;> omega)
                  have hoo68 : ∀ j, j ≠ 121 * i + ee → f68 j = f2 j ∧ g68 j = g2 j := fun j hj => ⟨(hot68 j hj).1.trans (hoo0 j hj).1, (hot68 j hj).2.trans (hoo0 j hj).2⟩
                  refine lv_iload_n hC.1 hC.2.1 dX8_finds_71 rfl (lv_at hl 1 rfl) ?_
                  refine n_if_le hC (a := ee) (tgt := 101) dX8_finds_72 (by decide) (by omega) (fun c72 => ?_) (fun c72 => ?_)
                  · skip
                    refine lv_iload_n hC.1 hC.2.1 dX8_finds_101 rfl (lv_at hl 2 rfl) ?_
                    refine n_if_le hC (a := i) (tgt := 133) dX8_finds_102 (by decide) (by omega) (fun c102 => ?_) (fun c102 => ?_)
                    · skip
                      refine lv_iload_n hC.1 hC.2.1 dX8_finds_133 rfl (lv_at hl 2 rfl) ?_
                      refine n_if_le hC (a := i) (tgt := 191) dX8_finds_134 (by decide) (by omega) (fun c134 => ?_) (fun c134 => ?_)
                      · skip
                        refine lv_iinc (v := nI (ee + 1)) (lv' := [(3, .int (nI (ee + 1))), (4, .int (nI (121 * i + ee))), (2, .int (nI (i))), (0, .ref (am 0)), (1, .int (nI (p0)))]) hC.1 hC.2.1 dX8_finds_191 hl (k := 1) rfl (n_inc1 _) (by decide) rfl (fun ls hl => ?_)
                        refine lv_goto (tgt := 13) hC.1 hC.2.1 dX8_finds_194 (by decide) ?_
                        have hkfin : k68 = kcol (aTt (m_all S) p0) (aMb (m_all S) p0) ee i := by
                          first
                          | (exfalso; omega)
                          | (obtain rfl : i = 0 := by omega
                             obtain rfl : ee = 0 := by omega
                             exact hk68)
                        refine ih13 (ee + 1) (f68) (g68) ?_ ?_ ?_ ?_ _ _ ls hX (lv_sub hl [0, 2, 3, 4] rfl)
                        · omega
                        · exact fun j e9 h1 h2 => by
                            have h3 := hoo68 (121 * j + e9) (by omega)
                            exact ⟨h3.1.trans (hin2 j e9 h1 h2).1, h3.2.trans (hin2 j e9 h1 h2).2⟩
                        · exact fun e9 h1 => by
                            by_cases h : e9 = ee
                            · subst h; rw [← hkfin]; exact hck68
                            · have h3 := hoo68 (121 * i + e9) (by omega)
                              exact ⟨h3.1.trans (hrow e9 (by omega)).1, h3.2.trans (hrow e9 (by omega)).2⟩
                        · omega
                      · skip
                        refine lv_iload_n hC.1 hC.2.1 dX8_finds_137 rfl (lv_at hl 1 rfl) ?_
                        refine n_if_le hC (a := ee) (tgt := 191) dX8_finds_138 (by decide) (by omega) (fun c138 => ?_) (fun c138 => ?_)
                        · skip
                          refine lv_iinc (v := nI (ee + 1)) (lv' := [(3, .int (nI (ee + 1))), (4, .int (nI (121 * i + ee))), (2, .int (nI (i))), (0, .ref (am 0)), (1, .int (nI (p0)))]) hC.1 hC.2.1 dX8_finds_191 hl (k := 1) rfl (n_inc1 _) (by decide) rfl (fun ls hl => ?_)
                          refine lv_goto (tgt := 13) hC.1 hC.2.1 dX8_finds_194 (by decide) ?_
                          have hkfin : k68 = kcol (aTt (m_all S) p0) (aMb (m_all S) p0) ee i := by
                            first
                            | (exfalso; omega)
                            | (obtain rfl : i = 0 := by omega
                               obtain rfl : ee = 0 := by omega
                               exact hk68)
                          refine ih13 (ee + 1) (f68) (g68) ?_ ?_ ?_ ?_ _ _ ls hX (lv_sub hl [0, 2, 3, 4] rfl)
                          · omega
                          · exact fun j e9 h1 h2 => by
                              have h3 := hoo68 (121 * j + e9) (by omega)
                              exact ⟨h3.1.trans (hin2 j e9 h1 h2).1, h3.2.trans (hin2 j e9 h1 h2).2⟩
                          · exact fun e9 h1 => by
                              by_cases h : e9 = ee
                              · subst h; rw [← hkfin]; exact hck68
                              · have h3 := hoo68 (121 * i + e9) (by omega)
                                exact ⟨h3.1.trans (hrow e9 (by omega)).1, h3.2.trans (hrow e9 (by omega)).2⟩
                          · omega
                        · skip
                          refine lv_aload_n hC.1 hC.2.1 dX8_finds_141 rfl (lv_at hl 3 rfl) ?_
                          refine lv_iload hC.1 hC.2.1 dX8_finds_142 (lv_at hl 0 rfl) ?_
                          refine lv_aload_n hC.1 hC.2.1 dX8_finds_144 rfl (lv_at hl 3 rfl) ?_
                          refine g_m_fewest hC fi_X8_finds_X8 hK hX (wd9 hC 2 rfl) dX8_finds_145 ?_
                          refine lv_iload hC.1 hC.2.1 dX8_finds_148 (lv_at hl 0 rfl) ?_
                          refine lv_bipush (v := nI (121)) hC.1 hC.2.1 dX8_finds_150 (by decide +kernel) ?_
                          refine n_sub hC (a := 121 * i + ee) (b := 121) dX8_finds_152 (by omega) ?_
                          refine lv_iconst (v := nI (1)) hC.1 hC.2.1 dX8_finds_153 rfl ?_
                          refine n_sub hC (a := (121 * i + ee) - (121)) (b := 1) dX8_finds_154 (by omega) ?_
                          refine l_m_fewest hC hK hX (i := ((121 * i + ee) - (121)) - (1)) (by omega) dX8_finds_155 (v := kcol (aTt (m_all S) p0) (aMb (m_all S) p0) (ee - 1) (i - 1) / 128) ((hoo68 _ (by omega)).1.trans (hD (by omega) (by omega)).1) ?_
                          refine lv_aload_n hC.1 hC.2.1 dX8_finds_156 rfl (lv_at hl 3 rfl) ?_
                          refine lv_iload_n hC.1 hC.2.1 dX8_finds_157 rfl (lv_at hl 4 rfl) ?_
                          refine lv_iload_n hC.1 hC.2.1 dX8_finds_158 rfl (lv_at hl 2 rfl) ?_
                          refine lv_iconst (v := nI (1)) hC.1 hC.2.1 dX8_finds_159 rfl ?_
                          refine n_sub hC (a := i) (b := 1) dX8_finds_160 (by omega) ?_
                          refine lv_iload_n hC.1 hC.2.1 dX8_finds_161 rfl (lv_at hl 1 rfl) ?_
                          refine lv_iconst (v := nI (1)) hC.1 hC.2.1 dX8_finds_162 rfl ?_
                          refine n_sub hC (a := ee) (b := 1) dX8_finds_163 (by omega) ?_
                          refine cv_I (As := [.int (nI (p0)), .int (nI (i - 1)), .int (nI (ee - 1))]) (rest := [.int (nI (kcol (aTt (m_all S) p0) (aMb (m_all S) p0) (ee - 1) (i - 1) / 128)), .int (nI (121 * i + ee)), .ref (am 0)]) hC hK hA hX (c_X8_isTaken l G am (w_begin (w_fewest (S) (f68)) (g68)) (p0) (i - 1) (ee - 1) hp0 (by omega) (by omega) (hT0 _ (by omega)) (hK0 _ (by omega))) (cwV 3 hC.2.2.2.2 gX8_finds_X8_isTaken rfl rfl rfl hd_X8_isTaken ⟨Nat.le_of_ble_eq_true rfl, Nat.le_of_ble_eq_true rfl⟩) (ci := 8) (q := (RX8, TX8, 21)) rfl (q0 := 0) rfl dX8_finds_164 rfl hl.1 rfl (Nat.le_of_ble_eq_true rfl) ⟨(Nat.zero_le _), (Nat.zero_le _)⟩ (fun r9 S9 H locs hp9 hX => ?_)
                          obtain ⟨rfl, hS9⟩ := hp9
                          rw [hS9] at hX
                          replace hX : HH G A s.heap (wM G am (w_begin (w_fewest (S) (f68)) (g68))) H locs := hX
                          have join175 : ∀ (H : Heap) (locs : List Loc) (ls : Array Slot), HH G A s.heap (wM G am (w_begin (w_fewest (S) (f68)) (g68))) H locs → lv_has ls 5 [(4, .int (nI (121 * i + ee))), (3, .int (nI (ee))), (2, .int (nI (i))), (0, .ref (am 0)), (1, .int (nI (p0)))] → W p l e { frames := 2, cells := 0, slots := 0, locals := 45 } s m args below meth c H locs 0 0 (EndV G (wM G am) A (fun S' => ∃ f g, S' = w_begin (w_fewest S f) g ∧ ∀ i ee, i ≤ aPl (m_all S) p0 → ee ≤ aLen (m_all S) → cellK f g (121 * i + ee) (kcol (aTt (m_all S) p0) (aMb (m_all S) p0) ee i)) below args s 0 0) (F0 m 175 ls [.int (nI (if aTt (m_all S) p0 (i - 1) (ee - 1) = true then 0 else 1)), .int (nI (kcol (aTt (m_all S) p0) (aMb (m_all S) p0) (ee - 1) (i - 1) / 128)), .int (nI (121 * i + ee)), .ref (am 0)]) := by
                            intro  H locs ls  hX hl
                            refine n_add hC (a := kcol (aTt (m_all S) p0) (aMb (m_all S) p0) (ee - 1) (i - 1) / 128) (b := if aTt (m_all S) p0 (i - 1) (ee - 1) = true then 0 else 1) dX8_finds_175 ?_
                            refine lv_aload_n hC.1 hC.2.1 dX8_finds_176 rfl (lv_at hl 3 rfl) ?_
                            refine g_m_begin hC fi_X8_finds_X8 hK hX (wd9 hC 3 rfl) dX8_finds_177 ?_
                            refine lv_iload hC.1 hC.2.1 dX8_finds_180 (lv_at hl 0 rfl) ?_
                            refine lv_bipush (v := nI (121)) hC.1 hC.2.1 dX8_finds_182 (by decide +kernel) ?_
                            refine n_sub hC (a := 121 * i + ee) (b := 121) dX8_finds_184 (by omega) ?_
                            refine lv_iconst (v := nI (1)) hC.1 hC.2.1 dX8_finds_185 rfl ?_
                            refine n_sub hC (a := (121 * i + ee) - (121)) (b := 1) dX8_finds_186 (by omega) ?_
                            refine l_m_begin hC hK hX (i := ((121 * i + ee) - (121)) - (1)) (by omega) dX8_finds_187 (v := nI (127 - kcol (aTt (m_all S) p0) (aMb (m_all S) p0) (ee - 1) (i - 1) % 128)) ((hoo68 _ (by omega)).2.trans (hD (by omega) (by omega)).2) ?_
                            refine cv_V (As := [.int (nI (121 * i + ee)), .int (nI ((kcol (aTt (m_all S) p0) (aMb (m_all S) p0) (ee - 1) (i - 1) / 128) + (if aTt (m_all S) p0 (i - 1) (ee - 1) = true then 0 else 1))), .int (nI (127 - kcol (aTt (m_all S) p0) (aMb (m_all S) p0) (ee - 1) (i - 1) % 128))]) (rest := []) hC hK hA hX (c_X8_tries l G am (w_begin (w_fewest (S) (f68)) (g68)) (121 * i + ee) ((kcol (aTt (m_all S) p0) (aMb (m_all S) p0) (ee - 1) (i - 1) / 128) + (if aTt (m_all S) p0 (i - 1) (ee - 1) = true then 0 else 1)) (127 - kcol (aTt (m_all S) p0) (aMb (m_all S) p0) (ee - 1) (i - 1) % 128) (kcol (aTt (m_all S) p0) (aMb (m_all S) p0) (ee - 1) (i - 1) + if aTt (m_all S) p0 (i - 1) (ee - 1) = true then 0 else 128) (by split <;> omega) (by split <;> omega) (by omega) (by split <;> omega) (some k68) hck68 (show f68 (121 * i + ee) < 2 ^ 31 from by rw [hck68.1]; omega)) (cwV 3 hC.2.2.2.2 gX8_finds_X8_tries rfl rfl rfl hd_X8_tries ⟨Nat.le_of_ble_eq_true rfl, Nat.le_of_ble_eq_true rfl⟩) (ci := 8) (q := (RX8, TX8, 21)) rfl (q0 := 0) rfl dX8_finds_188 rfl hl.1 rfl (Nat.le_of_ble_eq_true rfl) ⟨(Nat.zero_le _), (Nat.zero_le _)⟩ (fun S9 H locs hp9 hX => ?_)
                            obtain ⟨f188, g188, hS9, hck188, hot188⟩ := hp9
                            rw [hS9] at hX
                            replace hX : HH G A s.heap (wM G am (w_begin (w_fewest (S) (f188)) (g188))) H locs := hX
                            obtain ⟨k188, hk188⟩ : ∃ k, k = optMin (some k68) (kcol (aTt (m_all S) p0) (aMb (m_all S) p0) (ee - 1) (i - 1) + if aTt (m_all S) p0 (i - 1) (ee - 1) = true then 0 else 128) := ⟨_, rfl⟩
                            replace hck188 : cellK f188 g188 (121 * i + ee) k188 := by rw [hk188]; exact hck188
                            have hkb188 : k188 < 100000 := by rw [hk188]; first | exact optMin_lt (by omega) | exact optMin_lt2 (by omega) (by omega) | exact optMin_lt (by split <;> omega) | exact optMin_lt2 (by omega) (by split <;> omega)
                            have hoo188 : ∀ j, j ≠ 121 * i + ee → f188 j = f2 j ∧ g188 j = g2 j := fun j hj => ⟨(hot188 j hj).1.trans (hoo68 j hj).1, (hot188 j hj).2.trans (hoo68 j hj).2⟩
                            refine lv_iinc (v := nI (ee + 1)) (lv' := [(3, .int (nI (ee + 1))), (4, .int (nI (121 * i + ee))), (2, .int (nI (i))), (0, .ref (am 0)), (1, .int (nI (p0)))]) hC.1 hC.2.1 dX8_finds_191 hl (k := 1) rfl (n_inc1 _) (by decide) rfl (fun ls hl => ?_)
                            refine lv_goto (tgt := 13) hC.1 hC.2.1 dX8_finds_194 (by decide) ?_
                            have hkfin : k188 = kcol (aTt (m_all S) p0) (aMb (m_all S) p0) ee i := by
                              first
                              | (exfalso; omega)
                              | (rw [hk188, hk130, hk98]
                                 exact kfE (tk := aTt (m_all S) p0) (mb := aMb (m_all S) p0) (e := ee) (i := i) (by omega) (by omega))
                            refine ih13 (ee + 1) (f188) (g188) ?_ ?_ ?_ ?_ _ _ ls hX (lv_sub hl [0, 2, 3, 4] rfl)
                            · omega
                            · exact fun j e9 h1 h2 => by
                                have h3 := hoo188 (121 * j + e9) (by omega)
                                exact ⟨h3.1.trans (hin2 j e9 h1 h2).1, h3.2.trans (hin2 j e9 h1 h2).2⟩
                            · exact fun e9 h1 => by
                                by_cases h : e9 = ee
                                · subst h; rw [← hkfin]; exact hck188
                                · have h3 := hoo188 (121 * i + e9) (by omega)
                                  exact ⟨h3.1.trans (hrow e9 (by omega)).1, h3.2.trans (hrow e9 (by omega)).2⟩
                            · omega
                          refine b_if_eq hC (b := aTt (m_all S) (p0) (i - 1) (ee - 1)) (tgt := 174) dX8_finds_167 (by decide) (fun c167 => ?_) (fun c167 => ?_)
                          · skip
                            refine lv_iconst (v := nI (1)) hC.1 hC.2.1 dX8_finds_174 rfl ?_
                            refine n_top (y := nI (if aTt (m_all S) p0 (i - 1) (ee - 1) = true then 0 else 1)) (by first | rw [if_pos (by assumption)] | rw [if_neg (by simp_all)]) ?_
                            refine join175  _ _ ls  hX (lv_sub hl [0, 1, 2, 3, 4] rfl)
                          · skip
                            refine lv_iconst (v := nI (0)) hC.1 hC.2.1 dX8_finds_170 rfl ?_
                            refine lv_goto (tgt := 175) hC.1 hC.2.1 dX8_finds_171 (by decide) ?_
                            refine n_top (y := nI (if aTt (m_all S) p0 (i - 1) (ee - 1) = true then 0 else 1)) (by first | rw [if_pos (by assumption)] | rw [if_neg (by simp_all)]) ?_
                            refine join175  _ _ ls  hX (lv_sub hl [0, 1, 2, 3, 4] rfl)
                    · skip
                      refine lv_aload_n hC.1 hC.2.1 dX8_finds_105 rfl (lv_at hl 3 rfl) ?_
                      refine lv_iload hC.1 hC.2.1 dX8_finds_106 (lv_at hl 0 rfl) ?_
                      refine lv_aload_n hC.1 hC.2.1 dX8_finds_108 rfl (lv_at hl 3 rfl) ?_
                      refine g_m_fewest hC fi_X8_finds_X8 hK hX (wd9 hC 2 rfl) dX8_finds_109 ?_
                      refine lv_iload hC.1 hC.2.1 dX8_finds_112 (lv_at hl 0 rfl) ?_
                      refine lv_bipush (v := nI (121)) hC.1 hC.2.1 dX8_finds_114 (by decide +kernel) ?_
                      refine n_sub hC (a := 121 * i + ee) (b := 121) dX8_finds_116 (by omega) ?_
                      refine l_m_fewest hC hK hX (i := (121 * i + ee) - (121)) (by omega) dX8_finds_117 (v := kcol (aTt (m_all S) p0) (aMb (m_all S) p0) ee (i - 1) / 128) ((hoo68 _ (by omega)).1.trans (hU (by omega)).1) ?_
                      refine lv_iconst (v := nI (1)) hC.1 hC.2.1 dX8_finds_118 rfl ?_
                      refine n_add hC (a := kcol (aTt (m_all S) p0) (aMb (m_all S) p0) ee (i - 1) / 128) (b := 1) dX8_finds_119 ?_
                      refine lv_aload_n hC.1 hC.2.1 dX8_finds_120 rfl (lv_at hl 3 rfl) ?_
                      refine g_m_begin hC fi_X8_finds_X8 hK hX (wd9 hC 3 rfl) dX8_finds_121 ?_
                      refine lv_iload hC.1 hC.2.1 dX8_finds_124 (lv_at hl 0 rfl) ?_
                      refine lv_bipush (v := nI (121)) hC.1 hC.2.1 dX8_finds_126 (by decide +kernel) ?_
                      refine n_sub hC (a := 121 * i + ee) (b := 121) dX8_finds_128 (by omega) ?_
                      refine l_m_begin hC hK hX (i := (121 * i + ee) - (121)) (by omega) dX8_finds_129 (v := nI (127 - kcol (aTt (m_all S) p0) (aMb (m_all S) p0) ee (i - 1) % 128)) ((hoo68 _ (by omega)).2.trans (hU (by omega)).2) ?_
                      refine cv_V (As := [.int (nI (121 * i + ee)), .int (nI ((kcol (aTt (m_all S) p0) (aMb (m_all S) p0) ee (i - 1) / 128) + (1))), .int (nI (127 - kcol (aTt (m_all S) p0) (aMb (m_all S) p0) ee (i - 1) % 128))]) (rest := []) hC hK hA hX (c_X8_tries l G am (w_begin (w_fewest (S) (f68)) (g68)) (121 * i + ee) ((kcol (aTt (m_all S) p0) (aMb (m_all S) p0) ee (i - 1) / 128) + (1)) (127 - kcol (aTt (m_all S) p0) (aMb (m_all S) p0) ee (i - 1) % 128) (kcol (aTt (m_all S) p0) (aMb (m_all S) p0) ee (i - 1) + 128) (by omega) (by omega) (by omega) (by omega) (some k68) hck68 (show f68 (121 * i + ee) < 2 ^ 31 from by rw [hck68.1]; omega)) (cwV 3 hC.2.2.2.2 gX8_finds_X8_tries rfl rfl rfl hd_X8_tries ⟨Nat.le_of_ble_eq_true rfl, Nat.le_of_ble_eq_true rfl⟩) (ci := 8) (q := (RX8, TX8, 21)) rfl (q0 := 0) rfl dX8_finds_130 rfl hl.1 rfl (Nat.le_of_ble_eq_true rfl) ⟨(Nat.zero_le _), (Nat.zero_le _)⟩ (fun S9 H locs hp9 hX => ?_)
                      obtain ⟨f130, g130, hS9, hck130, hot130⟩ := hp9
                      rw [hS9] at hX
                      replace hX : HH G A s.heap (wM G am (w_begin (w_fewest (S) (f130)) (g130))) H locs := hX
                      obtain ⟨k130, hk130⟩ : ∃ k, k = optMin (some k68) (kcol (aTt (m_all S) p0) (aMb (m_all S) p0) ee (i - 1) + 128) := ⟨_, rfl⟩
                      replace hck130 : cellK f130 g130 (121 * i + ee) k130 := by rw [hk130]; exact hck130
                      have hkb130 : k130 < 100000 := by rw [hk130]; first | exact optMin_lt (by omega) | exact optMin_lt2 (by omega) (by omega) | exact optMin_lt (by split <;> omega) | exact optMin_lt2 (by omega) (by split <;> omega)
                      have hoo130 : ∀ j, j ≠ 121 * i + ee → f130 j = f2 j ∧ g130 j = g2 j := fun j hj => ⟨(hot130 j hj).1.trans (hoo68 j hj).1, (hot130 j hj).2.trans (hoo68 j hj).2⟩
                      refine lv_iload_n hC.1 hC.2.1 dX8_finds_133 rfl (lv_at hl 2 rfl) ?_
                      refine n_if_le hC (a := i) (tgt := 191) dX8_finds_134 (by decide) (by omega) (fun c134 => ?_) (fun c134 => ?_)
                      · skip
                        refine lv_iinc (v := nI (ee + 1)) (lv' := [(3, .int (nI (ee + 1))), (4, .int (nI (121 * i + ee))), (2, .int (nI (i))), (0, .ref (am 0)), (1, .int (nI (p0)))]) hC.1 hC.2.1 dX8_finds_191 hl (k := 1) rfl (n_inc1 _) (by decide) rfl (fun ls hl => ?_)
                        refine lv_goto (tgt := 13) hC.1 hC.2.1 dX8_finds_194 (by decide) ?_
                        have hkfin : k130 = kcol (aTt (m_all S) p0) (aMb (m_all S) p0) ee i := by
                          first
                          | (exfalso; omega)
                          | (obtain rfl : ee = 0 := by omega
                             exact hk130.trans (kfD (tk := aTt (m_all S) p0) (mb := aMb (m_all S) p0) (i := i) (by omega)))
                        refine ih13 (ee + 1) (f130) (g130) ?_ ?_ ?_ ?_ _ _ ls hX (lv_sub hl [0, 2, 3, 4] rfl)
                        · omega
                        · exact fun j e9 h1 h2 => by
                            have h3 := hoo130 (121 * j + e9) (by omega)
                            exact ⟨h3.1.trans (hin2 j e9 h1 h2).1, h3.2.trans (hin2 j e9 h1 h2).2⟩
                        · exact fun e9 h1 => by
                            by_cases h : e9 = ee
                            · subst h; rw [← hkfin]; exact hck130
                            · have h3 := hoo130 (121 * i + e9) (by omega)
                              exact ⟨h3.1.trans (hrow e9 (by omega)).1, h3.2.trans (hrow e9 (by omega)).2⟩
                        · omega
                      · skip
                        refine lv_iload_n hC.1 hC.2.1 dX8_finds_137 rfl (lv_at hl 1 rfl) ?_
                        refine n_if_le hC (a := ee) (tgt := 191) dX8_finds_138 (by decide) (by omega) (fun c138 => ?_) (fun c138 => ?_)
                        · skip
                          refine lv_iinc (v := nI (ee + 1)) (lv' := [(3, .int (nI (ee + 1))), (4, .int (nI (121 * i + ee))), (2, .int (nI (i))), (0, .ref (am 0)), (1, .int (nI (p0)))]) hC.1 hC.2.1 dX8_finds_191 hl (k := 1) rfl (n_inc1 _) (by decide) rfl (fun ls hl => ?_)
                          refine lv_goto (tgt := 13) hC.1 hC.2.1 dX8_finds_194 (by decide) ?_
                          have hkfin : k130 = kcol (aTt (m_all S) p0) (aMb (m_all S) p0) ee i := by
                            first
                            | (exfalso; omega)
                            | (obtain rfl : ee = 0 := by omega
                               exact hk130.trans (kfD (tk := aTt (m_all S) p0) (mb := aMb (m_all S) p0) (i := i) (by omega)))
                          refine ih13 (ee + 1) (f130) (g130) ?_ ?_ ?_ ?_ _ _ ls hX (lv_sub hl [0, 2, 3, 4] rfl)
                          · omega
                          · exact fun j e9 h1 h2 => by
                              have h3 := hoo130 (121 * j + e9) (by omega)
                              exact ⟨h3.1.trans (hin2 j e9 h1 h2).1, h3.2.trans (hin2 j e9 h1 h2).2⟩
                          · exact fun e9 h1 => by
                              by_cases h : e9 = ee
                              · subst h; rw [← hkfin]; exact hck130
                              · have h3 := hoo130 (121 * i + e9) (by omega)
                                exact ⟨h3.1.trans (hrow e9 (by omega)).1, h3.2.trans (hrow e9 (by omega)).2⟩
                          · omega
                        · skip
                          refine lv_aload_n hC.1 hC.2.1 dX8_finds_141 rfl (lv_at hl 3 rfl) ?_
                          refine lv_iload hC.1 hC.2.1 dX8_finds_142 (lv_at hl 0 rfl) ?_
                          refine lv_aload_n hC.1 hC.2.1 dX8_finds_144 rfl (lv_at hl 3 rfl) ?_
                          refine g_m_fewest hC fi_X8_finds_X8 hK hX (wd9 hC 2 rfl) dX8_finds_145 ?_
                          refine lv_iload hC.1 hC.2.1 dX8_finds_148 (lv_at hl 0 rfl) ?_
                          refine lv_bipush (v := nI (121)) hC.1 hC.2.1 dX8_finds_150 (by decide +kernel) ?_
                          refine n_sub hC (a := 121 * i + ee) (b := 121) dX8_finds_152 (by omega) ?_
                          refine lv_iconst (v := nI (1)) hC.1 hC.2.1 dX8_finds_153 rfl ?_
                          refine n_sub hC (a := (121 * i + ee) - (121)) (b := 1) dX8_finds_154 (by omega) ?_
                          refine l_m_fewest hC hK hX (i := ((121 * i + ee) - (121)) - (1)) (by omega) dX8_finds_155 (v := kcol (aTt (m_all S) p0) (aMb (m_all S) p0) (ee - 1) (i - 1) / 128) ((hoo130 _ (by omega)).1.trans (hD (by omega) (by omega)).1) ?_
                          refine lv_aload_n hC.1 hC.2.1 dX8_finds_156 rfl (lv_at hl 3 rfl) ?_
                          refine lv_iload_n hC.1 hC.2.1 dX8_finds_157 rfl (lv_at hl 4 rfl) ?_
                          refine lv_iload_n hC.1 hC.2.1 dX8_finds_158 rfl (lv_at hl 2 rfl) ?_
                          refine lv_iconst (v := nI (1)) hC.1 hC.2.1 dX8_finds_159 rfl ?_
                          refine n_sub hC (a := i) (b := 1) dX8_finds_160 (by omega) ?_
                          refine lv_iload_n hC.1 hC.2.1 dX8_finds_161 rfl (lv_at hl 1 rfl) ?_
                          refine lv_iconst (v := nI (1)) hC.1 hC.2.1 dX8_finds_162 rfl ?_
                          refine n_sub hC (a := ee) (b := 1) dX8_finds_163 (by omega) ?_
                          refine cv_I (As := [.int (nI (p0)), .int (nI (i - 1)), .int (nI (ee - 1))]) (rest := [.int (nI (kcol (aTt (m_all S) p0) (aMb (m_all S) p0) (ee - 1) (i - 1) / 128)), .int (nI (121 * i + ee)), .ref (am 0)]) hC hK hA hX (c_X8_isTaken l G am (w_begin (w_fewest (S) (f130)) (g130)) (p0) (i - 1) (ee - 1) hp0 (by omega) (by omega) (hT0 _ (by omega)) (hK0 _ (by omega))) (cwV 3 hC.2.2.2.2 gX8_finds_X8_isTaken rfl rfl rfl hd_X8_isTaken ⟨Nat.le_of_ble_eq_true rfl, Nat.le_of_ble_eq_true rfl⟩) (ci := 8) (q := (RX8, TX8, 21)) rfl (q0 := 0) rfl dX8_finds_164 rfl hl.1 rfl (Nat.le_of_ble_eq_true rfl) ⟨(Nat.zero_le _), (Nat.zero_le _)⟩ (fun r9 S9 H locs hp9 hX => ?_)
                          obtain ⟨rfl, hS9⟩ := hp9
                          rw [hS9] at hX
                          replace hX : HH G A s.heap (wM G am (w_begin (w_fewest (S) (f130)) (g130))) H locs := hX
                          have join175 : ∀ (H : Heap) (locs : List Loc) (ls : Array Slot), HH G A s.heap (wM G am (w_begin (w_fewest (S) (f130)) (g130))) H locs → lv_has ls 5 [(4, .int (nI (121 * i + ee))), (3, .int (nI (ee))), (2, .int (nI (i))), (0, .ref (am 0)), (1, .int (nI (p0)))] → W p l e { frames := 2, cells := 0, slots := 0, locals := 45 } s m args below meth c H locs 0 0 (EndV G (wM G am) A (fun S' => ∃ f g, S' = w_begin (w_fewest S f) g ∧ ∀ i ee, i ≤ aPl (m_all S) p0 → ee ≤ aLen (m_all S) → cellK f g (121 * i + ee) (kcol (aTt (m_all S) p0) (aMb (m_all S) p0) ee i)) below args s 0 0) (F0 m 175 ls [.int (nI (if aTt (m_all S) p0 (i - 1) (ee - 1) = true then 0 else 1)), .int (nI (kcol (aTt (m_all S) p0) (aMb (m_all S) p0) (ee - 1) (i - 1) / 128)), .int (nI (121 * i + ee)), .ref (am 0)]) := by
                            intro  H locs ls  hX hl
                            refine n_add hC (a := kcol (aTt (m_all S) p0) (aMb (m_all S) p0) (ee - 1) (i - 1) / 128) (b := if aTt (m_all S) p0 (i - 1) (ee - 1) = true then 0 else 1) dX8_finds_175 ?_
                            refine lv_aload_n hC.1 hC.2.1 dX8_finds_176 rfl (lv_at hl 3 rfl) ?_
                            refine g_m_begin hC fi_X8_finds_X8 hK hX (wd9 hC 3 rfl) dX8_finds_177 ?_
                            refine lv_iload hC.1 hC.2.1 dX8_finds_180 (lv_at hl 0 rfl) ?_
                            refine lv_bipush (v := nI (121)) hC.1 hC.2.1 dX8_finds_182 (by decide +kernel) ?_
                            refine n_sub hC (a := 121 * i + ee) (b := 121) dX8_finds_184 (by omega) ?_
                            refine lv_iconst (v := nI (1)) hC.1 hC.2.1 dX8_finds_185 rfl ?_
                            refine n_sub hC (a := (121 * i + ee) - (121)) (b := 1) dX8_finds_186 (by omega) ?_
                            refine l_m_begin hC hK hX (i := ((121 * i + ee) - (121)) - (1)) (by omega) dX8_finds_187 (v := nI (127 - kcol (aTt (m_all S) p0) (aMb (m_all S) p0) (ee - 1) (i - 1) % 128)) ((hoo130 _ (by omega)).2.trans (hD (by omega) (by omega)).2) ?_
                            refine cv_V (As := [.int (nI (121 * i + ee)), .int (nI ((kcol (aTt (m_all S) p0) (aMb (m_all S) p0) (ee - 1) (i - 1) / 128) + (if aTt (m_all S) p0 (i - 1) (ee - 1) = true then 0 else 1))), .int (nI (127 - kcol (aTt (m_all S) p0) (aMb (m_all S) p0) (ee - 1) (i - 1) % 128))]) (rest := []) hC hK hA hX (c_X8_tries l G am (w_begin (w_fewest (S) (f130)) (g130)) (121 * i + ee) ((kcol (aTt (m_all S) p0) (aMb (m_all S) p0) (ee - 1) (i - 1) / 128) + (if aTt (m_all S) p0 (i - 1) (ee - 1) = true then 0 else 1)) (127 - kcol (aTt (m_all S) p0) (aMb (m_all S) p0) (ee - 1) (i - 1) % 128) (kcol (aTt (m_all S) p0) (aMb (m_all S) p0) (ee - 1) (i - 1) + if aTt (m_all S) p0 (i - 1) (ee - 1) = true then 0 else 128) (by split <;> omega) (by split <;> omega) (by omega) (by split <;> omega) (some k130) hck130 (show f130 (121 * i + ee) < 2 ^ 31 from by rw [hck130.1]; omega)) (cwV 3 hC.2.2.2.2 gX8_finds_X8_tries rfl rfl rfl hd_X8_tries ⟨Nat.le_of_ble_eq_true rfl, Nat.le_of_ble_eq_true rfl⟩) (ci := 8) (q := (RX8, TX8, 21)) rfl (q0 := 0) rfl dX8_finds_188 rfl hl.1 rfl (Nat.le_of_ble_eq_true rfl) ⟨(Nat.zero_le _), (Nat.zero_le _)⟩ (fun S9 H locs hp9 hX => ?_)
                            obtain ⟨f188, g188, hS9, hck188, hot188⟩ := hp9
                            rw [hS9] at hX
                            replace hX : HH G A s.heap (wM G am (w_begin (w_fewest (S) (f188)) (g188))) H locs := hX
                            obtain ⟨k188, hk188⟩ : ∃ k, k = optMin (some k130) (kcol (aTt (m_all S) p0) (aMb (m_all S) p0) (ee - 1) (i - 1) + if aTt (m_all S) p0 (i - 1) (ee - 1) = true then 0 else 128) := ⟨_, rfl⟩
                            replace hck188 : cellK f188 g188 (121 * i + ee) k188 := by rw [hk188]; exact hck188
                            have hkb188 : k188 < 100000 := by rw [hk188]; first | exact optMin_lt (by omega) | exact optMin_lt2 (by omega) (by omega) | exact optMin_lt (by split <;> omega) | exact optMin_lt2 (by omega) (by split <;> omega)
                            have hoo188 : ∀ j, j ≠ 121 * i + ee → f188 j = f2 j ∧ g188 j = g2 j := fun j hj => ⟨(hot188 j hj).1.trans (hoo130 j hj).1, (hot188 j hj).2.trans (hoo130 j hj).2⟩
                            refine lv_iinc (v := nI (ee + 1)) (lv' := [(3, .int (nI (ee + 1))), (4, .int (nI (121 * i + ee))), (2, .int (nI (i))), (0, .ref (am 0)), (1, .int (nI (p0)))]) hC.1 hC.2.1 dX8_finds_191 hl (k := 1) rfl (n_inc1 _) (by decide) rfl (fun ls hl => ?_)
                            refine lv_goto (tgt := 13) hC.1 hC.2.1 dX8_finds_194 (by decide) ?_
                            have hkfin : k188 = kcol (aTt (m_all S) p0) (aMb (m_all S) p0) ee i := by
                              first
                              | (exfalso; omega)
                              | (rw [hk188, hk130, hk98]
                                 exact kfE (tk := aTt (m_all S) p0) (mb := aMb (m_all S) p0) (e := ee) (i := i) (by omega) (by omega))
                            refine ih13 (ee + 1) (f188) (g188) ?_ ?_ ?_ ?_ _ _ ls hX (lv_sub hl [0, 2, 3, 4] rfl)
                            · omega
                            · exact fun j e9 h1 h2 => by
                                have h3 := hoo188 (121 * j + e9) (by omega)
                                exact ⟨h3.1.trans (hin2 j e9 h1 h2).1, h3.2.trans (hin2 j e9 h1 h2).2⟩
                            · exact fun e9 h1 => by
                                by_cases h : e9 = ee
                                · subst h; rw [← hkfin]; exact hck188
                                · have h3 := hoo188 (121 * i + e9) (by omega)
                                  exact ⟨h3.1.trans (hrow e9 (by omega)).1, h3.2.trans (hrow e9 (by omega)).2⟩
                            · omega
                          refine b_if_eq hC (b := aTt (m_all S) (p0) (i - 1) (ee - 1)) (tgt := 174) dX8_finds_167 (by decide) (fun c167 => ?_) (fun c167 => ?_)
                          · skip
                            refine lv_iconst (v := nI (1)) hC.1 hC.2.1 dX8_finds_174 rfl ?_
                            refine n_top (y := nI (if aTt (m_all S) p0 (i - 1) (ee - 1) = true then 0 else 1)) (by first | rw [if_pos (by assumption)] | rw [if_neg (by simp_all)]) ?_
                            refine join175  _ _ ls  hX (lv_sub hl [0, 1, 2, 3, 4] rfl)
                          · skip
                            refine lv_iconst (v := nI (0)) hC.1 hC.2.1 dX8_finds_170 rfl ?_
                            refine lv_goto (tgt := 175) hC.1 hC.2.1 dX8_finds_171 (by decide) ?_
                            refine n_top (y := nI (if aTt (m_all S) p0 (i - 1) (ee - 1) = true then 0 else 1)) (by first | rw [if_pos (by assumption)] | rw [if_neg (by simp_all)]) ?_
                            refine join175  _ _ ls  hX (lv_sub hl [0, 1, 2, 3, 4] rfl)
                  · skip
                    refine lv_aload_n hC.1 hC.2.1 dX8_finds_75 rfl (lv_at hl 3 rfl) ?_
                    refine lv_iload hC.1 hC.2.1 dX8_finds_76 (lv_at hl 0 rfl) ?_
                    refine lv_aload_n hC.1 hC.2.1 dX8_finds_78 rfl (lv_at hl 3 rfl) ?_
                    refine g_m_fewest hC fi_X8_finds_X8 hK hX (wd9 hC 2 rfl) dX8_finds_79 ?_
                    refine lv_iload hC.1 hC.2.1 dX8_finds_82 (lv_at hl 0 rfl) ?_
                    refine lv_iconst (v := nI (1)) hC.1 hC.2.1 dX8_finds_84 rfl ?_
                    refine n_sub hC (a := 121 * i + ee) (b := 1) dX8_finds_85 (by omega) ?_
                    refine l_m_fewest hC hK hX (i := (121 * i + ee) - (1)) (by omega) dX8_finds_86 (v := kcol (aTt (m_all S) p0) (aMb (m_all S) p0) (ee - 1) i / 128) ((hoo68 _ (by omega)).1.trans (hL1 (by omega)).1) ?_
                    refine lv_iconst (v := nI (1)) hC.1 hC.2.1 dX8_finds_87 rfl ?_
                    refine n_add hC (a := kcol (aTt (m_all S) p0) (aMb (m_all S) p0) (ee - 1) i / 128) (b := 1) dX8_finds_88 ?_
                    refine lv_aload_n hC.1 hC.2.1 dX8_finds_89 rfl (lv_at hl 3 rfl) ?_
                    refine g_m_begin hC fi_X8_finds_X8 hK hX (wd9 hC 3 rfl) dX8_finds_90 ?_
                    refine lv_iload hC.1 hC.2.1 dX8_finds_93 (lv_at hl 0 rfl) ?_
                    refine lv_iconst (v := nI (1)) hC.1 hC.2.1 dX8_finds_95 rfl ?_
                    refine n_sub hC (a := 121 * i + ee) (b := 1) dX8_finds_96 (by omega) ?_
                    refine l_m_begin hC hK hX (i := (121 * i + ee) - (1)) (by omega) dX8_finds_97 (v := nI (127 - kcol (aTt (m_all S) p0) (aMb (m_all S) p0) (ee - 1) i % 128)) ((hoo68 _ (by omega)).2.trans (hL1 (by omega)).2) ?_
                    refine cv_V (As := [.int (nI (121 * i + ee)), .int (nI ((kcol (aTt (m_all S) p0) (aMb (m_all S) p0) (ee - 1) i / 128) + (1))), .int (nI (127 - kcol (aTt (m_all S) p0) (aMb (m_all S) p0) (ee - 1) i % 128))]) (rest := []) hC hK hA hX (c_X8_tries l G am (w_begin (w_fewest (S) (f68)) (g68)) (121 * i + ee) ((kcol (aTt (m_all S) p0) (aMb (m_all S) p0) (ee - 1) i / 128) + (1)) (127 - kcol (aTt (m_all S) p0) (aMb (m_all S) p0) (ee - 1) i % 128) (kcol (aTt (m_all S) p0) (aMb (m_all S) p0) (ee - 1) i + 128) (by omega) (by omega) (by omega) (by omega) (some k68) hck68 (show f68 (121 * i + ee) < 2 ^ 31 from by rw [hck68.1]; omega)) (cwV 3 hC.2.2.2.2 gX8_finds_X8_tries rfl rfl rfl hd_X8_tries ⟨Nat.le_of_ble_eq_true rfl, Nat.le_of_ble_eq_true rfl⟩) (ci := 8) (q := (RX8, TX8, 21)) rfl (q0 := 0) rfl dX8_finds_98 rfl hl.1 rfl (Nat.le_of_ble_eq_true rfl) ⟨(Nat.zero_le _), (Nat.zero_le _)⟩ (fun S9 H locs hp9 hX => ?_)
                    obtain ⟨f98, g98, hS9, hck98, hot98⟩ := hp9
                    rw [hS9] at hX
                    replace hX : HH G A s.heap (wM G am (w_begin (w_fewest (S) (f98)) (g98))) H locs := hX
                    obtain ⟨k98, hk98⟩ : ∃ k, k = optMin (some k68) (kcol (aTt (m_all S) p0) (aMb (m_all S) p0) (ee - 1) i + 128) := ⟨_, rfl⟩
                    replace hck98 : cellK f98 g98 (121 * i + ee) k98 := by rw [hk98]; exact hck98
                    have hkb98 : k98 < 100000 := by rw [hk98]; first | exact optMin_lt (by omega) | exact optMin_lt2 (by omega) (by omega) | exact optMin_lt (by split <;> omega) | exact optMin_lt2 (by omega) (by split <;> omega)
                    have hoo98 : ∀ j, j ≠ 121 * i + ee → f98 j = f2 j ∧ g98 j = g2 j := fun j hj => ⟨(hot98 j hj).1.trans (hoo68 j hj).1, (hot98 j hj).2.trans (hoo68 j hj).2⟩
                    refine lv_iload_n hC.1 hC.2.1 dX8_finds_101 rfl (lv_at hl 2 rfl) ?_
                    refine n_if_le hC (a := i) (tgt := 133) dX8_finds_102 (by decide) (by omega) (fun c102 => ?_) (fun c102 => ?_)
                    · skip
                      refine lv_iload_n hC.1 hC.2.1 dX8_finds_133 rfl (lv_at hl 2 rfl) ?_
                      refine n_if_le hC (a := i) (tgt := 191) dX8_finds_134 (by decide) (by omega) (fun c134 => ?_) (fun c134 => ?_)
                      · skip
                        refine lv_iinc (v := nI (ee + 1)) (lv' := [(3, .int (nI (ee + 1))), (4, .int (nI (121 * i + ee))), (2, .int (nI (i))), (0, .ref (am 0)), (1, .int (nI (p0)))]) hC.1 hC.2.1 dX8_finds_191 hl (k := 1) rfl (n_inc1 _) (by decide) rfl (fun ls hl => ?_)
                        refine lv_goto (tgt := 13) hC.1 hC.2.1 dX8_finds_194 (by decide) ?_
                        have hkfin : k98 = kcol (aTt (m_all S) p0) (aMb (m_all S) p0) ee i := by
                          first
                          | (exfalso; omega)
                          | (obtain rfl : i = 0 := by omega
                             exact hk98.trans (by rw [hk68]; exact kfB (tk := aTt (m_all S) p0) (mb := aMb (m_all S) p0) (e := ee) (by omega) (by assumption)))
                          | (obtain rfl : i = 0 := by omega
                             exact hk98.trans (kfC (tk := aTt (m_all S) p0) (mb := aMb (m_all S) p0) (e := ee) (by omega) (by assumption)))
                        refine ih13 (ee + 1) (f98) (g98) ?_ ?_ ?_ ?_ _ _ ls hX (lv_sub hl [0, 2, 3, 4] rfl)
                        · omega
                        · exact fun j e9 h1 h2 => by
                            have h3 := hoo98 (121 * j + e9) (by omega)
                            exact ⟨h3.1.trans (hin2 j e9 h1 h2).1, h3.2.trans (hin2 j e9 h1 h2).2⟩
                        · exact fun e9 h1 => by
                            by_cases h : e9 = ee
                            · subst h; rw [← hkfin]; exact hck98
                            · have h3 := hoo98 (121 * i + e9) (by omega)
                              exact ⟨h3.1.trans (hrow e9 (by omega)).1, h3.2.trans (hrow e9 (by omega)).2⟩
                        · omega
                      · skip
                        refine lv_iload_n hC.1 hC.2.1 dX8_finds_137 rfl (lv_at hl 1 rfl) ?_
                        refine n_if_le hC (a := ee) (tgt := 191) dX8_finds_138 (by decide) (by omega) (fun c138 => ?_) (fun c138 => ?_)
                        · skip
                          refine lv_iinc (v := nI (ee + 1)) (lv' := [(3, .int (nI (ee + 1))), (4, .int (nI (121 * i + ee))), (2, .int (nI (i))), (0, .ref (am 0)), (1, .int (nI (p0)))]) hC.1 hC.2.1 dX8_finds_191 hl (k := 1) rfl (n_inc1 _) (by decide) rfl (fun ls hl => ?_)
                          refine lv_goto (tgt := 13) hC.1 hC.2.1 dX8_finds_194 (by decide) ?_
                          have hkfin : k98 = kcol (aTt (m_all S) p0) (aMb (m_all S) p0) ee i := by
                            first
                            | (exfalso; omega)
                            | (obtain rfl : i = 0 := by omega
                               exact hk98.trans (by rw [hk68]; exact kfB (tk := aTt (m_all S) p0) (mb := aMb (m_all S) p0) (e := ee) (by omega) (by assumption)))
                            | (obtain rfl : i = 0 := by omega
                               exact hk98.trans (kfC (tk := aTt (m_all S) p0) (mb := aMb (m_all S) p0) (e := ee) (by omega) (by assumption)))
                          refine ih13 (ee + 1) (f98) (g98) ?_ ?_ ?_ ?_ _ _ ls hX (lv_sub hl [0, 2, 3, 4] rfl)
                          · omega
                          · exact fun j e9 h1 h2 => by
                              have h3 := hoo98 (121 * j + e9) (by omega)
                              exact ⟨h3.1.trans (hin2 j e9 h1 h2).1, h3.2.trans (hin2 j e9 h1 h2).2⟩
                          · exact fun e9 h1 => by
                              by_cases h : e9 = ee
                              · subst h; rw [← hkfin]; exact hck98
                              · have h3 := hoo98 (121 * i + e9) (by omega)
                                exact ⟨h3.1.trans (hrow e9 (by omega)).1, h3.2.trans (hrow e9 (by omega)).2⟩
                          · omega
                        · skip
                          refine lv_aload_n hC.1 hC.2.1 dX8_finds_141 rfl (lv_at hl 3 rfl) ?_
                          refine lv_iload hC.1 hC.2.1 dX8_finds_142 (lv_at hl 0 rfl) ?_
                          refine lv_aload_n hC.1 hC.2.1 dX8_finds_144 rfl (lv_at hl 3 rfl) ?_
                          refine g_m_fewest hC fi_X8_finds_X8 hK hX (wd9 hC 2 rfl) dX8_finds_145 ?_
                          refine lv_iload hC.1 hC.2.1 dX8_finds_148 (lv_at hl 0 rfl) ?_
                          refine lv_bipush (v := nI (121)) hC.1 hC.2.1 dX8_finds_150 (by decide +kernel) ?_
                          refine n_sub hC (a := 121 * i + ee) (b := 121) dX8_finds_152 (by omega) ?_
                          refine lv_iconst (v := nI (1)) hC.1 hC.2.1 dX8_finds_153 rfl ?_
                          refine n_sub hC (a := (121 * i + ee) - (121)) (b := 1) dX8_finds_154 (by omega) ?_
                          refine l_m_fewest hC hK hX (i := ((121 * i + ee) - (121)) - (1)) (by omega) dX8_finds_155 (v := kcol (aTt (m_all S) p0) (aMb (m_all S) p0) (ee - 1) (i - 1) / 128) ((hoo98 _ (by omega)).1.trans (hD (by omega) (by omega)).1) ?_
                          refine lv_aload_n hC.1 hC.2.1 dX8_finds_156 rfl (lv_at hl 3 rfl) ?_
                          refine lv_iload_n hC.1 hC.2.1 dX8_finds_157 rfl (lv_at hl 4 rfl) ?_
                          refine lv_iload_n hC.1 hC.2.1 dX8_finds_158 rfl (lv_at hl 2 rfl) ?_
                          refine lv_iconst (v := nI (1)) hC.1 hC.2.1 dX8_finds_159 rfl ?_
                          refine n_sub hC (a := i) (b := 1) dX8_finds_160 (by omega) ?_
                          refine lv_iload_n hC.1 hC.2.1 dX8_finds_161 rfl (lv_at hl 1 rfl) ?_
                          refine lv_iconst (v := nI (1)) hC.1 hC.2.1 dX8_finds_162 rfl ?_
                          refine n_sub hC (a := ee) (b := 1) dX8_finds_163 (by omega) ?_
                          refine cv_I (As := [.int (nI (p0)), .int (nI (i - 1)), .int (nI (ee - 1))]) (rest := [.int (nI (kcol (aTt (m_all S) p0) (aMb (m_all S) p0) (ee - 1) (i - 1) / 128)), .int (nI (121 * i + ee)), .ref (am 0)]) hC hK hA hX (c_X8_isTaken l G am (w_begin (w_fewest (S) (f98)) (g98)) (p0) (i - 1) (ee - 1) hp0 (by omega) (by omega) (hT0 _ (by omega)) (hK0 _ (by omega))) (cwV 3 hC.2.2.2.2 gX8_finds_X8_isTaken rfl rfl rfl hd_X8_isTaken ⟨Nat.le_of_ble_eq_true rfl, Nat.le_of_ble_eq_true rfl⟩) (ci := 8) (q := (RX8, TX8, 21)) rfl (q0 := 0) rfl dX8_finds_164 rfl hl.1 rfl (Nat.le_of_ble_eq_true rfl) ⟨(Nat.zero_le _), (Nat.zero_le _)⟩ (fun r9 S9 H locs hp9 hX => ?_)
                          obtain ⟨rfl, hS9⟩ := hp9
                          rw [hS9] at hX
                          replace hX : HH G A s.heap (wM G am (w_begin (w_fewest (S) (f98)) (g98))) H locs := hX
                          have join175 : ∀ (H : Heap) (locs : List Loc) (ls : Array Slot), HH G A s.heap (wM G am (w_begin (w_fewest (S) (f98)) (g98))) H locs → lv_has ls 5 [(4, .int (nI (121 * i + ee))), (3, .int (nI (ee))), (2, .int (nI (i))), (0, .ref (am 0)), (1, .int (nI (p0)))] → W p l e { frames := 2, cells := 0, slots := 0, locals := 45 } s m args below meth c H locs 0 0 (EndV G (wM G am) A (fun S' => ∃ f g, S' = w_begin (w_fewest S f) g ∧ ∀ i ee, i ≤ aPl (m_all S) p0 → ee ≤ aLen (m_all S) → cellK f g (121 * i + ee) (kcol (aTt (m_all S) p0) (aMb (m_all S) p0) ee i)) below args s 0 0) (F0 m 175 ls [.int (nI (if aTt (m_all S) p0 (i - 1) (ee - 1) = true then 0 else 1)), .int (nI (kcol (aTt (m_all S) p0) (aMb (m_all S) p0) (ee - 1) (i - 1) / 128)), .int (nI (121 * i + ee)), .ref (am 0)]) := by
                            intro  H locs ls  hX hl
                            refine n_add hC (a := kcol (aTt (m_all S) p0) (aMb (m_all S) p0) (ee - 1) (i - 1) / 128) (b := if aTt (m_all S) p0 (i - 1) (ee - 1) = true then 0 else 1) dX8_finds_175 ?_
                            refine lv_aload_n hC.1 hC.2.1 dX8_finds_176 rfl (lv_at hl 3 rfl) ?_
                            refine g_m_begin hC fi_X8_finds_X8 hK hX (wd9 hC 3 rfl) dX8_finds_177 ?_
                            refine lv_iload hC.1 hC.2.1 dX8_finds_180 (lv_at hl 0 rfl) ?_
                            refine lv_bipush (v := nI (121)) hC.1 hC.2.1 dX8_finds_182 (by decide +kernel) ?_
                            refine n_sub hC (a := 121 * i + ee) (b := 121) dX8_finds_184 (by omega) ?_
                            refine lv_iconst (v := nI (1)) hC.1 hC.2.1 dX8_finds_185 rfl ?_
                            refine n_sub hC (a := (121 * i + ee) - (121)) (b := 1) dX8_finds_186 (by omega) ?_
                            refine l_m_begin hC hK hX (i := ((121 * i + ee) - (121)) - (1)) (by omega) dX8_finds_187 (v := nI (127 - kcol (aTt (m_all S) p0) (aMb (m_all S) p0) (ee - 1) (i - 1) % 128)) ((hoo98 _ (by omega)).2.trans (hD (by omega) (by omega)).2) ?_
                            refine cv_V (As := [.int (nI (121 * i + ee)), .int (nI ((kcol (aTt (m_all S) p0) (aMb (m_all S) p0) (ee - 1) (i - 1) / 128) + (if aTt (m_all S) p0 (i - 1) (ee - 1) = true then 0 else 1))), .int (nI (127 - kcol (aTt (m_all S) p0) (aMb (m_all S) p0) (ee - 1) (i - 1) % 128))]) (rest := []) hC hK hA hX (c_X8_tries l G am (w_begin (w_fewest (S) (f98)) (g98)) (121 * i + ee) ((kcol (aTt (m_all S) p0) (aMb (m_all S) p0) (ee - 1) (i - 1) / 128) + (if aTt (m_all S) p0 (i - 1) (ee - 1) = true then 0 else 1)) (127 - kcol (aTt (m_all S) p0) (aMb (m_all S) p0) (ee - 1) (i - 1) % 128) (kcol (aTt (m_all S) p0) (aMb (m_all S) p0) (ee - 1) (i - 1) + if aTt (m_all S) p0 (i - 1) (ee - 1) = true then 0 else 128) (by split <;> omega) (by split <;> omega) (by omega) (by split <;> omega) (some k98) hck98 (show f98 (121 * i + ee) < 2 ^ 31 from by rw [hck98.1]; omega)) (cwV 3 hC.2.2.2.2 gX8_finds_X8_tries rfl rfl rfl hd_X8_tries ⟨Nat.le_of_ble_eq_true rfl, Nat.le_of_ble_eq_true rfl⟩) (ci := 8) (q := (RX8, TX8, 21)) rfl (q0 := 0) rfl dX8_finds_188 rfl hl.1 rfl (Nat.le_of_ble_eq_true rfl) ⟨(Nat.zero_le _), (Nat.zero_le _)⟩ (fun S9 H locs hp9 hX => ?_)
                            obtain ⟨f188, g188, hS9, hck188, hot188⟩ := hp9
                            rw [hS9] at hX
                            replace hX : HH G A s.heap (wM G am (w_begin (w_fewest (S) (f188)) (g188))) H locs := hX
                            obtain ⟨k188, hk188⟩ : ∃ k, k = optMin (some k98) (kcol (aTt (m_all S) p0) (aMb (m_all S) p0) (ee - 1) (i - 1) + if aTt (m_all S) p0 (i - 1) (ee - 1) = true then 0 else 128) := ⟨_, rfl⟩
                            replace hck188 : cellK f188 g188 (121 * i + ee) k188 := by rw [hk188]; exact hck188
                            have hkb188 : k188 < 100000 := by rw [hk188]; first | exact optMin_lt (by omega) | exact optMin_lt2 (by omega) (by omega) | exact optMin_lt (by split <;> omega) | exact optMin_lt2 (by omega) (by split <;> omega)
                            have hoo188 : ∀ j, j ≠ 121 * i + ee → f188 j = f2 j ∧ g188 j = g2 j := fun j hj => ⟨(hot188 j hj).1.trans (hoo98 j hj).1, (hot188 j hj).2.trans (hoo98 j hj).2⟩
                            refine lv_iinc (v := nI (ee + 1)) (lv' := [(3, .int (nI (ee + 1))), (4, .int (nI (121 * i + ee))), (2, .int (nI (i))), (0, .ref (am 0)), (1, .int (nI (p0)))]) hC.1 hC.2.1 dX8_finds_191 hl (k := 1) rfl (n_inc1 _) (by decide) rfl (fun ls hl => ?_)
                            refine lv_goto (tgt := 13) hC.1 hC.2.1 dX8_finds_194 (by decide) ?_
                            have hkfin : k188 = kcol (aTt (m_all S) p0) (aMb (m_all S) p0) ee i := by
                              first
                              | (exfalso; omega)
                              | (rw [hk188, hk130, hk98]
                                 exact kfE (tk := aTt (m_all S) p0) (mb := aMb (m_all S) p0) (e := ee) (i := i) (by omega) (by omega))
                            refine ih13 (ee + 1) (f188) (g188) ?_ ?_ ?_ ?_ _ _ ls hX (lv_sub hl [0, 2, 3, 4] rfl)
                            · omega
                            · exact fun j e9 h1 h2 => by
                                have h3 := hoo188 (121 * j + e9) (by omega)
                                exact ⟨h3.1.trans (hin2 j e9 h1 h2).1, h3.2.trans (hin2 j e9 h1 h2).2⟩
                            · exact fun e9 h1 => by
                                by_cases h : e9 = ee
                                · subst h; rw [← hkfin]; exact hck188
                                · have h3 := hoo188 (121 * i + e9) (by omega)
                                  exact ⟨h3.1.trans (hrow e9 (by omega)).1, h3.2.trans (hrow e9 (by omega)).2⟩
                            · omega
                          refine b_if_eq hC (b := aTt (m_all S) (p0) (i - 1) (ee - 1)) (tgt := 174) dX8_finds_167 (by decide) (fun c167 => ?_) (fun c167 => ?_)
                          · skip
                            refine lv_iconst (v := nI (1)) hC.1 hC.2.1 dX8_finds_174 rfl ?_
                            refine n_top (y := nI (if aTt (m_all S) p0 (i - 1) (ee - 1) = true then 0 else 1)) (by first | rw [if_pos (by assumption)] | rw [if_neg (by simp_all)]) ?_
                            refine join175  _ _ ls  hX (lv_sub hl [0, 1, 2, 3, 4] rfl)
                          · skip
                            refine lv_iconst (v := nI (0)) hC.1 hC.2.1 dX8_finds_170 rfl ?_
                            refine lv_goto (tgt := 175) hC.1 hC.2.1 dX8_finds_171 (by decide) ?_
                            refine n_top (y := nI (if aTt (m_all S) p0 (i - 1) (ee - 1) = true then 0 else 1)) (by first | rw [if_pos (by assumption)] | rw [if_neg (by simp_all)]) ?_
                            refine join175  _ _ ls  hX (lv_sub hl [0, 1, 2, 3, 4] rfl)
                    · skip
                      refine lv_aload_n hC.1 hC.2.1 dX8_finds_105 rfl (lv_at hl 3 rfl) ?_
                      refine lv_iload hC.1 hC.2.1 dX8_finds_106 (lv_at hl 0 rfl) ?_
                      refine lv_aload_n hC.1 hC.2.1 dX8_finds_108 rfl (lv_at hl 3 rfl) ?_
                      refine g_m_fewest hC fi_X8_finds_X8 hK hX (wd9 hC 2 rfl) dX8_finds_109 ?_
                      refine lv_iload hC.1 hC.2.1 dX8_finds_112 (lv_at hl 0 rfl) ?_
                      refine lv_bipush (v := nI (121)) hC.1 hC.2.1 dX8_finds_114 (by decide +kernel) ?_
                      refine n_sub hC (a := 121 * i + ee) (b := 121) dX8_finds_116 (by omega) ?_
                      refine l_m_fewest hC hK hX (i := (121 * i + ee) - (121)) (by omega) dX8_finds_117 (v := kcol (aTt (m_all S) p0) (aMb (m_all S) p0) ee (i - 1) / 128) ((hoo98 _ (by omega)).1.trans (hU (by omega)).1) ?_
                      refine lv_iconst (v := nI (1)) hC.1 hC.2.1 dX8_finds_118 rfl ?_
                      refine n_add hC (a := kcol (aTt (m_all S) p0) (aMb (m_all S) p0) ee (i - 1) / 128) (b := 1) dX8_finds_119 ?_
                      refine lv_aload_n hC.1 hC.2.1 dX8_finds_120 rfl (lv_at hl 3 rfl) ?_
                      refine g_m_begin hC fi_X8_finds_X8 hK hX (wd9 hC 3 rfl) dX8_finds_121 ?_
                      refine lv_iload hC.1 hC.2.1 dX8_finds_124 (lv_at hl 0 rfl) ?_
                      refine lv_bipush (v := nI (121)) hC.1 hC.2.1 dX8_finds_126 (by decide +kernel) ?_
                      refine n_sub hC (a := 121 * i + ee) (b := 121) dX8_finds_128 (by omega) ?_
                      refine l_m_begin hC hK hX (i := (121 * i + ee) - (121)) (by omega) dX8_finds_129 (v := nI (127 - kcol (aTt (m_all S) p0) (aMb (m_all S) p0) ee (i - 1) % 128)) ((hoo98 _ (by omega)).2.trans (hU (by omega)).2) ?_
                      refine cv_V (As := [.int (nI (121 * i + ee)), .int (nI ((kcol (aTt (m_all S) p0) (aMb (m_all S) p0) ee (i - 1) / 128) + (1))), .int (nI (127 - kcol (aTt (m_all S) p0) (aMb (m_all S) p0) ee (i - 1) % 128))]) (rest := []) hC hK hA hX (c_X8_tries l G am (w_begin (w_fewest (S) (f98)) (g98)) (121 * i + ee) ((kcol (aTt (m_all S) p0) (aMb (m_all S) p0) ee (i - 1) / 128) + (1)) (127 - kcol (aTt (m_all S) p0) (aMb (m_all S) p0) ee (i - 1) % 128) (kcol (aTt (m_all S) p0) (aMb (m_all S) p0) ee (i - 1) + 128) (by omega) (by omega) (by omega) (by omega) (some k98) hck98 (show f98 (121 * i + ee) < 2 ^ 31 from by rw [hck98.1]; omega)) (cwV 3 hC.2.2.2.2 gX8_finds_X8_tries rfl rfl rfl hd_X8_tries ⟨Nat.le_of_ble_eq_true rfl, Nat.le_of_ble_eq_true rfl⟩) (ci := 8) (q := (RX8, TX8, 21)) rfl (q0 := 0) rfl dX8_finds_130 rfl hl.1 rfl (Nat.le_of_ble_eq_true rfl) ⟨(Nat.zero_le _), (Nat.zero_le _)⟩ (fun S9 H locs hp9 hX => ?_)
                      obtain ⟨f130, g130, hS9, hck130, hot130⟩ := hp9
                      rw [hS9] at hX
                      replace hX : HH G A s.heap (wM G am (w_begin (w_fewest (S) (f130)) (g130))) H locs := hX
                      obtain ⟨k130, hk130⟩ : ∃ k, k = optMin (some k98) (kcol (aTt (m_all S) p0) (aMb (m_all S) p0) ee (i - 1) + 128) := ⟨_, rfl⟩
                      replace hck130 : cellK f130 g130 (121 * i + ee) k130 := by rw [hk130]; exact hck130
                      have hkb130 : k130 < 100000 := by rw [hk130]; first | exact optMin_lt (by omega) | exact optMin_lt2 (by omega) (by omega) | exact optMin_lt (by split <;> omega) | exact optMin_lt2 (by omega) (by split <;> omega)
                      have hoo130 : ∀ j, j ≠ 121 * i + ee → f130 j = f2 j ∧ g130 j = g2 j := fun j hj => ⟨(hot130 j hj).1.trans (hoo98 j hj).1, (hot130 j hj).2.trans (hoo98 j hj).2⟩
                      refine lv_iload_n hC.1 hC.2.1 dX8_finds_133 rfl (lv_at hl 2 rfl) ?_
                      refine n_if_le hC (a := i) (tgt := 191) dX8_finds_134 (by decide) (by omega) (fun c134 => ?_) (fun c134 => ?_)
                      · skip
                        refine lv_iinc (v := nI (ee + 1)) (lv' := [(3, .int (nI (ee + 1))), (4, .int (nI (121 * i + ee))), (2, .int (nI (i))), (0, .ref (am 0)), (1, .int (nI (p0)))]) hC.1 hC.2.1 dX8_finds_191 hl (k := 1) rfl (n_inc1 _) (by decide) rfl (fun ls hl => ?_)
                        refine lv_goto (tgt := 13) hC.1 hC.2.1 dX8_finds_194 (by decide) ?_
                        have hkfin : k130 = kcol (aTt (m_all S) p0) (aMb (m_all S) p0) ee i := by
                          first
                          | (exfalso; omega)
                          | (obtain rfl : ee = 0 := by omega
                             exact hk130.trans (kfD (tk := aTt (m_all S) p0) (mb := aMb (m_all S) p0) (i := i) (by omega)))
                        refine ih13 (ee + 1) (f130) (g130) ?_ ?_ ?_ ?_ _ _ ls hX (lv_sub hl [0, 2, 3, 4] rfl)
                        · omega
                        · exact fun j e9 h1 h2 => by
                            have h3 := hoo130 (121 * j + e9) (by omega)
                            exact ⟨h3.1.trans (hin2 j e9 h1 h2).1, h3.2.trans (hin2 j e9 h1 h2).2⟩
                        · exact fun e9 h1 => by
                            by_cases h : e9 = ee
                            · subst h; rw [← hkfin]; exact hck130
                            · have h3 := hoo130 (121 * i + e9) (by omega)
                              exact ⟨h3.1.trans (hrow e9 (by omega)).1, h3.2.trans (hrow e9 (by omega)).2⟩
                        · omega
                      · skip
                        refine lv_iload_n hC.1 hC.2.1 dX8_finds_137 rfl (lv_at hl 1 rfl) ?_
                        refine n_if_le hC (a := ee) (tgt := 191) dX8_finds_138 (by decide) (by omega) (fun c138 => ?_) (fun c138 => ?_)
                        · skip
                          refine lv_iinc (v := nI (ee + 1)) (lv' := [(3, .int (nI (ee + 1))), (4, .int (nI (121 * i + ee))), (2, .int (nI (i))), (0, .ref (am 0)), (1, .int (nI (p0)))]) hC.1 hC.2.1 dX8_finds_191 hl (k := 1) rfl (n_inc1 _) (by decide) rfl (fun ls hl => ?_)
                          refine lv_goto (tgt := 13) hC.1 hC.2.1 dX8_finds_194 (by decide) ?_
                          have hkfin : k130 = kcol (aTt (m_all S) p0) (aMb (m_all S) p0) ee i := by
                            first
                            | (exfalso; omega)
                            | (obtain rfl : ee = 0 := by omega
                               exact hk130.trans (kfD (tk := aTt (m_all S) p0) (mb := aMb (m_all S) p0) (i := i) (by omega)))
                          refine ih13 (ee + 1) (f130) (g130) ?_ ?_ ?_ ?_ _ _ ls hX (lv_sub hl [0, 2, 3, 4] rfl)
                          · omega
                          · exact fun j e9 h1 h2 => by
                              have h3 := hoo130 (121 * j + e9) (by omega)
                              exact ⟨h3.1.trans (hin2 j e9 h1 h2).1, h3.2.trans (hin2 j e9 h1 h2).2⟩
                          · exact fun e9 h1 => by
                              by_cases h : e9 = ee
                              · subst h; rw [← hkfin]; exact hck130
                              · have h3 := hoo130 (121 * i + e9) (by omega)
                                exact ⟨h3.1.trans (hrow e9 (by omega)).1, h3.2.trans (hrow e9 (by omega)).2⟩
                          · omega
                        · skip
                          refine lv_aload_n hC.1 hC.2.1 dX8_finds_141 rfl (lv_at hl 3 rfl) ?_
                          refine lv_iload hC.1 hC.2.1 dX8_finds_142 (lv_at hl 0 rfl) ?_
                          refine lv_aload_n hC.1 hC.2.1 dX8_finds_144 rfl (lv_at hl 3 rfl) ?_
                          refine g_m_fewest hC fi_X8_finds_X8 hK hX (wd9 hC 2 rfl) dX8_finds_145 ?_
                          refine lv_iload hC.1 hC.2.1 dX8_finds_148 (lv_at hl 0 rfl) ?_
                          refine lv_bipush (v := nI (121)) hC.1 hC.2.1 dX8_finds_150 (by decide +kernel) ?_
                          refine n_sub hC (a := 121 * i + ee) (b := 121) dX8_finds_152 (by omega) ?_
                          refine lv_iconst (v := nI (1)) hC.1 hC.2.1 dX8_finds_153 rfl ?_
                          refine n_sub hC (a := (121 * i + ee) - (121)) (b := 1) dX8_finds_154 (by omega) ?_
                          refine l_m_fewest hC hK hX (i := ((121 * i + ee) - (121)) - (1)) (by omega) dX8_finds_155 (v := kcol (aTt (m_all S) p0) (aMb (m_all S) p0) (ee - 1) (i - 1) / 128) ((hoo130 _ (by omega)).1.trans (hD (by omega) (by omega)).1) ?_
                          refine lv_aload_n hC.1 hC.2.1 dX8_finds_156 rfl (lv_at hl 3 rfl) ?_
                          refine lv_iload_n hC.1 hC.2.1 dX8_finds_157 rfl (lv_at hl 4 rfl) ?_
                          refine lv_iload_n hC.1 hC.2.1 dX8_finds_158 rfl (lv_at hl 2 rfl) ?_
                          refine lv_iconst (v := nI (1)) hC.1 hC.2.1 dX8_finds_159 rfl ?_
                          refine n_sub hC (a := i) (b := 1) dX8_finds_160 (by omega) ?_
                          refine lv_iload_n hC.1 hC.2.1 dX8_finds_161 rfl (lv_at hl 1 rfl) ?_
                          refine lv_iconst (v := nI (1)) hC.1 hC.2.1 dX8_finds_162 rfl ?_
                          refine n_sub hC (a := ee) (b := 1) dX8_finds_163 (by omega) ?_
                          refine cv_I (As := [.int (nI (p0)), .int (nI (i - 1)), .int (nI (ee - 1))]) (rest := [.int (nI (kcol (aTt (m_all S) p0) (aMb (m_all S) p0) (ee - 1) (i - 1) / 128)), .int (nI (121 * i + ee)), .ref (am 0)]) hC hK hA hX (c_X8_isTaken l G am (w_begin (w_fewest (S) (f130)) (g130)) (p0) (i - 1) (ee - 1) hp0 (by omega) (by omega) (hT0 _ (by omega)) (hK0 _ (by omega))) (cwV 3 hC.2.2.2.2 gX8_finds_X8_isTaken rfl rfl rfl hd_X8_isTaken ⟨Nat.le_of_ble_eq_true rfl, Nat.le_of_ble_eq_true rfl⟩) (ci := 8) (q := (RX8, TX8, 21)) rfl (q0 := 0) rfl dX8_finds_164 rfl hl.1 rfl (Nat.le_of_ble_eq_true rfl) ⟨(Nat.zero_le _), (Nat.zero_le _)⟩ (fun r9 S9 H locs hp9 hX => ?_)
                          obtain ⟨rfl, hS9⟩ := hp9
                          rw [hS9] at hX
                          replace hX : HH G A s.heap (wM G am (w_begin (w_fewest (S) (f130)) (g130))) H locs := hX
                          have join175 : ∀ (H : Heap) (locs : List Loc) (ls : Array Slot), HH G A s.heap (wM G am (w_begin (w_fewest (S) (f130)) (g130))) H locs → lv_has ls 5 [(4, .int (nI (121 * i + ee))), (3, .int (nI (ee))), (2, .int (nI (i))), (0, .ref (am 0)), (1, .int (nI (p0)))] → W p l e { frames := 2, cells := 0, slots := 0, locals := 45 } s m args below meth c H locs 0 0 (EndV G (wM G am) A (fun S' => ∃ f g, S' = w_begin (w_fewest S f) g ∧ ∀ i ee, i ≤ aPl (m_all S) p0 → ee ≤ aLen (m_all S) → cellK f g (121 * i + ee) (kcol (aTt (m_all S) p0) (aMb (m_all S) p0) ee i)) below args s 0 0) (F0 m 175 ls [.int (nI (if aTt (m_all S) p0 (i - 1) (ee - 1) = true then 0 else 1)), .int (nI (kcol (aTt (m_all S) p0) (aMb (m_all S) p0) (ee - 1) (i - 1) / 128)), .int (nI (121 * i + ee)), .ref (am 0)]) := by
                            intro  H locs ls  hX hl
                            refine n_add hC (a := kcol (aTt (m_all S) p0) (aMb (m_all S) p0) (ee - 1) (i - 1) / 128) (b := if aTt (m_all S) p0 (i - 1) (ee - 1) = true then 0 else 1) dX8_finds_175 ?_
                            refine lv_aload_n hC.1 hC.2.1 dX8_finds_176 rfl (lv_at hl 3 rfl) ?_
                            refine g_m_begin hC fi_X8_finds_X8 hK hX (wd9 hC 3 rfl) dX8_finds_177 ?_
                            refine lv_iload hC.1 hC.2.1 dX8_finds_180 (lv_at hl 0 rfl) ?_
                            refine lv_bipush (v := nI (121)) hC.1 hC.2.1 dX8_finds_182 (by decide +kernel) ?_
                            refine n_sub hC (a := 121 * i + ee) (b := 121) dX8_finds_184 (by omega) ?_
                            refine lv_iconst (v := nI (1)) hC.1 hC.2.1 dX8_finds_185 rfl ?_
                            refine n_sub hC (a := (121 * i + ee) - (121)) (b := 1) dX8_finds_186 (by omega) ?_
                            refine l_m_begin hC hK hX (i := ((121 * i + ee) - (121)) - (1)) (by omega) dX8_finds_187 (v := nI (127 - kcol (aTt (m_all S) p0) (aMb (m_all S) p0) (ee - 1) (i - 1) % 128)) ((hoo130 _ (by omega)).2.trans (hD (by omega) (by omega)).2) ?_
                            refine cv_V (As := [.int (nI (121 * i + ee)), .int (nI ((kcol (aTt (m_all S) p0) (aMb (m_all S) p0) (ee - 1) (i - 1) / 128) + (if aTt (m_all S) p0 (i - 1) (ee - 1) = true then 0 else 1))), .int (nI (127 - kcol (aTt (m_all S) p0) (aMb (m_all S) p0) (ee - 1) (i - 1) % 128))]) (rest := []) hC hK hA hX (c_X8_tries l G am (w_begin (w_fewest (S) (f130)) (g130)) (121 * i + ee) ((kcol (aTt (m_all S) p0) (aMb (m_all S) p0) (ee - 1) (i - 1) / 128) + (if aTt (m_all S) p0 (i - 1) (ee - 1) = true then 0 else 1)) (127 - kcol (aTt (m_all S) p0) (aMb (m_all S) p0) (ee - 1) (i - 1) % 128) (kcol (aTt (m_all S) p0) (aMb (m_all S) p0) (ee - 1) (i - 1) + if aTt (m_all S) p0 (i - 1) (ee - 1) = true then 0 else 128) (by split <;> omega) (by split <;> omega) (by omega) (by split <;> omega) (some k130) hck130 (show f130 (121 * i + ee) < 2 ^ 31 from by rw [hck130.1]; omega)) (cwV 3 hC.2.2.2.2 gX8_finds_X8_tries rfl rfl rfl hd_X8_tries ⟨Nat.le_of_ble_eq_true rfl, Nat.le_of_ble_eq_true rfl⟩) (ci := 8) (q := (RX8, TX8, 21)) rfl (q0 := 0) rfl dX8_finds_188 rfl hl.1 rfl (Nat.le_of_ble_eq_true rfl) ⟨(Nat.zero_le _), (Nat.zero_le _)⟩ (fun S9 H locs hp9 hX => ?_)
                            obtain ⟨f188, g188, hS9, hck188, hot188⟩ := hp9
                            rw [hS9] at hX
                            replace hX : HH G A s.heap (wM G am (w_begin (w_fewest (S) (f188)) (g188))) H locs := hX
                            obtain ⟨k188, hk188⟩ : ∃ k, k = optMin (some k130) (kcol (aTt (m_all S) p0) (aMb (m_all S) p0) (ee - 1) (i - 1) + if aTt (m_all S) p0 (i - 1) (ee - 1) = true then 0 else 128) := ⟨_, rfl⟩
                            replace hck188 : cellK f188 g188 (121 * i + ee) k188 := by rw [hk188]; exact hck188
                            have hkb188 : k188 < 100000 := by rw [hk188]; first | exact optMin_lt (by omega) | exact optMin_lt2 (by omega) (by omega) | exact optMin_lt (by split <;> omega) | exact optMin_lt2 (by omega) (by split <;> omega)
                            have hoo188 : ∀ j, j ≠ 121 * i + ee → f188 j = f2 j ∧ g188 j = g2 j := fun j hj => ⟨(hot188 j hj).1.trans (hoo130 j hj).1, (hot188 j hj).2.trans (hoo130 j hj).2⟩
                            refine lv_iinc (v := nI (ee + 1)) (lv' := [(3, .int (nI (ee + 1))), (4, .int (nI (121 * i + ee))), (2, .int (nI (i))), (0, .ref (am 0)), (1, .int (nI (p0)))]) hC.1 hC.2.1 dX8_finds_191 hl (k := 1) rfl (n_inc1 _) (by decide) rfl (fun ls hl => ?_)
                            refine lv_goto (tgt := 13) hC.1 hC.2.1 dX8_finds_194 (by decide) ?_
                            have hkfin : k188 = kcol (aTt (m_all S) p0) (aMb (m_all S) p0) ee i := by
                              first
                              | (exfalso; omega)
                              | (rw [hk188, hk130, hk98]
                                 exact kfE (tk := aTt (m_all S) p0) (mb := aMb (m_all S) p0) (e := ee) (i := i) (by omega) (by omega))
                            refine ih13 (ee + 1) (f188) (g188) ?_ ?_ ?_ ?_ _ _ ls hX (lv_sub hl [0, 2, 3, 4] rfl)
                            · omega
                            · exact fun j e9 h1 h2 => by
                                have h3 := hoo188 (121 * j + e9) (by omega)
                                exact ⟨h3.1.trans (hin2 j e9 h1 h2).1, h3.2.trans (hin2 j e9 h1 h2).2⟩
                            · exact fun e9 h1 => by
                                by_cases h : e9 = ee
                                · subst h; rw [← hkfin]; exact hck188
                                · have h3 := hoo188 (121 * i + e9) (by omega)
                                  exact ⟨h3.1.trans (hrow e9 (by omega)).1, h3.2.trans (hrow e9 (by omega)).2⟩
                            · omega
                          refine b_if_eq hC (b := aTt (m_all S) (p0) (i - 1) (ee - 1)) (tgt := 174) dX8_finds_167 (by decide) (fun c167 => ?_) (fun c167 => ?_)
                          · skip
                            refine lv_iconst (v := nI (1)) hC.1 hC.2.1 dX8_finds_174 rfl ?_
                            refine n_top (y := nI (if aTt (m_all S) p0 (i - 1) (ee - 1) = true then 0 else 1)) (by first | rw [if_pos (by assumption)] | rw [if_neg (by simp_all)]) ?_
                            refine join175  _ _ ls  hX (lv_sub hl [0, 1, 2, 3, 4] rfl)
                          · skip
                            refine lv_iconst (v := nI (0)) hC.1 hC.2.1 dX8_finds_170 rfl ?_
                            refine lv_goto (tgt := 175) hC.1 hC.2.1 dX8_finds_171 (by decide) ?_
                            refine n_top (y := nI (if aTt (m_all S) p0 (i - 1) (ee - 1) = true then 0 else 1)) (by first | rw [if_pos (by assumption)] | rw [if_neg (by simp_all)]) ?_
                            refine join175  _ _ ls  hX (lv_sub hl [0, 1, 2, 3, 4] rfl)
        refine loop13 _ (0) (f) (g) ?_ ?_ ?_ (Nat.lt_succ_self _) _ _ ls hX (lv_sub hl [0, 1, 2, 3] rfl)
        · omega
        · exact hin
        · exact fun e9 h => absurd h (Nat.not_lt_zero _)
  refine loop2 _ (0) (m_fewest S) (m_begin S) ?_ ?_ (Nat.lt_succ_self _) _ _ ls hX (lv_sub hl [0, 1, 2] rfl)
  · omega
  · exact fun j ee h => absurd h (Nat.not_lt_zero _)
