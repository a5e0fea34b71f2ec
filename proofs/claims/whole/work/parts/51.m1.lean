set_option maxHeartbeats 4000000 in
set_option maxRecDepth 100000 in
theorem c_X8_in (l : Launch) (G : GX) (x0 y0 z0 : Int64) : CtI l yX8_in wsX8_in { frames := 0, cells := 0, slots := 0, locals := 0 } G wP (()) [.long (x0), .long (y0), .long (z0)] (fun r _ => r = bI (inL x0 y0 z0)) 0 0 := by
  refine CtI.of (cc := cX8_in) (maxL := 6) (ret := some .boolean) (by decide +kernel) rfl (Nat.le_of_ble_eq_true rfl) ?_
  intro p e s m args below meth c ls A hC hr hlk hin hK hA hX hl
  have hl : lv_has ls 6 [(0, .long (x0)), (2, .long (y0)), (4, .long (z0))] := hl
  refine lv_lload_n hC.1 hC.2.1 dX8_in_0 rfl (lv_at hl 0 rfl) ?_
  refine lv_lload_n hC.1 hC.2.1 dX8_in_1 rfl (lv_at hl 1 rfl) ?_
  refine W.lcmp hC.1 hC.2.1 dX8_in_2 ?_
  refine lv_if_lt hC.1 hC.2.1 (x := lg_cmp (x0) (y0)) (tgt := 17) dX8_in_3 (by decide) (fun c3 => ?_) (fun c3 => ?_)
  · skip
    refine lv_iconst (v := nI (0)) hC.1 hC.2.1 dX8_in_17 rfl ?_
    refine r_zreturn hC hr hlk hX dX8_in_18 rfl ?_
    first | exact bI_t ⟨Int.not_lt.mp (fun z => c3 (lgc_lt.mpr z)), Int.not_lt.mp (fun z => c10 (lgc_gt.mpr z))⟩ | exact bI_f (fun z => Int.not_lt.mpr z.1 (lgc_lt.mp c3)) | exact bI_f (fun z => Int.not_lt.mpr z.2 (lgc_gt.mp c10))
  · skip
    refine lv_lload_n hC.1 hC.2.1 dX8_in_6 rfl (lv_at hl 0 rfl) ?_
    refine lv_lload hC.1 hC.2.1 dX8_in_7 (lv_at hl 2 rfl) ?_
    refine W.lcmp hC.1 hC.2.1 dX8_in_9 ?_
    refine lv_if_gt hC.1 hC.2.1 (x := lg_cmp (x0) (z0)) (tgt := 17) dX8_in_10 (by decide) (fun c10 => ?_) (fun c10 => ?_)
    · skip
      refine lv_iconst (v := nI (0)) hC.1 hC.2.1 dX8_in_17 rfl ?_
      refine r_zreturn hC hr hlk hX dX8_in_18 rfl ?_
      first | exact bI_t ⟨Int.not_lt.mp (fun z => c3 (lgc_lt.mpr z)), Int.not_lt.mp (fun z => c10 (lgc_gt.mpr z))⟩ | exact bI_f (fun z => Int.not_lt.mpr z.1 (lgc_lt.mp c3)) | exact bI_f (fun z => Int.not_lt.mpr z.2 (lgc_gt.mp c10))
    · skip
      refine lv_iconst (v := nI (1)) hC.1 hC.2.1 dX8_in_13 rfl ?_
      refine lv_goto (tgt := 18) hC.1 hC.2.1 dX8_in_14 (by decide) ?_
      refine r_zreturn hC hr hlk hX dX8_in_18 rfl ?_
      first | exact bI_t ⟨Int.not_lt.mp (fun z => c3 (lgc_lt.mpr z)), Int.not_lt.mp (fun z => c10 (lgc_gt.mpr z))⟩ | exact bI_f (fun z => Int.not_lt.mpr z.1 (lgc_lt.mp c3)) | exact bI_f (fun z => Int.not_lt.mpr z.2 (lgc_gt.mp c10))
theorem fi_X8_places_X8 : ∀ w ∈ wsX80, w ∈ wsX8_places := by decide +kernel
set_option maxHeartbeats 4000000 in
set_option maxRecDepth 100000 in
theorem c_X8_places (l : Launch) (G : GX) (am : Nat → Nat) (S : MS) (p0 : Nat) (hp0 : p0 < 6) : CtI l yX8_places wsX8_places { frames := 0, cells := 0, slots := 0, locals := 0 } G (wM G am) (S) [.ref (am 0), .int (nI (p0))] (fun r S' => r = nI (aPl (m_all S) p0) ∧ S' = S) 0 0 := by
  refine CtI.of (cc := cX8_places) (maxL := 2) (ret := some .int) (by decide +kernel) rfl (Nat.le_of_ble_eq_true rfl) ?_
  intro p e s m args below meth c ls A hC hr hlk hin hK hA hX hl
  have hl : lv_has ls 2 [(0, .ref (am 0)), (1, .int (nI (p0)))] := hl
  refine lv_aload_n hC.1 hC.2.1 dX8_places_0 rfl (lv_at hl 0 rfl) ?_
  refine g_m_all hC fi_X8_places_X8 hK hX (wd9 hC 1 rfl) dX8_places_1 ?_
  refine lv_bipush (v := nI (123)) hC.1 hC.2.1 dX8_places_4 (by decide +kernel) ?_
  refine lv_bipush (v := nI (62)) hC.1 hC.2.1 dX8_places_6 (by decide +kernel) ?_
  refine lv_iload_n hC.1 hC.2.1 dX8_places_8 rfl (lv_at hl 1 rfl) ?_
  refine n_mul hC (a := 62) (b := p0) dX8_places_9 ?_
  refine n_add hC (a := 123) (b := 62 * p0) dX8_places_10 ?_
  refine l_m_all hC hK hX (i := (123) + (62 * p0)) (by omega) dX8_places_11 (v := aPl (m_all S) p0) rfl ?_
  refine r_ireturn hC hr hlk hX dX8_places_12 ?_
  exact ⟨rfl, rfl⟩
theorem fi_X8_taking_X8 : ∀ w ∈ wsX80, w ∈ wsX8_taking := by decide +kernel
set_option maxHeartbeats 4000000 in
set_option maxRecDepth 100000 in
theorem c_X8_taking (l : Launch) (G : GX) (am : Nat → Nat) (S : MS) (p0 j0 : Nat) (hp0 : p0 < 6) (hj0 : j0 < 60) : CtI l yX8_taking wsX8_taking { frames := 0, cells := 0, slots := 0, locals := 0 } G (wM G am) (S) [.ref (am 0), .int (nI (p0)), .int (nI (j0))] (fun r S' => r = nI (aTk (m_all S) p0 j0) ∧ S' = S) 0 0 := by
  refine CtI.of (cc := cX8_taking) (maxL := 3) (ret := some .int) (by decide +kernel) rfl (Nat.le_of_ble_eq_true rfl) ?_
  intro p e s m args below meth c ls A hC hr hlk hin hK hA hX hl
  have hl : lv_has ls 3 [(0, .ref (am 0)), (1, .int (nI (p0))), (2, .int (nI (j0)))] := hl
  refine lv_aload_n hC.1 hC.2.1 dX8_taking_0 rfl (lv_at hl 0 rfl) ?_
  refine g_m_all hC fi_X8_taking_X8 hK hX (wd9 hC 1 rfl) dX8_taking_1 ?_
  refine lv_bipush (v := nI (123)) hC.1 hC.2.1 dX8_taking_4 (by decide +kernel) ?_
  refine lv_bipush (v := nI (62)) hC.1 hC.2.1 dX8_taking_6 (by decide +kernel) ?_
  refine lv_iload_n hC.1 hC.2.1 dX8_taking_8 rfl (lv_at hl 1 rfl) ?_
  refine n_mul hC (a := 62) (b := p0) dX8_taking_9 ?_
  refine n_add hC (a := 123) (b := 62 * p0) dX8_taking_10 ?_
  refine lv_iconst (v := nI (2)) hC.1 hC.2.1 dX8_taking_11 rfl ?_
  refine n_add hC (a := (123) + (62 * p0)) (b := 2) dX8_taking_12 ?_
  refine lv_iload_n hC.1 hC.2.1 dX8_taking_13 rfl (lv_at hl 2 rfl) ?_
  refine n_add hC (a := ((123) + (62 * p0)) + (2)) (b := j0) dX8_taking_14 ?_
  refine l_m_all hC hK hX (i := (((123) + (62 * p0)) + (2)) + (j0)) (by omega) dX8_taking_15 (v := aTk (m_all S) p0 j0) (congrArg (m_all S) (by omega)) ?_
  refine r_ireturn hC hr hlk hX dX8_taking_16 ?_
  exact ⟨rfl, rfl⟩
theorem fi_X8_mayBegin_X8 : ∀ w ∈ wsX80, w ∈ wsX8_mayBegin := by decide +kernel
set_option maxHeartbeats 4000000 in
set_option maxRecDepth 100000 in
theorem c_X8_mayBegin (l : Launch) (G : GX) (am : Nat → Nat) (S : MS) (p0 e0 : Nat) (hp0 : p0 < 6) (he0 : e0 ≤ 120) (hb0 : aBd (m_all S) p0 < 2 ^ 31) (ht0 : aTx (m_all S) (e0 - 1) < 2 ^ 31) : CtI l yX8_mayBegin wsX8_mayBegin { frames := 0, cells := 0, slots := 0, locals := 0 } G (wM G am) (S) [.ref (am 0), .int (nI (p0)), .int (nI (e0))] (fun r S' => r = bI (aMb (m_all S) p0 e0) ∧ S' = S) 0 0 := by
  refine CtI.of (cc := cX8_mayBegin) (maxL := 3) (ret := some .boolean) (by decide +kernel) rfl (Nat.le_of_ble_eq_true rfl) ?_
  intro p e s m args below meth c ls A hC hr hlk hin hK hA hX hl
  have hl : lv_has ls 3 [(0, .ref (am 0)), (1, .int (nI (p0))), (2, .int (nI (e0)))] := hl
  refine lv_aload_n hC.1 hC.2.1 dX8_mayBegin_0 rfl (lv_at hl 0 rfl) ?_
  refine g_m_all hC fi_X8_mayBegin_X8 hK hX (wd9 hC 1 rfl) dX8_mayBegin_1 ?_
  refine lv_bipush (v := nI (123)) hC.1 hC.2.1 dX8_mayBegin_4 (by decide +kernel) ?_
  refine lv_bipush (v := nI (62)) hC.1 hC.2.1 dX8_mayBegin_6 (by decide +kernel) ?_
  refine lv_iload_n hC.1 hC.2.1 dX8_mayBegin_8 rfl (lv_at hl 1 rfl) ?_
  refine n_mul hC (a := 62) (b := p0) dX8_mayBegin_9 ?_
  refine n_add hC (a := 123) (b := 62 * p0) dX8_mayBegin_10 ?_
  refine lv_iconst (v := nI (1)) hC.1 hC.2.1 dX8_mayBegin_11 rfl ?_
  refine n_add hC (a := (123) + (62 * p0)) (b := 1) dX8_mayBegin_12 ?_
  refine l_m_all hC hK hX (i := ((123) + (62 * p0)) + (1)) (by omega) dX8_mayBegin_13 (v := aBd (m_all S) p0) (congrArg (m_all S) (by omega)) ?_
  refine n_if_eq hC (a := aBd (m_all S) p0) (tgt := 36) dX8_mayBegin_14 (by decide) (by omega) (fun c14 => ?_) (fun c14 => ?_)
  · skip
    refine lv_iconst (v := nI (1)) hC.1 hC.2.1 dX8_mayBegin_36 rfl ?_
    refine lv_goto (tgt := 41) hC.1 hC.2.1 dX8_mayBegin_37 (by decide) ?_
    refine r_zreturn hC hr hlk hX dX8_mayBegin_41 rfl ?_
    first | exact ⟨bI_t (by omega), rfl⟩ | exact ⟨bI_f (by omega), rfl⟩
  · skip
    refine lv_iload_n hC.1 hC.2.1 dX8_mayBegin_17 rfl (lv_at hl 2 rfl) ?_
    refine n_if_eq hC (a := e0) (tgt := 36) dX8_mayBegin_18 (by decide) (by omega) (fun c18 => ?_) (fun c18 => ?_)
    · skip
      refine lv_iconst (v := nI (1)) hC.1 hC.2.1 dX8_mayBegin_36 rfl ?_
      refine lv_goto (tgt := 41) hC.1 hC.2.1 dX8_mayBegin_37 (by decide) ?_
      refine r_zreturn hC hr hlk hX dX8_mayBegin_41 rfl ?_
      first | exact ⟨bI_t (by omega), rfl⟩ | exact ⟨bI_f (by omega), rfl⟩
    · skip
      refine lv_aload_n hC.1 hC.2.1 dX8_mayBegin_21 rfl (lv_at hl 0 rfl) ?_
      refine g_m_all hC fi_X8_mayBegin_X8 hK hX (wd9 hC 1 rfl) dX8_mayBegin_22 ?_
      refine lv_iconst (v := nI (3)) hC.1 hC.2.1 dX8_mayBegin_25 rfl ?_
      refine lv_iload_n hC.1 hC.2.1 dX8_mayBegin_26 rfl (lv_at hl 2 rfl) ?_
      refine n_add hC (a := 3) (b := e0) dX8_mayBegin_27 ?_
      refine lv_iconst (v := nI (1)) hC.1 hC.2.1 dX8_mayBegin_28 rfl ?_
      refine n_sub hC (a := 3 + e0) (b := 1) dX8_mayBegin_29 (by omega) ?_
      refine l_m_all hC hK hX (i := (3 + e0) - (1)) (by omega) dX8_mayBegin_30 (v := aTx (m_all S) (e0 - 1)) (congrArg (m_all S) (by omega)) ?_
      refine lv_bipush (v := nI (26)) hC.1 hC.2.1 dX8_mayBegin_31 (by decide +kernel) ?_
      refine n_icmp_ne hC (a := aTx (m_all S) (e0 - 1)) (b := 26) (tgt := 40) dX8_mayBegin_33 (by decide) (by omega) (by decide) (fun c33 => ?_) (fun c33 => ?_)
      · skip
        refine lv_iconst (v := nI (0)) hC.1 hC.2.1 dX8_mayBegin_40 rfl ?_
        refine r_zreturn hC hr hlk hX dX8_mayBegin_41 rfl ?_
        first | exact ⟨bI_t (by omega), rfl⟩ | exact ⟨bI_f (by omega), rfl⟩
      · skip
        refine lv_iconst (v := nI (1)) hC.1 hC.2.1 dX8_mayBegin_36 rfl ?_
        refine lv_goto (tgt := 41) hC.1 hC.2.1 dX8_mayBegin_37 (by decide) ?_
        refine r_zreturn hC hr hlk hX dX8_mayBegin_41 rfl ?_
        first | exact ⟨bI_t (by omega), rfl⟩ | exact ⟨bI_f (by omega), rfl⟩
theorem hd_X8_taking : yX8_taking.cls = RX8 ∧ yX8_taking.cls ≠ "java/lang/invoke/MethodHandle" ∧ yX8_taking.cls ≠ "java/lang/invoke/VarHandle" ∧ (parseMethodDescriptor yX8_taking.desc).map (fun d => d.parameters.length) = some 2 := by decide +kernel
theorem fi_X8_isTaken_X8 : ∀ w ∈ wsX80, w ∈ wsX8_isTaken := by decide +kernel
set_option maxHeartbeats 4000000 in
set_option maxRecDepth 100000 in
theorem c_X8_isTaken (l : Launch) (G : GX) (am : Nat → Nat) (S : MS) (p0 j0 e0 : Nat) (hp0 : p0 < 6) (hj0 : j0 < 60) (he0 : e0 < 120) (ht0 : aTx (m_all S) e0 < 27) (hk0 : aTk (m_all S) p0 j0 < 2 ^ 31) : CtI l yX8_isTaken wsX8_isTaken { frames := 1, cells := 0, slots := 0, locals := 22 } G (wM G am) (S) [.ref (am 0), .int (nI (p0)), .int (nI (j0)), .int (nI (e0))] (fun r S' => r = bI (aTt (m_all S) p0 j0 e0) ∧ S' = S) 0 0 := by
  refine CtI.of (cc := cX8_isTaken) (maxL := 4) (ret := some .boolean) (by decide +kernel) rfl (Nat.le_of_ble_eq_true rfl) ?_
  intro p e s m args below meth c ls A hC hr hlk hin hK hA hX hl
  have hl : lv_has ls 4 [(0, .ref (am 0)), (1, .int (nI (p0))), (2, .int (nI (j0))), (3, .int (nI (e0)))] := hl
  refine lv_aload_n hC.1 hC.2.1 dX8_isTaken_0 rfl (lv_at hl 0 rfl) ?_
  refine lv_iload_n hC.1 hC.2.1 dX8_isTaken_1 rfl (lv_at hl 1 rfl) ?_
  refine lv_iload_n hC.1 hC.2.1 dX8_isTaken_2 rfl (lv_at hl 2 rfl) ?_
  refine cv_I (As := [.int (nI (p0)), .int (nI (j0))]) (rest := []) hC hK hA hX (c_X8_taking l G am (S) (p0) (j0) (by omega) (by omega)) (cwV 2 hC.2.2.2.2 gX8_isTaken_X8_taking rfl rfl rfl hd_X8_taking ⟨Nat.le_of_ble_eq_true rfl, Nat.le_of_ble_eq_true rfl⟩) (ci := 8) (q := (RX8, TX8, 21)) rfl (q0 := 0) rfl dX8_isTaken_3 rfl hl.1 rfl (Nat.le_of_ble_eq_true rfl) ⟨(Nat.zero_le _), (Nat.zero_le _)⟩ (fun r9 S9 H locs hp9 hX => ?_)
  obtain ⟨rfl, hS9⟩ := hp9
  rw [hS9] at hX
  replace hX : HH G A s.heap (wM G am (S)) H locs := hX
  refine lv_aload_n hC.1 hC.2.1 dX8_isTaken_6 rfl (lv_at hl 0 rfl) ?_
  refine g_m_all hC fi_X8_isTaken_X8 hK hX (wd9 hC 1 rfl) dX8_isTaken_7 ?_
  refine lv_iconst (v := nI (3)) hC.1 hC.2.1 dX8_isTaken_10 rfl ?_
  refine lv_iload_n hC.1 hC.2.1 dX8_isTaken_11 rfl (lv_at hl 3 rfl) ?_
  refine n_add hC (a := 3) (b := e0) dX8_isTaken_12 ?_
  refine l_m_all hC hK hX (i := 3 + e0) (by omega) dX8_isTaken_13 (v := aTx (m_all S) e0) rfl ?_
  refine lv_ishr hC.1 hC.2.1 dX8_isTaken_14 ?_
  refine n_top (y := nI (aTk (m_all S) p0 j0 / 2 ^ aTx (m_all S) e0)) (shr_var hk0 (by omega)) ?_
  refine lv_iconst (v := nI (1)) hC.1 hC.2.1 dX8_isTaken_15 rfl ?_
  refine lv_iand hC.1 hC.2.1 dX8_isTaken_16 ?_
  refine n_top (y := nI (aTk (m_all S) p0 j0 / 2 ^ aTx (m_all S) e0 % 2)) (pk_andN (Nat.lt_of_le_of_lt (Nat.div_le_self _ _) (by omega)) 1 (by decide +kernel)) ?_
  refine lv_iconst (v := nI (1)) hC.1 hC.2.1 dX8_isTaken_17 rfl ?_
  refine n_icmp_ne hC (a := aTk (m_all S) p0 j0 / 2 ^ aTx (m_all S) e0 % 2) (b := 1) (tgt := 25) dX8_isTaken_18 (by decide) (by omega) (by decide) (fun c18 => ?_) (fun c18 => ?_)
  · skip
    refine lv_iconst (v := nI (0)) hC.1 hC.2.1 dX8_isTaken_25 rfl ?_
    refine r_zreturn hC hr hlk hX dX8_isTaken_26 rfl ?_
    first | exact ⟨bI_1 (by unfold aTt; rw [Nat.testBit_eq_decide_div_mod_eq]; exact decide_eq_true (by assumption)), rfl⟩ | exact ⟨bI_0 (by unfold aTt; rw [Nat.testBit_eq_decide_div_mod_eq]; exact decide_eq_false (by assumption)), rfl⟩
  · skip
    refine lv_iconst (v := nI (1)) hC.1 hC.2.1 dX8_isTaken_21 rfl ?_
    refine lv_goto (tgt := 26) hC.1 hC.2.1 dX8_isTaken_22 (by decide) ?_
    refine r_zreturn hC hr hlk hX dX8_isTaken_26 rfl ?_
    first | exact ⟨bI_1 (by unfold aTt; rw [Nat.testBit_eq_decide_div_mod_eq]; exact decide_eq_true (by assumption)), rfl⟩ | exact ⟨bI_0 (by unfold aTt; rw [Nat.testBit_eq_decide_div_mod_eq]; exact decide_eq_false (by assumption)), rfl⟩
theorem fi_X8_tries_X8 : ∀ w ∈ wsX80, w ∈ wsX8_tries := by decide +kernel
set_option maxHeartbeats 4000000 in
set_option maxRecDepth 100000 in
theorem c_X8_tries (l : Launch) (G : GX) (am : Nat → Nat) (S : MS) (i0 k0 : Nat) (hi0 : i0 < 7381) (hk0 : k0 < 100000) (ko : Option Nat) (hko : cellO (m_fewest S) (m_begin S) i0 ko) (hf0 : m_fewest S i0 < 2 ^ 31) : CtV l yX8_tries wsX8_tries { frames := 0, cells := 0, slots := 0, locals := 0 } G (wM G am) (S) [.ref (am 0), .int (nI (i0)), .int (nI (k0 / 128)), .int (nI (127 - k0 % 128))] (fun S' => ∃ f g, S' = w_begin (w_fewest S f) g ∧ cellK f g i0 (optMin ko k0) ∧ ∀ j, j ≠ i0 → f j = m_fewest S j ∧ g j = m_begin S j) 0 0 := by
  refine CtV.of (cc := cX8_tries) (maxL := 4) (ret := none) (by decide +kernel) rfl (Nat.le_of_ble_eq_true rfl) ?_
  intro p e s m args below meth c ls A hC hr hlk hin hK hA hX hl
  have hl : lv_has ls 4 [(0, .ref (am 0)), (1, .int (nI (i0))), (2, .int (nI (k0 / 128))), (3, .int (nI (127 - k0 % 128)))] := hl
  refine lv_iload_n hC.1 hC.2.1 dX8_tries_0 rfl (lv_at hl 2 rfl) ?_
  refine lv_aload_n hC.1 hC.2.1 dX8_tries_1 rfl (lv_at hl 0 rfl) ?_
  refine g_m_fewest hC fi_X8_tries_X8 hK hX (wd9 hC 1 rfl) dX8_tries_2 ?_
  refine lv_iload_n hC.1 hC.2.1 dX8_tries_5 rfl (lv_at hl 1 rfl) ?_
  refine l_m_fewest hC hK hX (i := i0) (by omega) dX8_tries_6 (v := (m_fewest S) i0) rfl ?_
  refine n_icmp_lt hC (a := k0 / 128) (b := (m_fewest S) i0) (tgt := 30) dX8_tries_7 (by decide) (by omega) hf0 (fun c7 => ?_) (fun c7 => ?_)
  · skip
    refine lv_aload_n hC.1 hC.2.1 dX8_tries_30 rfl (lv_at hl 0 rfl) ?_
    refine g_m_fewest hC fi_X8_tries_X8 hK hX (wd9 hC 1 rfl) dX8_tries_31 ?_
    refine lv_iload_n hC.1 hC.2.1 dX8_tries_34 rfl (lv_at hl 1 rfl) ?_
    refine lv_iload_n hC.1 hC.2.1 dX8_tries_35 rfl (lv_at hl 2 rfl) ?_
    refine s_m_fewest hC hK hX (i := i0) (v := k0 / 128) (by omega) dX8_tries_36 (fun H locs hX => ?_)
    replace hX : HH G A s.heap (wM G am (w_fewest (S) (va_up (m_fewest S) (i0) (k0 / 128)))) H locs := hX
    refine lv_aload_n hC.1 hC.2.1 dX8_tries_37 rfl (lv_at hl 0 rfl) ?_
    refine g_m_begin hC fi_X8_tries_X8 hK hX (wd9 hC 2 rfl) dX8_tries_38 ?_
    refine lv_iload_n hC.1 hC.2.1 dX8_tries_41 rfl (lv_at hl 1 rfl) ?_
    refine lv_iload_n hC.1 hC.2.1 dX8_tries_42 rfl (lv_at hl 3 rfl) ?_
    refine s_m_begin hC hK hX (i := i0) (v := nI (127 - k0 % 128)) (by omega) dX8_tries_43 (fun H locs hX => ?_)
    replace hX : HH G A s.heap (wM G am (w_begin (w_fewest (S) (va_up (m_fewest S) (i0) (k0 / 128))) (upd (m_begin S) (i0) (nI (127 - k0 % 128))))) H locs := hX
    refine r_return hC hr hlk hX dX8_tries_44 ?_
    first | exact ⟨_, _, rfl, try_st hko (Or.inl c7), fun j hj => ⟨va_up_ne _ _ hj, pk_un hj⟩⟩ | exact ⟨_, _, rfl, try_st hko (Or.inr ⟨c17, c27⟩), fun j hj => ⟨va_up_ne _ _ hj, pk_un hj⟩⟩
  · skip
    refine lv_iload_n hC.1 hC.2.1 dX8_tries_10 rfl (lv_at hl 2 rfl) ?_
    refine lv_aload_n hC.1 hC.2.1 dX8_tries_11 rfl (lv_at hl 0 rfl) ?_
    refine g_m_fewest hC fi_X8_tries_X8 hK hX (wd9 hC 1 rfl) dX8_tries_12 ?_
    refine lv_iload_n hC.1 hC.2.1 dX8_tries_15 rfl (lv_at hl 1 rfl) ?_
    refine l_m_fewest hC hK hX (i := i0) (by omega) dX8_tries_16 (v := (m_fewest S) i0) rfl ?_
    refine n_icmp_ne hC (a := k0 / 128) (b := (m_fewest S) i0) (tgt := 44) dX8_tries_17 (by decide) (by omega) hf0 (fun c17 => ?_) (fun c17 => ?_)
    · skip
      refine r_return hC hr hlk hX dX8_tries_44 ?_
      first | exact ⟨_, _, rfl, try_no (f := m_fewest S) (g := m_begin S) hk0 hko (by omega) (Or.inl (by omega)), fun j hj => ⟨rfl, rfl⟩⟩ | exact ⟨_, _, rfl, try_no (f := m_fewest S) (g := m_begin S) hk0 hko (by omega) (Or.inr c27), fun j hj => ⟨rfl, rfl⟩⟩
    · skip
      refine lv_iload_n hC.1 hC.2.1 dX8_tries_20 rfl (lv_at hl 3 rfl) ?_
      refine lv_aload_n hC.1 hC.2.1 dX8_tries_21 rfl (lv_at hl 0 rfl) ?_
      refine g_m_begin hC fi_X8_tries_X8 hK hX (wd9 hC 2 rfl) dX8_tries_22 ?_
      refine lv_iload_n hC.1 hC.2.1 dX8_tries_25 rfl (lv_at hl 1 rfl) ?_
      refine l_m_begin hC hK hX (i := i0) (by omega) dX8_tries_26 (v := (m_begin S) i0) rfl ?_
      refine lv_icmp_le hC.1 hC.2.1 (x := nI (127 - k0 % 128)) (y := (m_begin S) i0) (tgt := 44) dX8_tries_27 (by decide) (fun c27 => ?_) (fun c27 => ?_)
      · skip
        refine r_return hC hr hlk hX dX8_tries_44 ?_
        first | exact ⟨_, _, rfl, try_no (f := m_fewest S) (g := m_begin S) hk0 hko (by omega) (Or.inl (by omega)), fun j hj => ⟨rfl, rfl⟩⟩ | exact ⟨_, _, rfl, try_no (f := m_fewest S) (g := m_begin S) hk0 hko (by omega) (Or.inr c27), fun j hj => ⟨rfl, rfl⟩⟩
      · skip
        refine lv_aload_n hC.1 hC.2.1 dX8_tries_30 rfl (lv_at hl 0 rfl) ?_
        refine g_m_fewest hC fi_X8_tries_X8 hK hX (wd9 hC 1 rfl) dX8_tries_31 ?_
        refine lv_iload_n hC.1 hC.2.1 dX8_tries_34 rfl (lv_at hl 1 rfl) ?_
        refine lv_iload_n hC.1 hC.2.1 dX8_tries_35 rfl (lv_at hl 2 rfl) ?_
        refine s_m_fewest hC hK hX (i := i0) (v := k0 / 128) (by omega) dX8_tries_36 (fun H locs hX => ?_)
        replace hX : HH G A s.heap (wM G am (w_fewest (S) (va_up (m_fewest S) (i0) (k0 / 128)))) H locs := hX
        refine lv_aload_n hC.1 hC.2.1 dX8_tries_37 rfl (lv_at hl 0 rfl) ?_
        refine g_m_begin hC fi_X8_tries_X8 hK hX (wd9 hC 2 rfl) dX8_tries_38 ?_
        refine lv_iload_n hC.1 hC.2.1 dX8_tries_41 rfl (lv_at hl 1 rfl) ?_
        refine lv_iload_n hC.1 hC.2.1 dX8_tries_42 rfl (lv_at hl 3 rfl) ?_
        refine s_m_begin hC hK hX (i := i0) (v := nI (127 - k0 % 128)) (by omega) dX8_tries_43 (fun H locs hX => ?_)
        replace hX : HH G A s.heap (wM G am (w_begin (w_fewest (S) (va_up (m_fewest S) (i0) (k0 / 128))) (upd (m_begin S) (i0) (nI (127 - k0 % 128))))) H locs := hX
        refine r_return hC hr hlk hX dX8_tries_44 ?_
        first | exact ⟨_, _, rfl, try_st hko (Or.inl c7), fun j hj => ⟨va_up_ne _ _ hj, pk_un hj⟩⟩ | exact ⟨_, _, rfl, try_st hko (Or.inr ⟨c17, c27⟩), fun j hj => ⟨va_up_ne _ _ hj, pk_un hj⟩⟩
theorem fi_X8_isHere_X8 : ∀ w ∈ wsX80, w ∈ wsX8_isHere := by decide +kernel
theorem hd_X8_in_s : yX8_in.cls ≠ "java/lang/invoke/MethodHandle" ∧ yX8_in.cls ≠ "java/lang/invoke/VarHandle" ∧ (parseMethodDescriptor yX8_in.desc).map (fun d => d.parameters.length) = some 3 := by decide +kernel
set_option maxHeartbeats 4000000 in
set_option maxRecDepth 100000 in
theorem c_X8_isHere (l : Launch) (G : GX) (am : Nat → Nat) (S : MS) (a0 b0 : Nat) (ha0 : a0 < 2 ^ 31) (hb0 : b0 < 2 ^ 31) (hs0 : m_spot S ≤ m_padLong S) (hl0 : m_padLong S ≤ 60) (hp0 : ∀ i, m_pad S i < 65536) : CtI l yX8_isHere wsX8_isHere { frames := 1, cells := 0, slots := 0, locals := 25 } G (wM G am) (S) [.ref (am 0), .int (nI (a0)), .int (nI (b0))] (fun r S' => r = bI (decide (m_spot S < m_padLong S ∧ a0 ≤ m_pad S (m_spot S) ∧ m_pad S (m_spot S) ≤ b0)) ∧ S' = S) 0 0 := by
  refine CtI.of (cc := cX8_isHere) (maxL := 3) (ret := some .boolean) (by decide +kernel) rfl (Nat.le_of_ble_eq_true rfl) ?_
  intro p e s m args below meth c ls A hC hr hlk hin hK hA hX hl
  have hl : lv_has ls 3 [(0, .ref (am 0)), (1, .int (nI (a0))), (2, .int (nI (b0)))] := hl
  refine lv_aload_n hC.1 hC.2.1 dX8_isHere_0 rfl (lv_at hl 0 rfl) ?_
  refine g_m_spot hC fi_X8_isHere_X8 hK hX (wd9 hC 1 rfl) dX8_isHere_1 (v := m_spot S) rfl ?_
  refine lv_aload_n hC.1 hC.2.1 dX8_isHere_4 rfl (lv_at hl 0 rfl) ?_
  refine g_m_padLong hC fi_X8_isHere_X8 hK hX (wd9 hC 2 rfl) dX8_isHere_5 (v := m_padLong S) rfl ?_
  refine n_icmp_ge hC (a := m_spot S) (b := m_padLong S) (tgt := 35) dX8_isHere_8 (by decide) (by omega) (by omega) (fun c8 => ?_) (fun c8 => ?_)
  · skip
    refine lv_iconst (v := nI (0)) hC.1 hC.2.1 dX8_isHere_35 rfl ?_
    refine r_zreturn hC hr hlk hX dX8_isHere_36 rfl ?_
    first | exact ⟨bI_t (by have h9 := c28; rw [decide_eq_true_eq] at h9; exact ⟨by omega, h9.1, h9.2⟩), rfl⟩ | exact ⟨bI_f (fun z => by have h9 := c28; rw [decide_eq_false_iff_not] at h9; exact h9 z.2), rfl⟩ | exact ⟨bI_f (fun z => by omega), rfl⟩
  · skip
    refine lv_aload_n hC.1 hC.2.1 dX8_isHere_11 rfl (lv_at hl 0 rfl) ?_
    refine g_m_pad hC fi_X8_isHere_X8 hK hX (wd9 hC 3 rfl) dX8_isHere_12 ?_
    have hpd := hp0 (m_spot S)
    refine lv_aload_n hC.1 hC.2.1 dX8_isHere_15 rfl (lv_at hl 0 rfl) ?_
    refine g_m_spot hC fi_X8_isHere_X8 hK hX (wd9 hC 1 rfl) dX8_isHere_16 (v := m_spot S) rfl ?_
    refine l_m_pad hC hK hX (i := m_spot S) (by omega) dX8_isHere_19 (v := (m_pad S) (m_spot S)) rfl ?_
    refine lv_i2l (v := lN ((m_pad S) (m_spot S))) hC.1 hC.2.1 dX8_isHere_20 (nI_l (by omega)) ?_
    refine lv_iload_n hC.1 hC.2.1 dX8_isHere_21 rfl (lv_at hl 1 rfl) ?_
    refine lv_i2l (v := lN (a0)) hC.1 hC.2.1 dX8_isHere_22 (nI_l (by omega)) ?_
    refine lv_iload_n hC.1 hC.2.1 dX8_isHere_23 rfl (lv_at hl 2 rfl) ?_
    refine lv_i2l (v := lN (b0)) hC.1 hC.2.1 dX8_isHere_24 (nI_l (by omega)) ?_
    refine ps_I (As := [.long (lN ((m_pad S) (m_spot S))), .long (lN (a0)), .long (lN (b0))]) (rest := []) hC hK hA hX (c_X8_in l G (lN ((m_pad S) (m_spot S))) (lN (a0)) (lN (b0))) (va_cwS 3 hC.2.2.2.2 gX8_isHere_X8_in rfl rfl rfl hd_X8_in_s ⟨Nat.le_of_ble_eq_true rfl, Nat.le_of_ble_eq_true rfl⟩) dX8_isHere_25 rfl hl.1 rfl (Nat.le_of_ble_eq_true rfl) ⟨(Nat.zero_le _), (Nat.zero_le _)⟩ (fun r9 S9 H locs hp9 hX => ?_)
    obtain rfl : r9 = bI (decide (a0 ≤ m_pad S (m_spot S) ∧ m_pad S (m_spot S) ≤ b0)) := by rw [hp9, inL_n (by omega) ha0 hb0]
    replace hX : HH G A s.heap (wM G am (S)) H locs := hX
    refine b_if_eq hC (b := decide (a0 ≤ m_pad S (m_spot S) ∧ m_pad S (m_spot S) ≤ b0)) (tgt := 35) dX8_isHere_28 (by decide) (fun c28 => ?_) (fun c28 => ?_)
    · skip
      refine lv_iconst (v := nI (0)) hC.1 hC.2.1 dX8_isHere_35 rfl ?_
      refine r_zreturn hC hr hlk hX dX8_isHere_36 rfl ?_
      first | exact ⟨bI_t (by have h9 := c28; rw [decide_eq_true_eq] at h9; exact ⟨by omega, h9.1, h9.2⟩), rfl⟩ | exact ⟨bI_f (fun z => by have h9 := c28; rw [decide_eq_false_iff_not] at h9; exact h9 z.2), rfl⟩ | exact ⟨bI_f (fun z => by omega), rfl⟩
    · skip
      refine lv_iconst (v := nI (1)) hC.1 hC.2.1 dX8_isHere_31 rfl ?_
      refine lv_goto (tgt := 36) hC.1 hC.2.1 dX8_isHere_32 (by decide) ?_
      refine r_zreturn hC hr hlk hX dX8_isHere_36 rfl ?_
      first | exact ⟨bI_t (by have h9 := c28; rw [decide_eq_true_eq] at h9; exact ⟨by omega, h9.1, h9.2⟩), rfl⟩ | exact ⟨bI_f (fun z => by have h9 := c28; rw [decide_eq_false_iff_not] at h9; exact h9 z.2), rfl⟩ | exact ⟨bI_f (fun z => by omega), rfl⟩
theorem fi_X8_writes_X8 : ∀ w ∈ wsX80, w ∈ wsX8_writes := by decide +kernel
set_option maxHeartbeats 4000000 in
set_option maxRecDepth 100000 in
theorem c_X8_writes (l : Launch) (G : GX) (am : Nat → Nat) (S : MS) (c0 : Nat) (hl0 : aLen (m_all S) < 120) : CtV l yX8_writes wsX8_writes { frames := 0, cells := 0, slots := 0, locals := 0 } G (wM G am) (S) [.ref (am 0), .int (nI (c0))] (fun S' => S' = w_all S (va_up (va_up (m_all S) (3 + aLen (m_all S)) c0) 0 (aLen (m_all S) + 1))) 0 0 := by
  refine CtV.of (cc := cX8_writes) (maxL := 2) (ret := none) (by decide +kernel) rfl (Nat.le_of_ble_eq_true rfl) ?_
  intro p e s m args below meth c ls A hC hr hlk hin hK hA hX hl
  have hl : lv_has ls 2 [(0, .ref (am 0)), (1, .int (nI (c0)))] := hl
  refine lv_aload_n hC.1 hC.2.1 dX8_writes_0 rfl (lv_at hl 0 rfl) ?_
  refine g_m_all hC fi_X8_writes_X8 hK hX (wd9 hC 1 rfl) dX8_writes_1 ?_
  refine lv_iconst (v := nI (3)) hC.1 hC.2.1 dX8_writes_4 rfl ?_
  refine lv_aload_n hC.1 hC.2.1 dX8_writes_5 rfl (lv_at hl 0 rfl) ?_
  refine g_m_all hC fi_X8_writes_X8 hK hX (wd9 hC 1 rfl) dX8_writes_6 ?_
  refine lv_iconst (v := nI (0)) hC.1 hC.2.1 dX8_writes_9 rfl ?_
  refine l_m_all hC hK hX (i := 0) (by decide) dX8_writes_10 (v := aLen (m_all S)) rfl ?_
  refine n_add hC (a := 3) (b := aLen (m_all S)) dX8_writes_11 ?_
  refine lv_iload_n hC.1 hC.2.1 dX8_writes_12 rfl (lv_at hl 1 rfl) ?_
  refine s_m_all hC hK hX (i := (3) + (aLen (m_all S))) (v := c0) (by omega) dX8_writes_13 (fun H locs hX => ?_)
  replace hX : HH G A s.heap (wM G am (w_all (S) (va_up (m_all S) ((3) + (aLen (m_all S))) (c0)))) H locs := hX
  refine lv_aload_n hC.1 hC.2.1 dX8_writes_14 rfl (lv_at hl 0 rfl) ?_
  refine g_m_all hC fi_X8_writes_X8 hK hX (wd9 hC 1 rfl) dX8_writes_15 ?_
  refine lv_iconst (v := nI (0)) hC.1 hC.2.1 dX8_writes_18 rfl ?_
  refine lv_dup2_11 hC.1 hC.2.1 dX8_writes_19 rfl rfl ?_
  refine l_m_all hC hK hX (i := 0) (by decide) dX8_writes_20 (v := aLen (m_all S)) (va_up_ne _ _ (by omega)) ?_
  refine lv_iconst (v := nI (1)) hC.1 hC.2.1 dX8_writes_21 rfl ?_
  refine n_add hC (a := aLen (m_all S)) (b := 1) dX8_writes_22 ?_
  refine s_m_all hC hK hX (i := 0) (v := (aLen (m_all S)) + (1)) (by decide) dX8_writes_23 (fun H locs hX => ?_)
  replace hX : HH G A s.heap (wM G am (w_all (S) (va_up (va_up (m_all S) ((3) + (aLen (m_all S))) (c0)) (0) ((aLen (m_all S)) + (1))))) H locs := hX
  refine r_return hC hr hlk hX dX8_writes_24 ?_
  exact rfl
theorem fi_X8_reads_X8 : ∀ w ∈ wsX80, w ∈ wsX8_reads := by decide +kernel
set_option maxHeartbeats 4000000 in
set_option maxRecDepth 100000 in
theorem c_X8_reads (l : Launch) (G : GX) (am : Nat → Nat) (S : MS) (v0 : Nat) (hr0 : m_readPlaces S < 60) : CtV l yX8_reads wsX8_reads { frames := 0, cells := 0, slots := 0, locals := 0 } G (wM G am) (S) [.ref (am 0), .int (nI (v0))] (fun S' => S' = w_readPlaces (w_readTakes S (va_up (m_readTakes S) (m_readPlaces S) v0)) (m_readPlaces S + 1)) 0 0 := by
  refine CtV.of (cc := cX8_reads) (maxL := 2) (ret := none) (by decide +kernel) rfl (Nat.le_of_ble_eq_true rfl) ?_
  intro p e s m args below meth c ls A hC hr hlk hin hK hA hX hl
  have hl : lv_has ls 2 [(0, .ref (am 0)), (1, .int (nI (v0)))] := hl
  refine lv_aload_n hC.1 hC.2.1 dX8_reads_0 rfl (lv_at hl 0 rfl) ?_
  refine g_m_readTakes hC fi_X8_reads_X8 hK hX (wd9 hC 1 rfl) dX8_reads_1 ?_
  refine lv_aload_n hC.1 hC.2.1 dX8_reads_4 rfl (lv_at hl 0 rfl) ?_
  refine g_m_readPlaces hC fi_X8_reads_X8 hK hX (wd9 hC 2 rfl) dX8_reads_5 (v := m_readPlaces S) rfl ?_
  refine lv_iload_n hC.1 hC.2.1 dX8_reads_8 rfl (lv_at hl 1 rfl) ?_
  refine s_m_readTakes hC hK hX (i := m_readPlaces S) (v := v0) (by omega) dX8_reads_9 (fun H locs hX => ?_)
  replace hX : HH G A s.heap (wM G am (w_readTakes (S) (va_up (m_readTakes S) (m_readPlaces S) (v0)))) H locs := hX
  refine lv_aload_n hC.1 hC.2.1 dX8_reads_10 rfl (lv_at hl 0 rfl) ?_
  refine lv_dup hC.1 hC.2.1 dX8_reads_11 rfl ?_
  refine g_m_readPlaces hC fi_X8_reads_X8 hK hX (wd9 hC 2 rfl) dX8_reads_12 (v := m_readPlaces S) rfl ?_
  refine lv_iconst (v := nI (1)) hC.1 hC.2.1 dX8_reads_15 rfl ?_
  refine n_add hC (a := m_readPlaces S) (b := 1) dX8_reads_16 ?_
  refine p_m_readPlaces hC fi_X8_reads_X8 hK hX (v := (m_readPlaces S) + (1)) (wd9 hC 2 rfl) dX8_reads_17 (fun H locs hX => ?_)
  replace hX : HH G A s.heap (wM G am (w_readTakes (w_readPlaces (S) ((m_readPlaces S) + (1))) (va_up (m_readTakes S) (m_readPlaces S) (v0)))) H locs := hX
  refine r_return hC hr hlk hX dX8_reads_20 ?_
  exact rfl
