theorem fi_X0_dropOldest_X0 : ∀ w ∈ wsX00, w ∈ wsX0_dropOldest := by decide +kernel
set_option maxHeartbeats 4000000 in
set_option maxRecDepth 100000 in
theorem c_X0_dropOldest (l : Launch) (G : GX) (ad : Nat → Nat) (S : XS) (hp4 : ∀ i, i < 4 → x_perm S i < 4) : CtV l yX0_dropOldest wsX0_dropOldest { frames := 0, cells := 0, slots := 0, locals := 0 } G (wX G ad) (S) [.ref (ad 18)] (fun S' => S' = u_hcnt (u_perm S (rotP (x_perm S))) 3) 0 0 := by
  refine CtV.of (cc := cX0_dropOldest) (maxL := 3) (ret := none) (by decide +kernel) rfl (Nat.le_of_ble_eq_true rfl) ?_
  intro p e s m args below meth c ls A hC hr hlk hin hK hA hX hl
  have hl : lv_has ls 3 [(0, .ref (ad 18))] := hl
  refine lv_aload_n hC.1 hC.2.1 dX0_dropOldest_0 rfl (lv_at hl 0 rfl) ?_
  refine g_hist_states hC fi_X0_dropOldest_X0 hK hX (wd9 hC 1 rfl) dX0_dropOldest_1 ?_
  refine lv_iconst (v := nI (0)) hC.1 hC.2.1 dX0_dropOldest_4 rfl ?_
  refine l_states hC hK hX (i := 0) (by decide) dX0_dropOldest_5 (v := x_perm S 0) rfl ?_
  refine lv_astore_n (lv' := [(1, .ref (ad (3 * (x_perm S 0 + 2)))), (0, .ref (ad 18))]) hC.1 hC.2.1 dX0_dropOldest_6 rfl hl (by decide) rfl (fun ls hl => ?_)
  refine lv_iconst (v := nI (0)) hC.1 hC.2.1 dX0_dropOldest_7 rfl ?_
  refine lv_istore_n (lv' := [(2, .int (nI (0))), (1, .ref (ad (3 * (x_perm S 0 + 2)))), (0, .ref (ad 18))]) hC.1 hC.2.1 dX0_dropOldest_8 rfl hl (by decide) rfl (fun ls hl => ?_)
  refine lv_iload_n hC.1 hC.2.1 dX0_dropOldest_9 rfl (lv_at hl 0 rfl) ?_
  refine lv_iconst (v := nI (1)) hC.1 hC.2.1 dX0_dropOldest_10 rfl ?_
  refine n_add hC (a := 0) (b := 1) dX0_dropOldest_11 ?_
  refine lv_iconst (v := nI (4)) hC.1 hC.2.1 dX0_dropOldest_12 rfl ?_
  refine n_icmp_ge hC (a := 1) (b := 4) (tgt := 36) dX0_dropOldest_13 (by decide) (by decide) (by decide) (fun c13 => absurd c13 (by decide)) (fun c13 => ?_)
  refine lv_aload_n hC.1 hC.2.1 dX0_dropOldest_16 rfl (lv_at hl 2 rfl) ?_
  refine g_hist_states hC fi_X0_dropOldest_X0 hK hX (wd9 hC 1 rfl) dX0_dropOldest_17 ?_
  refine lv_iload_n hC.1 hC.2.1 dX0_dropOldest_20 rfl (lv_at hl 0 rfl) ?_
  refine lv_aload_n hC.1 hC.2.1 dX0_dropOldest_21 rfl (lv_at hl 2 rfl) ?_
  refine g_hist_states hC fi_X0_dropOldest_X0 hK hX (wd9 hC 1 rfl) dX0_dropOldest_22 ?_
  refine lv_iload_n hC.1 hC.2.1 dX0_dropOldest_25 rfl (lv_at hl 0 rfl) ?_
  refine lv_iconst (v := nI (1)) hC.1 hC.2.1 dX0_dropOldest_26 rfl ?_
  refine n_add hC (a := 0) (b := 1) dX0_dropOldest_27 ?_
  refine l_states hC hK hX (i := 1) (by decide) dX0_dropOldest_28 (v := x_perm S 1) rfl ?_
  refine s_states hC hK hX (i := 0) (j := x_perm S 1) (by decide) (hp4 _ (by decide)) dX0_dropOldest_29 (fun H locs hX => ?_)
  replace hX : HH G A s.heap (wX G ad (u_perm (S) (va_up (x_perm S) (0) (x_perm S 1)))) H locs := hX
  refine lv_iinc (v := nI (1)) (lv' := [(2, .int (nI (1))), (1, .ref (ad (3 * (x_perm S 0 + 2)))), (0, .ref (ad 18))]) hC.1 hC.2.1 dX0_dropOldest_30 hl (k := 0) rfl (n_inc1 _) (by decide) rfl (fun ls hl => ?_)
  refine lv_goto (tgt := 9) hC.1 hC.2.1 dX0_dropOldest_33 (by decide) ?_
  refine lv_iload_n hC.1 hC.2.1 dX0_dropOldest_9 rfl (lv_at hl 0 rfl) ?_
  refine lv_iconst (v := nI (1)) hC.1 hC.2.1 dX0_dropOldest_10 rfl ?_
  refine n_add hC (a := 1) (b := 1) dX0_dropOldest_11 ?_
  refine lv_iconst (v := nI (4)) hC.1 hC.2.1 dX0_dropOldest_12 rfl ?_
  refine n_icmp_ge hC (a := 2) (b := 4) (tgt := 36) dX0_dropOldest_13 (by decide) (by decide) (by decide) (fun c13 => absurd c13 (by decide)) (fun c13 => ?_)
  refine lv_aload_n hC.1 hC.2.1 dX0_dropOldest_16 rfl (lv_at hl 2 rfl) ?_
  refine g_hist_states hC fi_X0_dropOldest_X0 hK hX (wd9 hC 1 rfl) dX0_dropOldest_17 ?_
  refine lv_iload_n hC.1 hC.2.1 dX0_dropOldest_20 rfl (lv_at hl 0 rfl) ?_
  refine lv_aload_n hC.1 hC.2.1 dX0_dropOldest_21 rfl (lv_at hl 2 rfl) ?_
  refine g_hist_states hC fi_X0_dropOldest_X0 hK hX (wd9 hC 1 rfl) dX0_dropOldest_22 ?_
  refine lv_iload_n hC.1 hC.2.1 dX0_dropOldest_25 rfl (lv_at hl 0 rfl) ?_
  refine lv_iconst (v := nI (1)) hC.1 hC.2.1 dX0_dropOldest_26 rfl ?_
  refine n_add hC (a := 1) (b := 1) dX0_dropOldest_27 ?_
  refine l_states hC hK hX (i := 2) (by decide) dX0_dropOldest_28 (v := x_perm S 2) rfl ?_
  refine s_states hC hK hX (i := 1) (j := x_perm S 2) (by decide) (hp4 _ (by decide)) dX0_dropOldest_29 (fun H locs hX => ?_)
  replace hX : HH G A s.heap (wX G ad (u_perm (S) (va_up (va_up (x_perm S) (0) (x_perm S 1)) (1) (x_perm S 2)))) H locs := hX
  refine lv_iinc (v := nI (2)) (lv' := [(2, .int (nI (2))), (1, .ref (ad (3 * (x_perm S 0 + 2)))), (0, .ref (ad 18))]) hC.1 hC.2.1 dX0_dropOldest_30 hl (k := 0) rfl (n_inc1 _) (by decide) rfl (fun ls hl => ?_)
  refine lv_goto (tgt := 9) hC.1 hC.2.1 dX0_dropOldest_33 (by decide) ?_
  refine lv_iload_n hC.1 hC.2.1 dX0_dropOldest_9 rfl (lv_at hl 0 rfl) ?_
  refine lv_iconst (v := nI (1)) hC.1 hC.2.1 dX0_dropOldest_10 rfl ?_
  refine n_add hC (a := 2) (b := 1) dX0_dropOldest_11 ?_
  refine lv_iconst (v := nI (4)) hC.1 hC.2.1 dX0_dropOldest_12 rfl ?_
  refine n_icmp_ge hC (a := 3) (b := 4) (tgt := 36) dX0_dropOldest_13 (by decide) (by decide) (by decide) (fun c13 => absurd c13 (by decide)) (fun c13 => ?_)
  refine lv_aload_n hC.1 hC.2.1 dX0_dropOldest_16 rfl (lv_at hl 2 rfl) ?_
  refine g_hist_states hC fi_X0_dropOldest_X0 hK hX (wd9 hC 1 rfl) dX0_dropOldest_17 ?_
  refine lv_iload_n hC.1 hC.2.1 dX0_dropOldest_20 rfl (lv_at hl 0 rfl) ?_
  refine lv_aload_n hC.1 hC.2.1 dX0_dropOldest_21 rfl (lv_at hl 2 rfl) ?_
  refine g_hist_states hC fi_X0_dropOldest_X0 hK hX (wd9 hC 1 rfl) dX0_dropOldest_22 ?_
  refine lv_iload_n hC.1 hC.2.1 dX0_dropOldest_25 rfl (lv_at hl 0 rfl) ?_
  refine lv_iconst (v := nI (1)) hC.1 hC.2.1 dX0_dropOldest_26 rfl ?_
  refine n_add hC (a := 2) (b := 1) dX0_dropOldest_27 ?_
  refine l_states hC hK hX (i := 3) (by decide) dX0_dropOldest_28 (v := x_perm S 3) rfl ?_
  refine s_states hC hK hX (i := 2) (j := x_perm S 3) (by decide) (hp4 _ (by decide)) dX0_dropOldest_29 (fun H locs hX => ?_)
  replace hX : HH G A s.heap (wX G ad (u_perm (S) (va_up (va_up (va_up (x_perm S) (0) (x_perm S 1)) (1) (x_perm S 2)) (2) (x_perm S 3)))) H locs := hX
  refine lv_iinc (v := nI (3)) (lv' := [(2, .int (nI (3))), (1, .ref (ad (3 * (x_perm S 0 + 2)))), (0, .ref (ad 18))]) hC.1 hC.2.1 dX0_dropOldest_30 hl (k := 0) rfl (n_inc1 _) (by decide) rfl (fun ls hl => ?_)
  refine lv_goto (tgt := 9) hC.1 hC.2.1 dX0_dropOldest_33 (by decide) ?_
  refine lv_iload_n hC.1 hC.2.1 dX0_dropOldest_9 rfl (lv_at hl 0 rfl) ?_
  refine lv_iconst (v := nI (1)) hC.1 hC.2.1 dX0_dropOldest_10 rfl ?_
  refine n_add hC (a := 3) (b := 1) dX0_dropOldest_11 ?_
  refine lv_iconst (v := nI (4)) hC.1 hC.2.1 dX0_dropOldest_12 rfl ?_
  refine n_icmp_ge hC (a := 4) (b := 4) (tgt := 36) dX0_dropOldest_13 (by decide) (by decide) (by decide) (fun c13 => ?_) (fun c13 => absurd c13 (by decide))
  refine lv_aload_n hC.1 hC.2.1 dX0_dropOldest_36 rfl (lv_at hl 2 rfl) ?_
  refine g_hist_states hC fi_X0_dropOldest_X0 hK hX (wd9 hC 1 rfl) dX0_dropOldest_37 ?_
  refine lv_iconst (v := nI (3)) hC.1 hC.2.1 dX0_dropOldest_40 rfl ?_
  refine lv_aload_n hC.1 hC.2.1 dX0_dropOldest_41 rfl (lv_at hl 1 rfl) ?_
  refine s_states hC hK hX (i := 3) (j := x_perm S 0) (by decide) (hp4 _ (by decide)) dX0_dropOldest_42 (fun H locs hX => ?_)
  replace hX : HH G A s.heap (wX G ad (u_perm (S) (va_up (va_up (va_up (va_up (x_perm S) (0) (x_perm S 1)) (1) (x_perm S 2)) (2) (x_perm S 3)) (3) (x_perm S 0)))) H locs := hX
  refine lv_aload_n hC.1 hC.2.1 dX0_dropOldest_43 rfl (lv_at hl 2 rfl) ?_
  refine lv_iconst (v := nI (3)) hC.1 hC.2.1 dX0_dropOldest_44 rfl ?_
  refine p_hist_count hC fi_X0_dropOldest_X0 hK hX (v := 3) (wd9 hC 2 rfl) dX0_dropOldest_45 (fun H locs hX => ?_)
  replace hX : HH G A s.heap (wX G ad (u_hcnt (u_perm (S) (va_up (va_up (va_up (va_up (x_perm S) (0) (x_perm S 1)) (1) (x_perm S 2)) (2) (x_perm S 3)) (3) (x_perm S 0))) (3))) H locs := hX
  refine r_return hC hr hlk hX dX0_dropOldest_48 ?_
  exact rfl
theorem fi_X0_stateOrNull_X0 : ∀ w ∈ wsX00, w ∈ wsX0_stateOrNull := by decide +kernel
set_option maxHeartbeats 4000000 in
set_option maxRecDepth 100000 in
theorem c_X0_stateOrNull (l : Launch) (G : GX) (ad : Nat → Nat) (S : XS) (k0 : Nat) (hk0 : k0 < 4) : CtQ l yX0_stateOrNull wsX0_stateOrNull { frames := 0, cells := 0, slots := 0, locals := 0 } G (wX G ad) (S) [.ref (ad 18), .int (nI (k0))] (fun r S' => r = some (ad (3 * (x_perm S k0 + 2))) ∧ S' = S) 0 0 := by
  refine CtQ.of (cc := cX0_stateOrNull) (maxL := 2) (ret := some (.object "SlipSearch$State")) (by decide +kernel) rfl (Nat.le_of_ble_eq_true rfl) ?_
  intro p e s m args below meth c ls A hC hr hlk hin hK hA hX hl
  have hl : lv_has ls 2 [(0, .ref (ad 18)), (1, .int (nI (k0)))] := hl
  refine lv_iload_n hC.1 hC.2.1 dX0_stateOrNull_0 rfl (lv_at hl 1 rfl) ?_
  refine n_if_lt hC (a := k0) (tgt := 18) dX0_stateOrNull_1 (by decide) (by omega) ?_
  refine lv_iload_n hC.1 hC.2.1 dX0_stateOrNull_4 rfl (lv_at hl 1 rfl) ?_
  refine lv_iconst (v := nI (4)) hC.1 hC.2.1 dX0_stateOrNull_5 rfl ?_
  refine n_icmp_ge hC (a := k0) (b := 4) (tgt := 18) dX0_stateOrNull_6 (by decide) (by omega) (by decide) (fun c6 => ?_) (fun c6 => ?_)
  · exfalso; omega
  · skip
    refine lv_aload_n hC.1 hC.2.1 dX0_stateOrNull_9 rfl (lv_at hl 0 rfl) ?_
    refine g_hist_states hC fi_X0_stateOrNull_X0 hK hX (wd9 hC 1 rfl) dX0_stateOrNull_10 ?_
    refine lv_iload_n hC.1 hC.2.1 dX0_stateOrNull_13 rfl (lv_at hl 1 rfl) ?_
    refine l_states hC hK hX (i := k0) (by omega) dX0_stateOrNull_14 (v := (x_perm S) (k0)) rfl ?_
    refine lv_goto (tgt := 19) hC.1 hC.2.1 dX0_stateOrNull_15 (by decide) ?_
    refine W.eq (g2 := F0 m 19 ls [va_rf (some (ad (3 * ((x_perm S) (k0) + 2))))]) rfl ?_
    refine r_areturn hC hr hlk hX dX0_stateOrNull_19 ?_
    exact ⟨rfl, rfl⟩
theorem fi_X0_record_X0 : ∀ w ∈ wsX00, w ∈ wsX0_record := by decide +kernel
theorem hd_X0_stateOrNull : yX0_stateOrNull.cls = RX0 ∧ yX0_stateOrNull.cls ≠ "java/lang/invoke/MethodHandle" ∧ yX0_stateOrNull.cls ≠ "java/lang/invoke/VarHandle" ∧ (parseMethodDescriptor yX0_stateOrNull.desc).map (fun d => d.parameters.length) = some 1 := by decide +kernel
theorem hd_X5_copyFrom : yX5_copyFrom.cls = RX5 ∧ yX5_copyFrom.cls ≠ "java/lang/invoke/MethodHandle" ∧ yX5_copyFrom.cls ≠ "java/lang/invoke/VarHandle" ∧ (parseMethodDescriptor yX5_copyFrom.desc).map (fun d => d.parameters.length) = some 1 := by decide +kernel
theorem hd_X0_dropOldest : yX0_dropOldest.cls = RX0 ∧ yX0_dropOldest.cls ≠ "java/lang/invoke/MethodHandle" ∧ yX0_dropOldest.cls ≠ "java/lang/invoke/VarHandle" ∧ (parseMethodDescriptor yX0_dropOldest.desc).map (fun d => d.parameters.length) = some 0 := by decide +kernel
set_option maxHeartbeats 4000000 in
set_option maxRecDepth 100000 in
theorem c_X0_record (l : Launch) (G : GX) (ad : Nat → Nat) (S : XS) (hp4 : ∀ i, i < 4 → x_perm S i < 4) (hT1 : ∀ i, st_text (x_now S) i < 65536) (hQ0 : inPool S (st_pats (x_now S))) (hh0 : x_hcnt S ≤ 4) : CtV l yX0_record wsX0_record { frames := 2, cells := 0, slots := 0, locals := 54 } G (wX G ad) (S) [.ref (ad 18), .ref (ad 0)] (fun S' => ∃ pm h, S' = recS S pm h ∧ ((x_hcnt S < 4 ∧ h = x_hcnt S ∧ pm = x_perm S) ∨ (x_hcnt S = 4 ∧ h = 3 ∧ pm = rotP (x_perm S)))) 0 0 := by
  refine CtV.of (cc := cX0_record) (maxL := 3) (ret := none) (by decide +kernel) rfl (Nat.le_of_ble_eq_true rfl) ?_
  intro p e s m args below meth c ls A hC hr hlk hin hK hA hX hl
  have hl : lv_has ls 3 [(0, .ref (ad 18)), (1, .ref (ad 0))] := hl
  have hr4 := rotP_lt hp4
  have h04 : x_hcnt S < 4 → x_perm S (x_hcnt S) < 4 := fun h => hp4 _ h
  have h34 := hr4 3 (by decide)
  refine lv_aload_n hC.1 hC.2.1 dX0_record_0 rfl (lv_at hl 0 rfl) ?_
  refine g_hist_count hC fi_X0_record_X0 hK hX (wd9 hC 1 rfl) dX0_record_1 (v := x_hcnt S) rfl ?_
  refine lv_iconst (v := nI (4)) hC.1 hC.2.1 dX0_record_4 rfl ?_
  refine n_icmp_lt hC (a := x_hcnt S) (b := 4) (tgt := 12) dX0_record_5 (by decide) (by omega) (by decide) (fun c5 => ?_) (fun c5 => ?_)
  · skip
    refine lv_aload_n hC.1 hC.2.1 dX0_record_12 rfl (lv_at hl 0 rfl) ?_
    refine lv_aload_n hC.1 hC.2.1 dX0_record_13 rfl (lv_at hl 0 rfl) ?_
    refine g_hist_count hC fi_X0_record_X0 hK hX (wd9 hC 1 rfl) dX0_record_14 (v := x_hcnt S) rfl ?_
    refine cv_Q (As := [.int (nI (x_hcnt S))]) (rest := []) hC hK hA hX (c_X0_stateOrNull l G ad (S) (x_hcnt S) (by omega)) (cwV 1 hC.2.2.2.2 gX0_record_X0_stateOrNull rfl rfl rfl hd_X0_stateOrNull ⟨Nat.le_of_ble_eq_true rfl, Nat.le_of_ble_eq_true rfl⟩) (ci := 0) (q := (RX0, TX0, 2)) rfl (q0 := 18) rfl dX0_record_17 rfl hl.1 rfl (Nat.le_of_ble_eq_true rfl) ⟨(Nat.zero_le _), (Nat.zero_le _)⟩ (fun r9 S9 H locs hp9 hX => ?_)
    obtain ⟨hr9, hS9⟩ := hp9
    rw [hS9] at hX
    obtain rfl : r9 = some (ad (3 * ((x_perm S) (x_hcnt S) + 2))) := hr9
    replace hX : HH G A s.heap (wX G ad (S)) H locs := hX
    refine lv_astore_n (lv' := [(2, .ref (ad (3 * ((x_perm S) (x_hcnt S) + 2)))), (0, .ref (ad 18)), (1, .ref (ad 0))]) hC.1 hC.2.1 dX0_record_20 rfl hl (by decide) rfl (fun ls hl => ?_)
    refine lv_aload_n hC.1 hC.2.1 dX0_record_21 rfl (lv_at hl 0 rfl) ?_
    refine lv_ifnull hC.1 hC.2.1 dX0_record_22 ?_
    refine lv_aload_n hC.1 hC.2.1 dX0_record_25 rfl (lv_at hl 0 rfl) ?_
    refine lv_aload_n hC.1 hC.2.1 dX0_record_26 rfl (lv_at hl 2 rfl) ?_
    refine cv_V (As := [.ref (ad 0)]) (rest := []) hC hK hA hX (c_X5_copyFrom l G ad (S) ((x_perm S) (x_hcnt S) + 2) 0 (by have := h34; have := h04; omega) (by decide) (by omega) hT1 hQ0) (cwV 1 hC.2.2.2.2 gX0_record_X5_copyFrom rfl rfl rfl hd_X5_copyFrom ⟨Nat.le_of_ble_eq_true rfl, Nat.le_of_ble_eq_true rfl⟩) (ci := 5) (q := (RX5, TX5, 5)) rfl (wX_st (k := ((x_perm S) (x_hcnt S) + 2)) (by have := h34; have := h04; omega)) dX0_record_27 rfl hl.1 rfl (Nat.le_of_ble_eq_true rfl) ⟨(Nat.zero_le _), (Nat.zero_le _)⟩ (fun S9 H locs hp9 hX => ?_)
    rw [hp9] at hX
    replace hX : HH G A s.heap (wX G ad (u_hs (S) (va_up (x_hs S) ((x_perm S) (x_hcnt S)) (cpSt ((x_hs S) ((x_perm S) (x_hcnt S))) (x_now S))))) H locs := hX
    refine lv_aload_n hC.1 hC.2.1 dX0_record_30 rfl (lv_at hl 1 rfl) ?_
    refine lv_dup hC.1 hC.2.1 dX0_record_31 rfl ?_
    refine g_hist_count hC fi_X0_record_X0 hK hX (wd9 hC 1 rfl) dX0_record_32 (v := x_hcnt S) rfl ?_
    refine lv_iconst (v := nI (1)) hC.1 hC.2.1 dX0_record_35 rfl ?_
    refine n_add hC (a := x_hcnt S) (b := 1) dX0_record_36 ?_
    refine p_hist_count hC fi_X0_record_X0 hK hX (v := (x_hcnt S) + (1)) (wd9 hC 1 rfl) dX0_record_37 (fun H locs hX => ?_)
    replace hX : HH G A s.heap (wX G ad (u_hcnt (u_hs (S) (va_up (x_hs S) ((x_perm S) (x_hcnt S)) (cpSt ((x_hs S) ((x_perm S) (x_hcnt S))) (x_now S)))) ((x_hcnt S) + (1)))) H locs := hX
    refine r_return hC hr hlk hX dX0_record_40 ?_
    exact ⟨_, _, rfl, Or.inl ⟨by omega, rfl, rfl⟩⟩
  · skip
    refine lv_aload_n hC.1 hC.2.1 dX0_record_8 rfl (lv_at hl 0 rfl) ?_
    refine cv_V (As := []) (rest := []) hC hK hA hX (c_X0_dropOldest l G ad (S) hp4) (cwV 0 hC.2.2.2.2 gX0_record_X0_dropOldest rfl rfl rfl hd_X0_dropOldest ⟨Nat.le_of_ble_eq_true rfl, Nat.le_of_ble_eq_true rfl⟩) (ci := 0) (q := (RX0, TX0, 2)) rfl (q0 := 18) rfl dX0_record_9 rfl hl.1 rfl (Nat.le_of_ble_eq_true rfl) ⟨(Nat.zero_le _), (Nat.zero_le _)⟩ (fun S9 H locs hp9 hX => ?_)
    rw [hp9] at hX
    replace hX : HH G A s.heap (wX G ad (u_hcnt (u_perm (S) (rotP (x_perm S))) (3))) H locs := hX
    refine lv_aload_n hC.1 hC.2.1 dX0_record_12 rfl (lv_at hl 0 rfl) ?_
    refine lv_aload_n hC.1 hC.2.1 dX0_record_13 rfl (lv_at hl 0 rfl) ?_
    refine g_hist_count hC fi_X0_record_X0 hK hX (wd9 hC 1 rfl) dX0_record_14 (v := 3) rfl ?_
    refine cv_Q (As := [.int (nI (3))]) (rest := []) hC hK hA hX (c_X0_stateOrNull l G ad (u_hcnt (u_perm (S) (rotP (x_perm S))) (3)) (3) (by decide)) (cwV 1 hC.2.2.2.2 gX0_record_X0_stateOrNull rfl rfl rfl hd_X0_stateOrNull ⟨Nat.le_of_ble_eq_true rfl, Nat.le_of_ble_eq_true rfl⟩) (ci := 0) (q := (RX0, TX0, 2)) rfl (q0 := 18) rfl dX0_record_17 rfl hl.1 rfl (Nat.le_of_ble_eq_true rfl) ⟨(Nat.zero_le _), (Nat.zero_le _)⟩ (fun r9 S9 H locs hp9 hX => ?_)
    obtain ⟨hr9, hS9⟩ := hp9
    rw [hS9] at hX
    obtain rfl : r9 = some (ad (3 * ((rotP (x_perm S)) (3) + 2))) := hr9
    replace hX : HH G A s.heap (wX G ad (u_hcnt (u_perm (S) (rotP (x_perm S))) (3))) H locs := hX
    refine lv_astore_n (lv' := [(2, .ref (ad (3 * ((rotP (x_perm S)) (3) + 2)))), (0, .ref (ad 18)), (1, .ref (ad 0))]) hC.1 hC.2.1 dX0_record_20 rfl hl (by decide) rfl (fun ls hl => ?_)
    refine lv_aload_n hC.1 hC.2.1 dX0_record_21 rfl (lv_at hl 0 rfl) ?_
    refine lv_ifnull hC.1 hC.2.1 dX0_record_22 ?_
    refine lv_aload_n hC.1 hC.2.1 dX0_record_25 rfl (lv_at hl 0 rfl) ?_
    refine lv_aload_n hC.1 hC.2.1 dX0_record_26 rfl (lv_at hl 2 rfl) ?_
    refine cv_V (As := [.ref (ad 0)]) (rest := []) hC hK hA hX (c_X5_copyFrom l G ad (u_hcnt (u_perm (S) (rotP (x_perm S))) (3)) ((rotP (x_perm S)) (3) + 2) 0 (by have := h34; have := h04; omega) (by decide) (by omega) hT1 hQ0) (cwV 1 hC.2.2.2.2 gX0_record_X5_copyFrom rfl rfl rfl hd_X5_copyFrom ⟨Nat.le_of_ble_eq_true rfl, Nat.le_of_ble_eq_true rfl⟩) (ci := 5) (q := (RX5, TX5, 5)) rfl (wX_st (k := ((rotP (x_perm S)) (3) + 2)) (by have := h34; have := h04; omega)) dX0_record_27 rfl hl.1 rfl (Nat.le_of_ble_eq_true rfl) ⟨(Nat.zero_le _), (Nat.zero_le _)⟩ (fun S9 H locs hp9 hX => ?_)
    rw [hp9] at hX
    replace hX : HH G A s.heap (wX G ad (u_hcnt (u_perm (u_hs (S) (va_up (x_hs S) ((rotP (x_perm S)) (3)) (cpSt ((x_hs S) ((rotP (x_perm S)) (3))) (x_now S)))) (rotP (x_perm S))) (3))) H locs := hX
    refine lv_aload_n hC.1 hC.2.1 dX0_record_30 rfl (lv_at hl 1 rfl) ?_
    refine lv_dup hC.1 hC.2.1 dX0_record_31 rfl ?_
    refine g_hist_count hC fi_X0_record_X0 hK hX (wd9 hC 1 rfl) dX0_record_32 (v := 3) rfl ?_
    refine lv_iconst (v := nI (1)) hC.1 hC.2.1 dX0_record_35 rfl ?_
    refine n_add hC (a := 3) (b := 1) dX0_record_36 ?_
    refine p_hist_count hC fi_X0_record_X0 hK hX (v := 4) (wd9 hC 1 rfl) dX0_record_37 (fun H locs hX => ?_)
    replace hX : HH G A s.heap (wX G ad (u_hcnt (u_perm (u_hs (S) (va_up (x_hs S) ((rotP (x_perm S)) (3)) (cpSt ((x_hs S) ((rotP (x_perm S)) (3))) (x_now S)))) (rotP (x_perm S))) (4))) H locs := hX
    refine r_return hC hr hlk hX dX0_record_40 ?_
    exact ⟨_, 3, rfl, Or.inr ⟨by omega, rfl, rfl⟩⟩
theorem fi_X0_takeLatestInto_X0 : ∀ w ∈ wsX00, w ∈ wsX0_takeLatestInto := by decide +kernel
set_option maxHeartbeats 4000000 in
set_option maxRecDepth 100000 in
theorem c_X0_takeLatestInto (l : Launch) (G : GX) (ad : Nat → Nat) (S : XS) (hp4 : ∀ i, i < 4 → x_perm S i < 4) (hh0 : 1 ≤ x_hcnt S ∧ x_hcnt S ≤ 4) (hT1 : ∀ i, st_text (x_hs S (x_perm S (x_hcnt S - 1))) i < 65536) (hQ0 : inPool S (st_pats (x_hs S (x_perm S (x_hcnt S - 1))))) : CtV l yX0_takeLatestInto wsX0_takeLatestInto { frames := 2, cells := 0, slots := 0, locals := 54 } G (wX G ad) (S) [.ref (ad 18), .ref (ad 0)] (fun S' => S' = u_hcnt (u_now S (cpSt (x_now S) (x_hs S (x_perm S (x_hcnt S - 1))))) (x_hcnt S - 1)) 0 0 := by
  refine CtV.of (cc := cX0_takeLatestInto) (maxL := 3) (ret := none) (by decide +kernel) rfl (Nat.le_of_ble_eq_true rfl) ?_
  intro p e s m args below meth c ls A hC hr hlk hin hK hA hX hl
  have hl : lv_has ls 3 [(0, .ref (ad 18)), (1, .ref (ad 0))] := hl
  have h04 := hp4 (x_hcnt S - 1) (by omega)
  refine lv_aload_n hC.1 hC.2.1 dX0_takeLatestInto_0 rfl (lv_at hl 0 rfl) ?_
  refine lv_aload_n hC.1 hC.2.1 dX0_takeLatestInto_1 rfl (lv_at hl 0 rfl) ?_
  refine g_hist_count hC fi_X0_takeLatestInto_X0 hK hX (wd9 hC 1 rfl) dX0_takeLatestInto_2 (v := x_hcnt S) rfl ?_
  refine lv_iconst (v := nI (1)) hC.1 hC.2.1 dX0_takeLatestInto_5 rfl ?_
  refine n_sub hC (a := x_hcnt S) (b := 1) dX0_takeLatestInto_6 (by omega) ?_
  refine cv_Q (As := [.int (nI ((x_hcnt S) - (1)))]) (rest := []) hC hK hA hX (c_X0_stateOrNull l G ad (S) ((x_hcnt S) - (1)) (by omega)) (cwV 1 hC.2.2.2.2 gX0_takeLatestInto_X0_stateOrNull rfl rfl rfl hd_X0_stateOrNull ⟨Nat.le_of_ble_eq_true rfl, Nat.le_of_ble_eq_true rfl⟩) (ci := 0) (q := (RX0, TX0, 2)) rfl (q0 := 18) rfl dX0_takeLatestInto_7 rfl hl.1 rfl (Nat.le_of_ble_eq_true rfl) ⟨(Nat.zero_le _), (Nat.zero_le _)⟩ (fun r9 S9 H locs hp9 hX => ?_)
  obtain ⟨hr9, hS9⟩ := hp9
  rw [hS9] at hX
  obtain rfl : r9 = some (ad (3 * ((x_perm S) ((x_hcnt S) - (1)) + 2))) := hr9
  replace hX : HH G A s.heap (wX G ad (S)) H locs := hX
  refine lv_astore_n (lv' := [(2, .ref (ad (3 * ((x_perm S) ((x_hcnt S) - (1)) + 2)))), (0, .ref (ad 18)), (1, .ref (ad 0))]) hC.1 hC.2.1 dX0_takeLatestInto_10 rfl hl (by decide) rfl (fun ls hl => ?_)
  refine lv_aload_n hC.1 hC.2.1 dX0_takeLatestInto_11 rfl (lv_at hl 0 rfl) ?_
  refine lv_ifnull hC.1 hC.2.1 dX0_takeLatestInto_12 ?_
  refine lv_aload_n hC.1 hC.2.1 dX0_takeLatestInto_15 rfl (lv_at hl 2 rfl) ?_
  refine lv_aload_n hC.1 hC.2.1 dX0_takeLatestInto_16 rfl (lv_at hl 0 rfl) ?_
  refine cv_V (As := [.ref (ad (3 * ((x_perm S) ((x_hcnt S) - (1)) + 2)))]) (rest := []) hC hK hA hX (c_X5_copyFrom l G ad (S) 0 ((x_perm S) ((x_hcnt S) - (1)) + 2) (by decide) (by omega) (by omega) hT1 hQ0) (cwV 1 hC.2.2.2.2 gX0_takeLatestInto_X5_copyFrom rfl rfl rfl hd_X5_copyFrom ⟨Nat.le_of_ble_eq_true rfl, Nat.le_of_ble_eq_true rfl⟩) (ci := 5) (q := (RX5, TX5, 5)) rfl (q0 := 0) rfl dX0_takeLatestInto_17 rfl hl.1 rfl (Nat.le_of_ble_eq_true rfl) ⟨(Nat.zero_le _), (Nat.zero_le _)⟩ (fun S9 H locs hp9 hX => ?_)
  rw [hp9] at hX
  replace hX : HH G A s.heap (wX G ad (u_now (S) (cpSt (x_now S) ((x_hs S) ((x_perm S) ((x_hcnt S) - (1))))))) H locs := hX
  refine lv_aload_n hC.1 hC.2.1 dX0_takeLatestInto_20 rfl (lv_at hl 1 rfl) ?_
  refine lv_dup hC.1 hC.2.1 dX0_takeLatestInto_21 rfl ?_
  refine g_hist_count hC fi_X0_takeLatestInto_X0 hK hX (wd9 hC 1 rfl) dX0_takeLatestInto_22 (v := x_hcnt S) rfl ?_
  refine lv_iconst (v := nI (1)) hC.1 hC.2.1 dX0_takeLatestInto_25 rfl ?_
  refine n_sub hC (a := x_hcnt S) (b := 1) dX0_takeLatestInto_26 (by omega) ?_
  refine p_hist_count hC fi_X0_takeLatestInto_X0 hK hX (v := (x_hcnt S) - (1)) (wd9 hC 1 rfl) dX0_takeLatestInto_27 (fun H locs hX => ?_)
  replace hX : HH G A s.heap (wX G ad (u_hcnt (u_now (S) (cpSt (x_now S) ((x_hs S) ((x_perm S) ((x_hcnt S) - (1)))))) ((x_hcnt S) - (1)))) H locs := hX
  refine r_return hC hr hlk hX dX0_takeLatestInto_30 ?_
  exact rfl
theorem fi_X3_addPlace_X3 : ∀ w ∈ wsX30, w ∈ wsX3_addPlace := by decide +kernel
set_option maxHeartbeats 4000000 in
set_option maxRecDepth 100000 in
theorem c_X3_addPlace (l : Launch) (G : GX) (ad : Nat → Nat) (S : XS) (v0 : Nat) (hc0 : x_rcnt S < 60) : CtV l yX3_addPlace wsX3_addPlace { frames := 0, cells := 0, slots := 0, locals := 0 } G (wX G ad) (S) [.ref (ad 22), .int (nI (v0))] (fun S' => S' = setRD S (rdAdd (getRD S) v0)) 0 0 := by
  refine CtV.of (cc := cX3_addPlace) (maxL := 2) (ret := none) (by decide +kernel) rfl (Nat.le_of_ble_eq_true rfl) ?_
  intro p e s m args below meth c ls A hC hr hlk hin hK hA hX hl
  have hl : lv_has ls 2 [(0, .ref (ad 22)), (1, .int (nI (v0)))] := hl
  refine lv_aload_n hC.1 hC.2.1 dX3_addPlace_0 rfl (lv_at hl 0 rfl) ?_
  refine g_reader_placeCount hC fi_X3_addPlace_X3 hK hX (wd9 hC 1 rfl) dX3_addPlace_1 (v := x_rcnt S) rfl ?_
  refine n_if_lt hC (a := x_rcnt S) (tgt := 36) dX3_addPlace_4 (by decide) (by omega) ?_
  refine lv_aload_n hC.1 hC.2.1 dX3_addPlace_7 rfl (lv_at hl 0 rfl) ?_
  refine g_reader_placeCount hC fi_X3_addPlace_X3 hK hX (wd9 hC 1 rfl) dX3_addPlace_8 (v := x_rcnt S) rfl ?_
  refine lv_bipush (v := nI (60)) hC.1 hC.2.1 dX3_addPlace_11 (by decide +kernel) ?_
  refine n_icmp_ge hC (a := x_rcnt S) (b := 60) (tgt := 36) dX3_addPlace_13 (by decide) (by omega) (by decide) (fun c13 => ?_) (fun c13 => ?_)
  · exfalso; omega
  · skip
    refine lv_aload_n hC.1 hC.2.1 dX3_addPlace_16 rfl (lv_at hl 0 rfl) ?_
    refine g_reader_places hC fi_X3_addPlace_X3 hK hX (wd9 hC 2 rfl) dX3_addPlace_17 ?_
    refine lv_aload_n hC.1 hC.2.1 dX3_addPlace_20 rfl (lv_at hl 0 rfl) ?_
    refine g_reader_placeCount hC fi_X3_addPlace_X3 hK hX (wd9 hC 1 rfl) dX3_addPlace_21 (v := x_rcnt S) rfl ?_
    refine lv_iload_n hC.1 hC.2.1 dX3_addPlace_24 rfl (lv_at hl 1 rfl) ?_
    refine s_rplaces hC hK hX (i := x_rcnt S) (v := v0) (by omega) dX3_addPlace_25 (fun H locs hX => ?_)
    replace hX : HH G A s.heap (wX G ad (u_rplaces (S) (va_up (x_rplaces S) (x_rcnt S) (v0)))) H locs := hX
    refine lv_aload_n hC.1 hC.2.1 dX3_addPlace_26 rfl (lv_at hl 0 rfl) ?_
    refine lv_dup hC.1 hC.2.1 dX3_addPlace_27 rfl ?_
    refine g_reader_placeCount hC fi_X3_addPlace_X3 hK hX (wd9 hC 1 rfl) dX3_addPlace_28 (v := x_rcnt S) rfl ?_
    refine lv_iconst (v := nI (1)) hC.1 hC.2.1 dX3_addPlace_31 rfl ?_
    refine n_add hC (a := x_rcnt S) (b := 1) dX3_addPlace_32 ?_
    refine p_reader_placeCount hC fi_X3_addPlace_X3 hK hX (v := (x_rcnt S) + (1)) (wd9 hC 1 rfl) dX3_addPlace_33 (fun H locs hX => ?_)
    replace hX : HH G A s.heap (wX G ad (u_rcnt (u_rplaces (S) (va_up (x_rplaces S) (x_rcnt S) (v0))) ((x_rcnt S) + (1)))) H locs := hX
    refine lv_aload_n hC.1 hC.2.1 dX3_addPlace_36 rfl (lv_at hl 0 rfl) ?_
    refine lv_iconst (v := nI (1)) hC.1 hC.2.1 dX3_addPlace_37 rfl ?_
    refine p_reader_mode hC fi_X3_addPlace_X3 hK hX (v := 1) (wd9 hC 3 rfl) dX3_addPlace_38 (fun H locs hX => ?_)
    replace hX : HH G A s.heap (wX G ad (u_rmode (u_rcnt (u_rplaces (S) (va_up (x_rplaces S) (x_rcnt S) (v0))) ((x_rcnt S) + (1))) (1))) H locs := hX
    refine r_return hC hr hlk hX dX3_addPlace_41 ?_
    exact rfl
theorem hd_X3_addPlace : yX3_addPlace.cls = RX3 ∧ yX3_addPlace.cls ≠ "java/lang/invoke/MethodHandle" ∧ yX3_addPlace.cls ≠ "java/lang/invoke/VarHandle" ∧ (parseMethodDescriptor yX3_addPlace.desc).map (fun d => d.parameters.length) = some 1 := by decide +kernel
theorem fi_X3_acceptsPlace_X3 : ∀ w ∈ wsX30, w ∈ wsX3_acceptsPlace := by decide +kernel
set_option maxHeartbeats 4000000 in
set_option maxRecDepth 100000 in
theorem c_X3_acceptsPlace (l : Launch) (G : GX) (ad : Nat → Nat) (S : XS) (c0 : Nat) (hc0 : c0 < 65536) (hn0 : x_rcnt S < 60) : CtI l yX3_acceptsPlace wsX3_acceptsPlace { frames := 1, cells := 0, slots := 0, locals := 21 } G (wX G ad) (S) [.ref (ad 22), .int (nI (c0))] (rdPost rdPlace S c0) 0 0 := by
  refine CtI.of (cc := cX3_acceptsPlace) (maxL := 2) (ret := some .boolean) (by decide +kernel) rfl (Nat.le_of_ble_eq_true rfl) ?_
  intro p e s m args below meth c ls A hC hr hlk hin hK hA hX hl
  have hl : lv_has ls 2 [(0, .ref (ad 22)), (1, .int (nI (c0)))] := hl
  refine lv_iload_n hC.1 hC.2.1 dX3_acceptsPlace_0 rfl (lv_at hl 1 rfl) ?_
  refine lv_bipush (v := nI (91)) hC.1 hC.2.1 dX3_acceptsPlace_1 (by decide +kernel) ?_
  refine n_icmp_ne hC (a := c0) (b := 91) (tgt := 23) dX3_acceptsPlace_3 (by decide) (by omega) (by decide) (fun c3 => ?_) (fun c3 => ?_)
  · skip
    refine lv_iload_n hC.1 hC.2.1 dX3_acceptsPlace_23 rfl (lv_at hl 1 rfl) ?_
    refine pn_I (As := [.int (nI (c0))]) (rest := []) hC hK hA hX (c_X7_isLetter l G (c0) (by omega)) ⟨va_cnB 1 hC.2.2.2.2 gX3_acceptsPlace_X7_isLetter_n69 rfl rfl rfl (hK.2.2 _ (List.mem_of_getElem? (i := 7) rfl)) (wd9 hC 7 rfl) hd_X7_isLetter_s ⟨Nat.le_of_ble_eq_true rfl, Nat.le_of_ble_eq_true rfl⟩, (wd9 hC 6 rfl), trivial⟩ dX3_acceptsPlace_24 rfl hl.1 rfl (Nat.le_of_ble_eq_true rfl) ⟨(Nat.zero_le _), (Nat.zero_le _)⟩ (fun r9 S9 H locs hp9 hX => ?_)
    obtain rfl := hp9
    replace hX : HH G A s.heap (wX G ad (S)) H locs := hX
    refine b_if_eq hC (b := isLet c0) (tgt := 42) dX3_acceptsPlace_27 (by decide) (fun c27 => ?_) (fun c27 => ?_)
    · skip
      refine lv_iload_n hC.1 hC.2.1 dX3_acceptsPlace_42 rfl (lv_at hl 1 rfl) ?_
      refine lv_bipush (v := nI (46)) hC.1 hC.2.1 dX3_acceptsPlace_43 (by decide +kernel) ?_
      refine n_icmp_ne hC (a := c0) (b := 46) (tgt := 56) dX3_acceptsPlace_45 (by decide) (by omega) (by decide) (fun c45 => ?_) (fun c45 => ?_)
      · skip
        refine lv_iload_n hC.1 hC.2.1 dX3_acceptsPlace_56 rfl (lv_at hl 1 rfl) ?_
        refine lv_bipush (v := nI (95)) hC.1 hC.2.1 dX3_acceptsPlace_57 (by decide +kernel) ?_
        refine n_icmp_ne hC (a := c0) (b := 95) (tgt := 70) dX3_acceptsPlace_59 (by decide) (by omega) (by decide) (fun c59 => ?_) (fun c59 => ?_)
        · skip
          refine lv_iconst (v := nI (0)) hC.1 hC.2.1 dX3_acceptsPlace_70 rfl ?_
          refine r_zreturn hC hr hlk hX dX3_acceptsPlace_71 rfl ?_
          exact Or.inr ⟨by unfold rdPlace; rw [if_neg (by assumption), if_neg (by simp_all), if_neg (by assumption), if_neg (by assumption)], rfl, rfl⟩
        · skip
          refine lv_aload_n hC.1 hC.2.1 dX3_acceptsPlace_62 rfl (lv_at hl 0 rfl) ?_
          refine lv_ldc (v := (67108864 : Int32)) hC.1 hC.2.1 hC.2.2.2.1 (wd9 hC 5 rfl) dX3_acceptsPlace_63 ?_
          refine n_top (y := nI 67108864) (by decide +kernel) ?_
          refine cv_V (As := [.int (nI (67108864))]) (rest := []) hC hK hA hX (c_X3_addPlace l G ad (S) (67108864) (by assumption)) (cwV 1 hC.2.2.2.2 gX3_acceptsPlace_X3_addPlace rfl rfl rfl hd_X3_addPlace ⟨Nat.le_of_ble_eq_true rfl, Nat.le_of_ble_eq_true rfl⟩) (ci := 3) (q := (RX3, TX3, 7)) rfl (q0 := 22) rfl dX3_acceptsPlace_65 rfl hl.1 rfl (Nat.le_of_ble_eq_true rfl) ⟨(Nat.zero_le _), (Nat.zero_le _)⟩ (fun S9 H locs hp9 hX => ?_)
          rw [hp9] at hX
          replace hX : HH G A s.heap (wX G ad (u_rmode (u_rcnt (u_rplaces (S) (va_up (x_rplaces S) (x_rcnt S) (67108864))) (x_rcnt S + 1)) (1))) H locs := hX
          refine lv_iconst (v := nI (1)) hC.1 hC.2.1 dX3_acceptsPlace_68 rfl ?_
          refine r_zreturn hC hr hlk hX dX3_acceptsPlace_69 rfl ?_
          exact Or.inl ⟨_, by unfold rdPlace; rw [if_neg (by assumption), if_neg (by simp_all), if_neg (by assumption), if_pos (by assumption)], rfl, rfl⟩
      · skip
        refine lv_aload_n hC.1 hC.2.1 dX3_acceptsPlace_48 rfl (lv_at hl 0 rfl) ?_
        refine lv_ldc (v := (134217727 : Int32)) hC.1 hC.2.1 hC.2.2.2.1 (wd9 hC 4 rfl) dX3_acceptsPlace_49 ?_
        refine n_top (y := nI 134217727) (by decide +kernel) ?_
        refine cv_V (As := [.int (nI (134217727))]) (rest := []) hC hK hA hX (c_X3_addPlace l G ad (S) (134217727) (by assumption)) (cwV 1 hC.2.2.2.2 gX3_acceptsPlace_X3_addPlace rfl rfl rfl hd_X3_addPlace ⟨Nat.le_of_ble_eq_true rfl, Nat.le_of_ble_eq_true rfl⟩) (ci := 3) (q := (RX3, TX3, 7)) rfl (q0 := 22) rfl dX3_acceptsPlace_51 rfl hl.1 rfl (Nat.le_of_ble_eq_true rfl) ⟨(Nat.zero_le _), (Nat.zero_le _)⟩ (fun S9 H locs hp9 hX => ?_)
        rw [hp9] at hX
        replace hX : HH G A s.heap (wX G ad (u_rmode (u_rcnt (u_rplaces (S) (va_up (x_rplaces S) (x_rcnt S) (134217727))) (x_rcnt S + 1)) (1))) H locs := hX
        refine lv_iconst (v := nI (1)) hC.1 hC.2.1 dX3_acceptsPlace_54 rfl ?_
        refine r_zreturn hC hr hlk hX dX3_acceptsPlace_55 rfl ?_
        exact Or.inl ⟨_, by unfold rdPlace; rw [if_neg (by assumption), if_neg (by simp_all), if_pos (by assumption)], rfl, rfl⟩
    · skip
      refine lv_aload_n hC.1 hC.2.1 dX3_acceptsPlace_30 rfl (lv_at hl 0 rfl) ?_
      refine lv_iconst (v := nI (1)) hC.1 hC.2.1 dX3_acceptsPlace_31 rfl ?_
      refine lv_iload_n hC.1 hC.2.1 dX3_acceptsPlace_32 rfl (lv_at hl 1 rfl) ?_
      refine lv_bipush (v := nI (97)) hC.1 hC.2.1 dX3_acceptsPlace_33 (by decide +kernel) ?_
      refine n_sub hC (a := c0) (b := 97) dX3_acceptsPlace_35 (by have := isLet_ge ‹_›; omega) ?_
      refine lv_ishl hC.1 hC.2.1 dX3_acceptsPlace_36 ?_
      refine n_top (y := nI (2 ^ (c0 - 97))) (shl_nI (c0 - 97) (by have := isLet_ge c27; omega)) ?_
      refine cv_V (As := [.int (nI (2 ^ (c0 - 97)))]) (rest := []) hC hK hA hX (c_X3_addPlace l G ad (S) (2 ^ (c0 - 97)) (by assumption)) (cwV 1 hC.2.2.2.2 gX3_acceptsPlace_X3_addPlace rfl rfl rfl hd_X3_addPlace ⟨Nat.le_of_ble_eq_true rfl, Nat.le_of_ble_eq_true rfl⟩) (ci := 3) (q := (RX3, TX3, 7)) rfl (q0 := 22) rfl dX3_acceptsPlace_37 rfl hl.1 rfl (Nat.le_of_ble_eq_true rfl) ⟨(Nat.zero_le _), (Nat.zero_le _)⟩ (fun S9 H locs hp9 hX => ?_)
      rw [hp9] at hX
      replace hX : HH G A s.heap (wX G ad (u_rmode (u_rcnt (u_rplaces (S) (va_up (x_rplaces S) (x_rcnt S) (2 ^ (c0 - 97)))) (x_rcnt S + 1)) (1))) H locs := hX
      refine lv_iconst (v := nI (1)) hC.1 hC.2.1 dX3_acceptsPlace_40 rfl ?_
      refine r_zreturn hC hr hlk hX dX3_acceptsPlace_41 rfl ?_
      exact Or.inl ⟨_, by unfold rdPlace; rw [if_neg (by assumption), if_pos (by assumption)], rfl, rfl⟩
  · skip
    refine lv_aload_n hC.1 hC.2.1 dX3_acceptsPlace_6 rfl (lv_at hl 0 rfl) ?_
    refine lv_iconst (v := nI (0)) hC.1 hC.2.1 dX3_acceptsPlace_7 rfl ?_
    refine p_reader_set hC fi_X3_acceptsPlace_X3 hK hX (v := 0) (wd9 hC 1 rfl) dX3_acceptsPlace_8 (fun H locs hX => ?_)
    replace hX : HH G A s.heap (wX G ad (u_rset (S) (0))) H locs := hX
    refine lv_aload_n hC.1 hC.2.1 dX3_acceptsPlace_11 rfl (lv_at hl 0 rfl) ?_
    refine lv_iconst (v := nI (0)) hC.1 hC.2.1 dX3_acceptsPlace_12 rfl ?_
    refine p_reader_turned hC fi_X3_acceptsPlace_X3 hK hX (v := false) (wd9 hC 2 rfl) dX3_acceptsPlace_13 (fun H locs hX => ?_)
    replace hX : HH G A s.heap (wX G ad (u_rset (u_rturned (S) (false)) (0))) H locs := hX
    refine lv_aload_n hC.1 hC.2.1 dX3_acceptsPlace_16 rfl (lv_at hl 0 rfl) ?_
    refine lv_iconst (v := nI (2)) hC.1 hC.2.1 dX3_acceptsPlace_17 rfl ?_
    refine p_reader_mode hC fi_X3_acceptsPlace_X3 hK hX (v := 2) (wd9 hC 3 rfl) dX3_acceptsPlace_18 (fun H locs hX => ?_)
    replace hX : HH G A s.heap (wX G ad (u_rset (u_rturned (u_rmode (S) (2)) (false)) (0))) H locs := hX
    refine lv_iconst (v := nI (1)) hC.1 hC.2.1 dX3_acceptsPlace_21 rfl ?_
    refine r_zreturn hC hr hlk hX dX3_acceptsPlace_22 rfl ?_
    exact Or.inl ⟨_, if_pos (by assumption), rfl, rfl⟩
theorem fi_X3_acceptsBeginning_X3 : ∀ w ∈ wsX30, w ∈ wsX3_acceptsBeginning := by decide +kernel
theorem hd_X3_acceptsPlace : yX3_acceptsPlace.cls = RX3 ∧ yX3_acceptsPlace.cls ≠ "java/lang/invoke/MethodHandle" ∧ yX3_acceptsPlace.cls ≠ "java/lang/invoke/VarHandle" ∧ (parseMethodDescriptor yX3_acceptsPlace.desc).map (fun d => d.parameters.length) = some 1 := by decide +kernel
set_option maxHeartbeats 4000000 in
set_option maxRecDepth 100000 in
theorem c_X3_acceptsBeginning (l : Launch) (G : GX) (ad : Nat → Nat) (S : XS) (c0 : Nat) (hc0 : c0 < 65536) (hn0 : x_rcnt S < 60) : CtI l yX3_acceptsBeginning wsX3_acceptsBeginning { frames := 2, cells := 0, slots := 0, locals := 42 } G (wX G ad) (S) [.ref (ad 22), .int (nI (c0))] (rdPost rdBegin S c0) 0 0 := by
  refine CtI.of (cc := cX3_acceptsBeginning) (maxL := 2) (ret := some .boolean) (by decide +kernel) rfl (Nat.le_of_ble_eq_true rfl) ?_
  intro p e s m args below meth c ls A hC hr hlk hin hK hA hX hl
  have hl : lv_has ls 2 [(0, .ref (ad 22)), (1, .int (nI (c0)))] := hl
  refine lv_iload_n hC.1 hC.2.1 dX3_acceptsBeginning_0 rfl (lv_at hl 1 rfl) ?_
  refine lv_bipush (v := nI (94)) hC.1 hC.2.1 dX3_acceptsBeginning_1 (by decide +kernel) ?_
  refine n_icmp_eq hC (a := c0) (b := 94) (tgt := 12) dX3_acceptsBeginning_3 (by decide) (by omega) (by decide) (fun c3 => ?_) (fun c3 => ?_)
  · skip
    refine lv_aload_n hC.1 hC.2.1 dX3_acceptsBeginning_12 rfl (lv_at hl 0 rfl) ?_
    refine lv_iconst (v := nI (1)) hC.1 hC.2.1 dX3_acceptsBeginning_13 rfl ?_
    refine p_reader_bound hC fi_X3_acceptsBeginning_X3 hK hX (v := true) (wd9 hC 1 rfl) dX3_acceptsBeginning_14 (fun H locs hX => ?_)
    replace hX : HH G A s.heap (wX G ad (u_rbound (S) (true))) H locs := hX
    refine lv_aload_n hC.1 hC.2.1 dX3_acceptsBeginning_17 rfl (lv_at hl 0 rfl) ?_
    refine lv_iconst (v := nI (1)) hC.1 hC.2.1 dX3_acceptsBeginning_18 rfl ?_
    refine p_reader_mode hC fi_X3_acceptsBeginning_X3 hK hX (v := 1) (wd9 hC 2 rfl) dX3_acceptsBeginning_19 (fun H locs hX => ?_)
    replace hX : HH G A s.heap (wX G ad (u_rmode (u_rbound (S) (true)) (1))) H locs := hX
    refine lv_iconst (v := nI (1)) hC.1 hC.2.1 dX3_acceptsBeginning_22 rfl ?_
    refine r_zreturn hC hr hlk hX dX3_acceptsBeginning_23 rfl ?_
    exact Or.inl ⟨_, if_pos (by assumption), rfl, rfl⟩
  · skip
    refine lv_aload_n hC.1 hC.2.1 dX3_acceptsBeginning_6 rfl (lv_at hl 0 rfl) ?_
    refine lv_iload_n hC.1 hC.2.1 dX3_acceptsBeginning_7 rfl (lv_at hl 1 rfl) ?_
    refine cv_I (As := [.int (nI (c0))]) (rest := []) hC hK hA hX (c_X3_acceptsPlace l G ad (S) (c0) (by omega) hn0) (cwV 1 hC.2.2.2.2 gX3_acceptsBeginning_X3_acceptsPlace rfl rfl rfl hd_X3_acceptsPlace ⟨Nat.le_of_ble_eq_true rfl, Nat.le_of_ble_eq_true rfl⟩) (ci := 3) (q := (RX3, TX3, 7)) rfl (q0 := 22) rfl dX3_acceptsBeginning_8 rfl hl.1 rfl (Nat.le_of_ble_eq_true rfl) ⟨(Nat.zero_le _), (Nat.zero_le _)⟩ (fun r9 S9 H locs hp9 hX => ?_)
    skip
    replace hX : HH G A s.heap (wX G ad (S9)) H locs := hX
    refine r_zreturn hC hr hlk hX dX3_acceptsBeginning_11 (rdPost_nar hp9) ?_
    exact rdPost_congr hp9 (if_neg (by assumption))
theorem fi_X3_acceptsLetterOfSet_X3 : ∀ w ∈ wsX30, w ∈ wsX3_acceptsLetterOfSet := by decide +kernel
set_option maxHeartbeats 4000000 in
set_option maxRecDepth 100000 in
theorem c_X3_acceptsLetterOfSet (l : Launch) (G : GX) (ad : Nat → Nat) (S : XS) (c0 : Nat) (hc0 : c0 < 65536) (hs0 : x_rset S < 67108864) (hl0 : x_rlast S < 65536) : CtI l yX3_acceptsLetterOfSet wsX3_acceptsLetterOfSet { frames := 1, cells := 0, slots := 0, locals := 20 } G (wX G ad) (S) [.ref (ad 22), .int (nI (c0))] (rdPost rdLetter S c0) 0 0 := by
  refine CtI.of (cc := cX3_acceptsLetterOfSet) (maxL := 2) (ret := some .boolean) (by decide +kernel) rfl (Nat.le_of_ble_eq_true rfl) ?_
  intro p e s m args below meth c ls A hC hr hlk hin hK hA hX hl
  have hl : lv_has ls 2 [(0, .ref (ad 22)), (1, .int (nI (c0)))] := hl
  refine lv_iload_n hC.1 hC.2.1 dX3_acceptsLetterOfSet_0 rfl (lv_at hl 1 rfl) ?_
  refine pn_I (As := [.int (nI (c0))]) (rest := []) hC hK hA hX (c_X7_isLetter l G (c0) (by omega)) ⟨va_cnB 1 hC.2.2.2.2 gX3_acceptsLetterOfSet_X7_isLetter_n69 rfl rfl rfl (hK.2.2 _ (List.mem_of_getElem? (i := 7) rfl)) (wd9 hC 5 rfl) hd_X7_isLetter_s ⟨Nat.le_of_ble_eq_true rfl, Nat.le_of_ble_eq_true rfl⟩, (wd9 hC 4 rfl), trivial⟩ dX3_acceptsLetterOfSet_1 rfl hl.1 rfl (Nat.le_of_ble_eq_true rfl) ⟨(Nat.zero_le _), (Nat.zero_le _)⟩ (fun r9 S9 H locs hp9 hX => ?_)
  obtain rfl := hp9
  replace hX : HH G A s.heap (wX G ad (S)) H locs := hX
  refine b_if_eq hC (b := isLet c0) (tgt := 22) dX3_acceptsLetterOfSet_4 (by decide) (fun c4 => ?_) (fun c4 => ?_)
  · skip
    refine lv_iconst (v := nI (0)) hC.1 hC.2.1 dX3_acceptsLetterOfSet_22 rfl ?_
    refine r_zreturn hC hr hlk hX dX3_acceptsLetterOfSet_23 rfl ?_
    exact Or.inr ⟨if_neg (fun h => by first | (rw [h.1] at c4; exact absurd c4 (by decide)) | (have h2 : x_rset S = 0 ∨ x_rlast S < c0 := h.2; omega)), rfl, rfl⟩
  · skip
    refine lv_aload_n hC.1 hC.2.1 dX3_acceptsLetterOfSet_7 rfl (lv_at hl 0 rfl) ?_
    refine g_reader_set hC fi_X3_acceptsLetterOfSet_X3 hK hX (wd9 hC 1 rfl) dX3_acceptsLetterOfSet_8 (v := x_rset S) rfl ?_
    refine n_if_eq hC (a := x_rset S) (tgt := 24) dX3_acceptsLetterOfSet_11 (by decide) (by omega) (fun c11 => ?_) (fun c11 => ?_)
    · skip
      refine lv_aload_n hC.1 hC.2.1 dX3_acceptsLetterOfSet_24 rfl (lv_at hl 0 rfl) ?_
      refine lv_dup hC.1 hC.2.1 dX3_acceptsLetterOfSet_25 rfl ?_
      refine g_reader_set hC fi_X3_acceptsLetterOfSet_X3 hK hX (wd9 hC 1 rfl) dX3_acceptsLetterOfSet_26 (v := x_rset S) rfl ?_
      refine lv_iconst (v := nI (1)) hC.1 hC.2.1 dX3_acceptsLetterOfSet_29 rfl ?_
      refine lv_iload_n hC.1 hC.2.1 dX3_acceptsLetterOfSet_30 rfl (lv_at hl 1 rfl) ?_
      refine lv_bipush (v := nI (97)) hC.1 hC.2.1 dX3_acceptsLetterOfSet_31 (by decide +kernel) ?_
      refine n_sub hC (a := c0) (b := 97) dX3_acceptsLetterOfSet_33 (by have := isLet_ge c4; omega) ?_
      refine lv_ishl hC.1 hC.2.1 dX3_acceptsLetterOfSet_34 ?_
      refine n_top (y := nI (2 ^ (c0 - 97))) (shl_nI (c0 - 97) (by have := isLet_ge c4; omega)) ?_
      refine lv_ior hC.1 hC.2.1 dX3_acceptsLetterOfSet_35 ?_
      refine n_top (y := nI (x_rset S ||| 2 ^ (c0 - 97))) (nI_or _ _) ?_
      refine p_reader_set hC fi_X3_acceptsLetterOfSet_X3 hK hX (v := x_rset S ||| 2 ^ (c0 - 97)) (wd9 hC 1 rfl) dX3_acceptsLetterOfSet_36 (fun H locs hX => ?_)
      replace hX : HH G A s.heap (wX G ad (u_rset (S) (x_rset S ||| 2 ^ (c0 - 97)))) H locs := hX
      refine lv_aload_n hC.1 hC.2.1 dX3_acceptsLetterOfSet_39 rfl (lv_at hl 0 rfl) ?_
      refine lv_iload_n hC.1 hC.2.1 dX3_acceptsLetterOfSet_40 rfl (lv_at hl 1 rfl) ?_
      refine p_reader_lastOfSet hC fi_X3_acceptsLetterOfSet_X3 hK hX (by omega) (v := c0) (wd9 hC 2 rfl) dX3_acceptsLetterOfSet_41 (fun H locs hX => ?_)
      replace hX : HH G A s.heap (wX G ad (u_rlast (u_rset (S) (x_rset S ||| 2 ^ (c0 - 97))) (c0))) H locs := hX
      refine lv_aload_n hC.1 hC.2.1 dX3_acceptsLetterOfSet_44 rfl (lv_at hl 0 rfl) ?_
      refine lv_iconst (v := nI (4)) hC.1 hC.2.1 dX3_acceptsLetterOfSet_45 rfl ?_
      refine p_reader_mode hC fi_X3_acceptsLetterOfSet_X3 hK hX (v := 4) (wd9 hC 3 rfl) dX3_acceptsLetterOfSet_46 (fun H locs hX => ?_)
      replace hX : HH G A s.heap (wX G ad (u_rlast (u_rset (u_rmode (S) (4)) (x_rset S ||| 2 ^ (c0 - 97))) (c0))) H locs := hX
      refine lv_iconst (v := nI (1)) hC.1 hC.2.1 dX3_acceptsLetterOfSet_49 rfl ?_
      refine r_zreturn hC hr hlk hX dX3_acceptsLetterOfSet_50 rfl ?_
      exact Or.inl ⟨_, if_pos ⟨c4, by show x_rset S = 0 ∨ x_rlast S < c0; omega⟩, rfl, rfl⟩
    · skip
      refine lv_iload_n hC.1 hC.2.1 dX3_acceptsLetterOfSet_14 rfl (lv_at hl 1 rfl) ?_
      refine lv_aload_n hC.1 hC.2.1 dX3_acceptsLetterOfSet_15 rfl (lv_at hl 0 rfl) ?_
      refine g_reader_lastOfSet hC fi_X3_acceptsLetterOfSet_X3 hK hX (wd9 hC 2 rfl) dX3_acceptsLetterOfSet_16 (v := x_rlast S) rfl ?_
      refine n_icmp_gt hC (a := c0) (b := x_rlast S) (tgt := 24) dX3_acceptsLetterOfSet_19 (by decide) (by omega) (by omega) (fun c19 => ?_) (fun c19 => ?_)
      · skip
        refine lv_aload_n hC.1 hC.2.1 dX3_acceptsLetterOfSet_24 rfl (lv_at hl 0 rfl) ?_
        refine lv_dup hC.1 hC.2.1 dX3_acceptsLetterOfSet_25 rfl ?_
        refine g_reader_set hC fi_X3_acceptsLetterOfSet_X3 hK hX (wd9 hC 1 rfl) dX3_acceptsLetterOfSet_26 (v := x_rset S) rfl ?_
        refine lv_iconst (v := nI (1)) hC.1 hC.2.1 dX3_acceptsLetterOfSet_29 rfl ?_
        refine lv_iload_n hC.1 hC.2.1 dX3_acceptsLetterOfSet_30 rfl (lv_at hl 1 rfl) ?_
        refine lv_bipush (v := nI (97)) hC.1 hC.2.1 dX3_acceptsLetterOfSet_31 (by decide +kernel) ?_
        refine n_sub hC (a := c0) (b := 97) dX3_acceptsLetterOfSet_33 (by have := isLet_ge c4; omega) ?_
        refine lv_ishl hC.1 hC.2.1 dX3_acceptsLetterOfSet_34 ?_
        refine n_top (y := nI (2 ^ (c0 - 97))) (shl_nI (c0 - 97) (by have := isLet_ge c4; omega)) ?_
        refine lv_ior hC.1 hC.2.1 dX3_acceptsLetterOfSet_35 ?_
        refine n_top (y := nI (x_rset S ||| 2 ^ (c0 - 97))) (nI_or _ _) ?_
        refine p_reader_set hC fi_X3_acceptsLetterOfSet_X3 hK hX (v := x_rset S ||| 2 ^ (c0 - 97)) (wd9 hC 1 rfl) dX3_acceptsLetterOfSet_36 (fun H locs hX => ?_)
        replace hX : HH G A s.heap (wX G ad (u_rset (S) (x_rset S ||| 2 ^ (c0 - 97)))) H locs := hX
        refine lv_aload_n hC.1 hC.2.1 dX3_acceptsLetterOfSet_39 rfl (lv_at hl 0 rfl) ?_
        refine lv_iload_n hC.1 hC.2.1 dX3_acceptsLetterOfSet_40 rfl (lv_at hl 1 rfl) ?_
        refine p_reader_lastOfSet hC fi_X3_acceptsLetterOfSet_X3 hK hX (by omega) (v := c0) (wd9 hC 2 rfl) dX3_acceptsLetterOfSet_41 (fun H locs hX => ?_)
        replace hX : HH G A s.heap (wX G ad (u_rlast (u_rset (S) (x_rset S ||| 2 ^ (c0 - 97))) (c0))) H locs := hX
        refine lv_aload_n hC.1 hC.2.1 dX3_acceptsLetterOfSet_44 rfl (lv_at hl 0 rfl) ?_
        refine lv_iconst (v := nI (4)) hC.1 hC.2.1 dX3_acceptsLetterOfSet_45 rfl ?_
        refine p_reader_mode hC fi_X3_acceptsLetterOfSet_X3 hK hX (v := 4) (wd9 hC 3 rfl) dX3_acceptsLetterOfSet_46 (fun H locs hX => ?_)
        replace hX : HH G A s.heap (wX G ad (u_rlast (u_rset (u_rmode (S) (4)) (x_rset S ||| 2 ^ (c0 - 97))) (c0))) H locs := hX
        refine lv_iconst (v := nI (1)) hC.1 hC.2.1 dX3_acceptsLetterOfSet_49 rfl ?_
        refine r_zreturn hC hr hlk hX dX3_acceptsLetterOfSet_50 rfl ?_
        exact Or.inl ⟨_, if_pos ⟨c4, by show x_rset S = 0 ∨ x_rlast S < c0; omega⟩, rfl, rfl⟩
      · skip
        refine lv_iconst (v := nI (0)) hC.1 hC.2.1 dX3_acceptsLetterOfSet_22 rfl ?_
        refine r_zreturn hC hr hlk hX dX3_acceptsLetterOfSet_23 rfl ?_
        exact Or.inr ⟨if_neg (fun h => by first | (rw [h.1] at c4; exact absurd c4 (by decide)) | (have h2 : x_rset S = 0 ∨ x_rlast S < c0 := h.2; omega)), rfl, rfl⟩
theorem fi_X3_acceptsFirstOfSet_X3 : ∀ w ∈ wsX30, w ∈ wsX3_acceptsFirstOfSet := by decide +kernel
theorem hd_X3_acceptsLetterOfSet : yX3_acceptsLetterOfSet.cls = RX3 ∧ yX3_acceptsLetterOfSet.cls ≠ "java/lang/invoke/MethodHandle" ∧ yX3_acceptsLetterOfSet.cls ≠ "java/lang/invoke/VarHandle" ∧ (parseMethodDescriptor yX3_acceptsLetterOfSet.desc).map (fun d => d.parameters.length) = some 1 := by decide +kernel
set_option maxHeartbeats 4000000 in
set_option maxRecDepth 100000 in
theorem c_X3_acceptsFirstOfSet (l : Launch) (G : GX) (ad : Nat → Nat) (S : XS) (c0 : Nat) (hc0 : c0 < 65536) (hs0 : x_rset S < 67108864) (hl0 : x_rlast S < 65536) : CtI l yX3_acceptsFirstOfSet wsX3_acceptsFirstOfSet { frames := 2, cells := 0, slots := 0, locals := 41 } G (wX G ad) (S) [.ref (ad 22), .int (nI (c0))] (rdPost rdFirst S c0) 0 0 := by
  refine CtI.of (cc := cX3_acceptsFirstOfSet) (maxL := 2) (ret := some .boolean) (by decide +kernel) rfl (Nat.le_of_ble_eq_true rfl) ?_
  intro p e s m args below meth c ls A hC hr hlk hin hK hA hX hl
  have hl : lv_has ls 2 [(0, .ref (ad 22)), (1, .int (nI (c0)))] := hl
  refine lv_iload_n hC.1 hC.2.1 dX3_acceptsFirstOfSet_0 rfl (lv_at hl 1 rfl) ?_
  refine lv_bipush (v := nI (45)) hC.1 hC.2.1 dX3_acceptsFirstOfSet_1 (by decide +kernel) ?_
  refine n_icmp_eq hC (a := c0) (b := 45) (tgt := 12) dX3_acceptsFirstOfSet_3 (by decide) (by omega) (by decide) (fun c3 => ?_) (fun c3 => ?_)
  · skip
    refine lv_aload_n hC.1 hC.2.1 dX3_acceptsFirstOfSet_12 rfl (lv_at hl 0 rfl) ?_
    refine lv_iconst (v := nI (1)) hC.1 hC.2.1 dX3_acceptsFirstOfSet_13 rfl ?_
    refine p_reader_turned hC fi_X3_acceptsFirstOfSet_X3 hK hX (v := true) (wd9 hC 1 rfl) dX3_acceptsFirstOfSet_14 (fun H locs hX => ?_)
    replace hX : HH G A s.heap (wX G ad (u_rturned (S) (true))) H locs := hX
    refine lv_aload_n hC.1 hC.2.1 dX3_acceptsFirstOfSet_17 rfl (lv_at hl 0 rfl) ?_
    refine lv_iconst (v := nI (3)) hC.1 hC.2.1 dX3_acceptsFirstOfSet_18 rfl ?_
    refine p_reader_mode hC fi_X3_acceptsFirstOfSet_X3 hK hX (v := 3) (wd9 hC 2 rfl) dX3_acceptsFirstOfSet_19 (fun H locs hX => ?_)
    replace hX : HH G A s.heap (wX G ad (u_rturned (u_rmode (S) (3)) (true))) H locs := hX
    refine lv_iconst (v := nI (1)) hC.1 hC.2.1 dX3_acceptsFirstOfSet_22 rfl ?_
    refine r_zreturn hC hr hlk hX dX3_acceptsFirstOfSet_23 rfl ?_
    exact Or.inl ⟨_, if_pos (by assumption), rfl, rfl⟩
  · skip
    refine lv_aload_n hC.1 hC.2.1 dX3_acceptsFirstOfSet_6 rfl (lv_at hl 0 rfl) ?_
    refine lv_iload_n hC.1 hC.2.1 dX3_acceptsFirstOfSet_7 rfl (lv_at hl 1 rfl) ?_
    refine cv_I (As := [.int (nI (c0))]) (rest := []) hC hK hA hX (c_X3_acceptsLetterOfSet l G ad (S) (c0) (by omega) hs0 hl0) (cwV 1 hC.2.2.2.2 gX3_acceptsFirstOfSet_X3_acceptsLetterOfSet rfl rfl rfl hd_X3_acceptsLetterOfSet ⟨Nat.le_of_ble_eq_true rfl, Nat.le_of_ble_eq_true rfl⟩) (ci := 3) (q := (RX3, TX3, 7)) rfl (q0 := 22) rfl dX3_acceptsFirstOfSet_8 rfl hl.1 rfl (Nat.le_of_ble_eq_true rfl) ⟨(Nat.zero_le _), (Nat.zero_le _)⟩ (fun r9 S9 H locs hp9 hX => ?_)
    skip
    replace hX : HH G A s.heap (wX G ad (S9)) H locs := hX
    refine r_zreturn hC hr hlk hX dX3_acceptsFirstOfSet_11 (rdPost_nar hp9) ?_
    exact rdPost_congr hp9 (if_neg (by assumption))
theorem fi_X3_acceptsRestOfSet_X3 : ∀ w ∈ wsX30, w ∈ wsX3_acceptsRestOfSet := by decide +kernel
set_option maxHeartbeats 4000000 in
set_option maxRecDepth 100000 in
theorem c_X3_acceptsRestOfSet (l : Launch) (G : GX) (ad : Nat → Nat) (S : XS) (c0 : Nat) (hc0 : c0 < 65536) (hn0 : x_rcnt S < 60) (hs0 : x_rset S < 67108864) (hl0 : x_rlast S < 65536) : CtI l yX3_acceptsRestOfSet wsX3_acceptsRestOfSet { frames := 2, cells := 0, slots := 0, locals := 41 } G (wX G ad) (S) [.ref (ad 22), .int (nI (c0))] (rdPost rdRest S c0) 0 0 := by
  refine CtI.of (cc := cX3_acceptsRestOfSet) (maxL := 2) (ret := some .boolean) (by decide +kernel) rfl (Nat.le_of_ble_eq_true rfl) ?_
  intro p e s m args below meth c ls A hC hr hlk hin hK hA hX hl
  have hl : lv_has ls 2 [(0, .ref (ad 22)), (1, .int (nI (c0)))] := hl
  refine lv_iload_n hC.1 hC.2.1 dX3_acceptsRestOfSet_0 rfl (lv_at hl 1 rfl) ?_
  refine lv_bipush (v := nI (93)) hC.1 hC.2.1 dX3_acceptsRestOfSet_1 (by decide +kernel) ?_
  refine n_icmp_eq hC (a := c0) (b := 93) (tgt := 12) dX3_acceptsRestOfSet_3 (by decide) (by omega) (by decide) (fun c3 => ?_) (fun c3 => ?_)
  · skip
    refine lv_aload_n hC.1 hC.2.1 dX3_acceptsRestOfSet_12 rfl (lv_at hl 0 rfl) ?_
    refine lv_aload_n hC.1 hC.2.1 dX3_acceptsRestOfSet_13 rfl (lv_at hl 0 rfl) ?_
    refine g_reader_turned hC fi_X3_acceptsRestOfSet_X3 hK hX (wd9 hC 1 rfl) dX3_acceptsRestOfSet_14 (v := x_rturned S) rfl ?_
    refine b_if_eq hC (b := x_rturned S) (tgt := 32) dX3_acceptsRestOfSet_17 (by decide) (fun c17 => ?_) (fun c17 => ?_)
    · skip
      refine lv_aload_n hC.1 hC.2.1 dX3_acceptsRestOfSet_32 rfl (lv_at hl 0 rfl) ?_
      refine g_reader_set hC fi_X3_acceptsRestOfSet_X3 hK hX (wd9 hC 3 rfl) dX3_acceptsRestOfSet_33 (v := x_rset S) rfl ?_
      refine cv_V (As := [.int (nI (x_rset S))]) (rest := []) hC hK hA hX (c_X3_addPlace l G ad (S) (x_rset S) (by assumption)) (cwV 1 hC.2.2.2.2 gX3_acceptsRestOfSet_X3_addPlace rfl rfl rfl hd_X3_addPlace ⟨Nat.le_of_ble_eq_true rfl, Nat.le_of_ble_eq_true rfl⟩) (ci := 3) (q := (RX3, TX3, 7)) rfl (q0 := 22) rfl dX3_acceptsRestOfSet_36 rfl hl.1 rfl (Nat.le_of_ble_eq_true rfl) ⟨(Nat.zero_le _), (Nat.zero_le _)⟩ (fun S9 H locs hp9 hX => ?_)
      rw [hp9] at hX
      replace hX : HH G A s.heap (wX G ad (u_rmode (u_rcnt (u_rplaces (S) (va_up (x_rplaces S) (x_rcnt S) (x_rset S))) (x_rcnt S + 1)) (1))) H locs := hX
      refine lv_iconst (v := nI (1)) hC.1 hC.2.1 dX3_acceptsRestOfSet_39 rfl ?_
      refine r_zreturn hC hr hlk hX dX3_acceptsRestOfSet_40 rfl ?_
      first | exact Or.inl ⟨_, by unfold rdRest; rw [if_pos (by assumption), if_pos (by assumption)], rfl, rfl⟩ | exact Or.inl ⟨_, by unfold rdRest; rw [if_pos (by assumption), if_neg (by simp_all [getRD])], rfl, rfl⟩
    · skip
      refine lv_ldc (v := (67108863 : Int32)) hC.1 hC.2.1 hC.2.2.2.1 (wd9 hC 2 rfl) dX3_acceptsRestOfSet_20 ?_
      refine n_top (y := nI 67108863) (by decide +kernel) ?_
      refine lv_aload_n hC.1 hC.2.1 dX3_acceptsRestOfSet_22 rfl (lv_at hl 0 rfl) ?_
      refine g_reader_set hC fi_X3_acceptsRestOfSet_X3 hK hX (wd9 hC 3 rfl) dX3_acceptsRestOfSet_23 (v := x_rset S) rfl ?_
      refine lv_iconst (v := (-1)) hC.1 hC.2.1 dX3_acceptsRestOfSet_26 rfl ?_
      refine lv_ixor hC.1 hC.2.1 dX3_acceptsRestOfSet_27 ?_
      refine lv_iand hC.1 hC.2.1 dX3_acceptsRestOfSet_28 ?_
      refine n_top (y := nI (cmpl (x_rset S))) (cmpl_e _) ?_
      refine lv_goto (tgt := 36) hC.1 hC.2.1 dX3_acceptsRestOfSet_29 (by decide) ?_
      refine cv_V (As := [.int (nI (cmpl (x_rset S)))]) (rest := []) hC hK hA hX (c_X3_addPlace l G ad (S) (cmpl (x_rset S)) (by assumption)) (cwV 1 hC.2.2.2.2 gX3_acceptsRestOfSet_X3_addPlace rfl rfl rfl hd_X3_addPlace ⟨Nat.le_of_ble_eq_true rfl, Nat.le_of_ble_eq_true rfl⟩) (ci := 3) (q := (RX3, TX3, 7)) rfl (q0 := 22) rfl dX3_acceptsRestOfSet_36 rfl hl.1 rfl (Nat.le_of_ble_eq_true rfl) ⟨(Nat.zero_le _), (Nat.zero_le _)⟩ (fun S9 H locs hp9 hX => ?_)
      rw [hp9] at hX
      replace hX : HH G A s.heap (wX G ad (u_rmode (u_rcnt (u_rplaces (S) (va_up (x_rplaces S) (x_rcnt S) (cmpl (x_rset S)))) (x_rcnt S + 1)) (1))) H locs := hX
      refine lv_iconst (v := nI (1)) hC.1 hC.2.1 dX3_acceptsRestOfSet_39 rfl ?_
      refine r_zreturn hC hr hlk hX dX3_acceptsRestOfSet_40 rfl ?_
      first | exact Or.inl ⟨_, by unfold rdRest; rw [if_pos (by assumption), if_pos (by assumption)], rfl, rfl⟩ | exact Or.inl ⟨_, by unfold rdRest; rw [if_pos (by assumption), if_neg (by simp_all [getRD])], rfl, rfl⟩
  · skip
    refine lv_aload_n hC.1 hC.2.1 dX3_acceptsRestOfSet_6 rfl (lv_at hl 0 rfl) ?_
    refine lv_iload_n hC.1 hC.2.1 dX3_acceptsRestOfSet_7 rfl (lv_at hl 1 rfl) ?_
    refine cv_I (As := [.int (nI (c0))]) (rest := []) hC hK hA hX (c_X3_acceptsLetterOfSet l G ad (S) (c0) (by omega) hs0 hl0) (cwV 1 hC.2.2.2.2 gX3_acceptsRestOfSet_X3_acceptsLetterOfSet rfl rfl rfl hd_X3_acceptsLetterOfSet ⟨Nat.le_of_ble_eq_true rfl, Nat.le_of_ble_eq_true rfl⟩) (ci := 3) (q := (RX3, TX3, 7)) rfl (q0 := 22) rfl dX3_acceptsRestOfSet_8 rfl hl.1 rfl (Nat.le_of_ble_eq_true rfl) ⟨(Nat.zero_le _), (Nat.zero_le _)⟩ (fun r9 S9 H locs hp9 hX => ?_)
    skip
    replace hX : HH G A s.heap (wX G ad (S9)) H locs := hX
    refine r_zreturn hC hr hlk hX dX3_acceptsRestOfSet_11 (rdPost_nar hp9) ?_
    exact rdPost_congr hp9 (if_neg (by assumption))
theorem fi_X3_accepts_X3 : ∀ w ∈ wsX30, w ∈ wsX3_accepts := by decide +kernel
theorem hd_X3_acceptsBeginning : yX3_acceptsBeginning.cls = RX3 ∧ yX3_acceptsBeginning.cls ≠ "java/lang/invoke/MethodHandle" ∧ yX3_acceptsBeginning.cls ≠ "java/lang/invoke/VarHandle" ∧ (parseMethodDescriptor yX3_acceptsBeginning.desc).map (fun d => d.parameters.length) = some 1 := by decide +kernel
theorem hd_X3_acceptsFirstOfSet : yX3_acceptsFirstOfSet.cls = RX3 ∧ yX3_acceptsFirstOfSet.cls ≠ "java/lang/invoke/MethodHandle" ∧ yX3_acceptsFirstOfSet.cls ≠ "java/lang/invoke/VarHandle" ∧ (parseMethodDescriptor yX3_acceptsFirstOfSet.desc).map (fun d => d.parameters.length) = some 1 := by decide +kernel
theorem hd_X3_acceptsRestOfSet : yX3_acceptsRestOfSet.cls = RX3 ∧ yX3_acceptsRestOfSet.cls ≠ "java/lang/invoke/MethodHandle" ∧ yX3_acceptsRestOfSet.cls ≠ "java/lang/invoke/VarHandle" ∧ (parseMethodDescriptor yX3_acceptsRestOfSet.desc).map (fun d => d.parameters.length) = some 1 := by decide +kernel
set_option maxHeartbeats 4000000 in
set_option maxRecDepth 100000 in
theorem c_X3_accepts (l : Launch) (G : GX) (ad : Nat → Nat) (S : XS) (c0 : Nat) (hc0 : c0 < 65536) (hm0 : x_rmode S ≤ 4) (hn0 : x_rcnt S < 60) (hs0 : x_rset S < 67108864) (hl0 : x_rlast S < 65536) : CtI l yX3_accepts wsX3_accepts { frames := 3, cells := 0, slots := 0, locals := 63 } G (wX G ad) (S) [.ref (ad 22), .int (nI (c0))] (rdPost rdStep S c0) 0 0 := by
  refine CtI.of (cc := cX3_accepts) (maxL := 2) (ret := some .boolean) (by decide +kernel) rfl (Nat.le_of_ble_eq_true rfl) ?_
  intro p e s m args below meth c ls A hC hr hlk hin hK hA hX hl
  have hl : lv_has ls 2 [(0, .ref (ad 22)), (1, .int (nI (c0)))] := hl
  refine lv_aload_n hC.1 hC.2.1 dX3_accepts_0 rfl (lv_at hl 0 rfl) ?_
  refine g_reader_mode hC fi_X3_accepts_X3 hK hX (wd9 hC 1 rfl) dX3_accepts_1 (v := x_rmode S) rfl ?_
  by_cases hsw9 : x_rmode S ≤ 3
  · obtain hsw | hsw | hsw | hsw : x_rmode S = 0 ∨ x_rmode S = 1 ∨ x_rmode S = 2 ∨ x_rmode S = 3 := by omega
    · refine n_top (y := nI 0) (by rw [hsw]) ?_
      refine lv_tableIn (tgt := 36) (off := 32) hC.1 hC.2.1 dX3_accepts_4 (by decide +kernel) (by decide +kernel) (by decide +kernel) (by decide) ?_
      refine lv_aload_n hC.1 hC.2.1 dX3_accepts_36 rfl (lv_at hl 0 rfl) ?_
      refine lv_iload_n hC.1 hC.2.1 dX3_accepts_37 rfl (lv_at hl 1 rfl) ?_
      refine cv_I (As := [.int (nI (c0))]) (rest := []) hC hK hA hX (c_X3_acceptsBeginning l G ad (S) (c0) (by omega) hn0) (cwV 1 hC.2.2.2.2 gX3_accepts_X3_acceptsBeginning rfl rfl rfl hd_X3_acceptsBeginning ⟨Nat.le_of_ble_eq_true rfl, Nat.le_of_ble_eq_true rfl⟩) (ci := 3) (q := (RX3, TX3, 7)) rfl (q0 := 22) rfl dX3_accepts_38 rfl hl.1 rfl (Nat.le_of_ble_eq_true rfl) ⟨(Nat.zero_le _), (Nat.zero_le _)⟩ (fun r9 S9 H locs hp9 hX => ?_)
      skip
      replace hX : HH G A s.heap (wX G ad (S9)) H locs := hX
      refine r_zreturn hC hr hlk hX dX3_accepts_41 (rdPost_nar hp9) ?_
      exact rdPost_congr hp9 (by unfold rdStep; rw [show rd_mode (getRD S) = 0 from hsw]; rfl)
    · refine n_top (y := nI 1) (by rw [hsw]) ?_
      refine lv_tableIn (tgt := 42) (off := 38) hC.1 hC.2.1 dX3_accepts_4 (by decide +kernel) (by decide +kernel) (by decide +kernel) (by decide) ?_
      refine lv_aload_n hC.1 hC.2.1 dX3_accepts_42 rfl (lv_at hl 0 rfl) ?_
      refine lv_iload_n hC.1 hC.2.1 dX3_accepts_43 rfl (lv_at hl 1 rfl) ?_
      refine cv_I (As := [.int (nI (c0))]) (rest := []) hC hK hA hX (c_X3_acceptsPlace l G ad (S) (c0) (by omega) hn0) (cwV 1 hC.2.2.2.2 gX3_accepts_X3_acceptsPlace rfl rfl rfl hd_X3_acceptsPlace ⟨Nat.le_of_ble_eq_true rfl, Nat.le_of_ble_eq_true rfl⟩) (ci := 3) (q := (RX3, TX3, 7)) rfl (q0 := 22) rfl dX3_accepts_44 rfl hl.1 rfl (Nat.le_of_ble_eq_true rfl) ⟨(Nat.zero_le _), (Nat.zero_le _)⟩ (fun r9 S9 H locs hp9 hX => ?_)
      skip
      replace hX : HH G A s.heap (wX G ad (S9)) H locs := hX
      refine r_zreturn hC hr hlk hX dX3_accepts_47 (rdPost_nar hp9) ?_
      exact rdPost_congr hp9 (by unfold rdStep; rw [show rd_mode (getRD S) = 1 from hsw]; rfl)
    · refine n_top (y := nI 2) (by rw [hsw]) ?_
      refine lv_tableIn (tgt := 48) (off := 44) hC.1 hC.2.1 dX3_accepts_4 (by decide +kernel) (by decide +kernel) (by decide +kernel) (by decide) ?_
      refine lv_aload_n hC.1 hC.2.1 dX3_accepts_48 rfl (lv_at hl 0 rfl) ?_
      refine lv_iload_n hC.1 hC.2.1 dX3_accepts_49 rfl (lv_at hl 1 rfl) ?_
      refine cv_I (As := [.int (nI (c0))]) (rest := []) hC hK hA hX (c_X3_acceptsFirstOfSet l G ad (S) (c0) (by omega) hs0 hl0) (cwV 1 hC.2.2.2.2 gX3_accepts_X3_acceptsFirstOfSet rfl rfl rfl hd_X3_acceptsFirstOfSet ⟨Nat.le_of_ble_eq_true rfl, Nat.le_of_ble_eq_true rfl⟩) (ci := 3) (q := (RX3, TX3, 7)) rfl (q0 := 22) rfl dX3_accepts_50 rfl hl.1 rfl (Nat.le_of_ble_eq_true rfl) ⟨(Nat.zero_le _), (Nat.zero_le _)⟩ (fun r9 S9 H locs hp9 hX => ?_)
      skip
      replace hX : HH G A s.heap (wX G ad (S9)) H locs := hX
      refine r_zreturn hC hr hlk hX dX3_accepts_53 (rdPost_nar hp9) ?_
      exact rdPost_congr hp9 (by unfold rdStep; rw [show rd_mode (getRD S) = 2 from hsw]; rfl)
    · refine n_top (y := nI 3) (by rw [hsw]) ?_
      refine lv_tableIn (tgt := 54) (off := 50) hC.1 hC.2.1 dX3_accepts_4 (by decide +kernel) (by decide +kernel) (by decide +kernel) (by decide) ?_
      refine lv_aload_n hC.1 hC.2.1 dX3_accepts_54 rfl (lv_at hl 0 rfl) ?_
      refine lv_iload_n hC.1 hC.2.1 dX3_accepts_55 rfl (lv_at hl 1 rfl) ?_
      refine cv_I (As := [.int (nI (c0))]) (rest := []) hC hK hA hX (c_X3_acceptsLetterOfSet l G ad (S) (c0) (by omega) hs0 hl0) (cwV 1 hC.2.2.2.2 gX3_accepts_X3_acceptsLetterOfSet rfl rfl rfl hd_X3_acceptsLetterOfSet ⟨Nat.le_of_ble_eq_true rfl, Nat.le_of_ble_eq_true rfl⟩) (ci := 3) (q := (RX3, TX3, 7)) rfl (q0 := 22) rfl dX3_accepts_56 rfl hl.1 rfl (Nat.le_of_ble_eq_true rfl) ⟨(Nat.zero_le _), (Nat.zero_le _)⟩ (fun r9 S9 H locs hp9 hX => ?_)
      skip
      replace hX : HH G A s.heap (wX G ad (S9)) H locs := hX
      refine r_zreturn hC hr hlk hX dX3_accepts_59 (rdPost_nar hp9) ?_
      exact rdPost_congr hp9 (by unfold rdStep; rw [show rd_mode (getRD S) = 3 from hsw]; rfl)
  · refine lv_tableOut (tgt := 60) hC.1 hC.2.1 dX3_accepts_4 (Or.inr (by rw [nI_toInt (by omega)]; omega)) (by decide) ?_
    refine lv_aload_n hC.1 hC.2.1 dX3_accepts_60 rfl (lv_at hl 0 rfl) ?_
    refine lv_iload_n hC.1 hC.2.1 dX3_accepts_61 rfl (lv_at hl 1 rfl) ?_
    refine cv_I (As := [.int (nI (c0))]) (rest := []) hC hK hA hX (c_X3_acceptsRestOfSet l G ad (S) (c0) (by omega) hn0 hs0 hl0) (cwV 1 hC.2.2.2.2 gX3_accepts_X3_acceptsRestOfSet rfl rfl rfl hd_X3_acceptsRestOfSet ⟨Nat.le_of_ble_eq_true rfl, Nat.le_of_ble_eq_true rfl⟩) (ci := 3) (q := (RX3, TX3, 7)) rfl (q0 := 22) rfl dX3_accepts_62 rfl hl.1 rfl (Nat.le_of_ble_eq_true rfl) ⟨(Nat.zero_le _), (Nat.zero_le _)⟩ (fun r9 S9 H locs hp9 hX => ?_)
    skip
    replace hX : HH G A s.heap (wX G ad (S9)) H locs := hX
    refine r_zreturn hC hr hlk hX dX3_accepts_65 (rdPost_nar hp9) ?_
    exact rdPost_congr hp9 (by unfold rdStep; rw [show rd_mode (getRD S) = 4 from (show x_rmode S = 4 by omega)]; rfl)
