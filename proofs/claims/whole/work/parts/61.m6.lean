theorem hd_X8_coded_s : yX8_coded.cls ≠ "java/lang/invoke/MethodHandle" ∧ yX8_coded.cls ≠ "java/lang/invoke/VarHandle" ∧ (parseMethodDescriptor yX8_coded.desc).map (fun d => d.parameters.length) = some 1 := by decide +kernel
theorem fi_X8_write_X8 : ∀ w ∈ wsX80, w ∈ wsX8_write := by decide +kernel
theorem hd_X8_remember : yX8_remember.cls = RX8 ∧ yX8_remember.cls ≠ "java/lang/invoke/MethodHandle" ∧ yX8_remember.cls ≠ "java/lang/invoke/VarHandle" ∧ (parseMethodDescriptor yX8_remember.desc).map (fun d => d.parameters.length) = some 0 := by decide +kernel
theorem hd_X8_writes : yX8_writes.cls = RX8 ∧ yX8_writes.cls ≠ "java/lang/invoke/MethodHandle" ∧ yX8_writes.cls ≠ "java/lang/invoke/VarHandle" ∧ (parseMethodDescriptor yX8_writes.desc).map (fun d => d.parameters.length) = some 1 := by decide +kernel
theorem hd_X8_acted : yX8_acted.cls = RX8 ∧ yX8_acted.cls ≠ "java/lang/invoke/MethodHandle" ∧ yX8_acted.cls ≠ "java/lang/invoke/VarHandle" ∧ (parseMethodDescriptor yX8_acted.desc).map (fun d => d.parameters.length) = some 1 := by decide +kernel
set_option maxHeartbeats 4000000 in
set_option maxRecDepth 100000 in
theorem c_X8_write (l : Launch) (G : GX) (am : Nat → Nat) (S : MS) (hok : okM S) (c0 : Nat) (hc0 : c0 < 65536) : CtI l yX8_write wsX8_write { frames := 2, cells := 0, slots := 0, locals := 45 } G (wM G am) (S) [.ref (am 0), .int (nI (c0))] (fun r S' => (isSgn c0 = false ∧ r = -2 ∧ S' = S) ∨ (isSgn c0 = true ∧ cod c0 < 27 ∧ ((¬ aLen (m_all S) < 120 ∧ r = -3 ∧ S' = S) ∨ (aLen (m_all S) < 120 ∧ r = nI (aLen (m_all S) + 1) ∧ m_all S' = wA (m_all S) (cod c0) ∧ actM S S')))) 0 0 := by
  refine CtI.of (cc := cX8_write) (maxL := 3) (ret := some .int) (by decide +kernel) rfl (Nat.le_of_ble_eq_true rfl) ?_
  intro p e s m args below meth c ls A hC hr hlk hin hK hA hX hl
  have hl : lv_has ls 3 [(0, .ref (am 0)), (1, .int (nI (c0)))] := hl
  have hokM := hok
  obtain ⟨hokk, hhl, hhs, hsn, hit, hpl0, hpd0⟩ := hok
  obtain ⟨hLn, hPc, hMs, hTx, hPt⟩ := id hokk
  refine lv_iload_n hC.1 hC.2.1 dX8_write_0 rfl (lv_at hl 1 rfl) ?_
  refine ps_I (As := [.int (nI (c0))]) (rest := []) hC hK hA hX (c_X8_coded l G (c0) hc0) (va_cwS 1 hC.2.2.2.2 gX8_write_X8_coded rfl rfl rfl hd_X8_coded_s ⟨Nat.le_of_ble_eq_true rfl, Nat.le_of_ble_eq_true rfl⟩) dX8_write_1 rfl hl.1 rfl (Nat.le_of_ble_eq_true rfl) ⟨(Nat.zero_le _), (Nat.zero_le _)⟩ (fun r9 S9 H locs hp9 hX => ?_)
  skip
  replace hX : HH G A s.heap (wM G am (S)) H locs := hX
  rcases codeI_cases c0 with ⟨hcs, hce⟩ | ⟨hcs, hcl, hce⟩
  · obtain rfl : r9 = (-5) := hp9.trans hce
    refine lv_istore_n (lv' := [(2, .int ((-5))), (0, .ref (am 0)), (1, .int (nI (c0)))]) hC.1 hC.2.1 dX8_write_4 rfl hl (by decide) rfl (fun ls hl => ?_)
    refine lv_iload_n hC.1 hC.2.1 dX8_write_5 rfl (lv_at hl 0 rfl) ?_
    refine lv_bipush (v := (-5)) hC.1 hC.2.1 dX8_write_6 (by decide +kernel) ?_
    refine lv_icmp_ne hC.1 hC.2.1 (x := (-5)) (y := (-5)) (tgt := 14) dX8_write_8 (by decide) (fun c8 => by first | exact absurd c8 (by decide) | exact absurd (by decide) c8) (fun c8 => ?_)
    refine lv_bipush (v := (-2)) hC.1 hC.2.1 dX8_write_11 (by decide +kernel) ?_
    refine r_ireturn hC hr hlk hX dX8_write_13 ?_
    exact Or.inl ⟨hcs, rfl, rfl⟩
  · obtain rfl : r9 = nI (cod c0) := hp9.trans hce
    refine lv_istore_n (lv' := [(2, .int (nI (cod c0))), (0, .ref (am 0)), (1, .int (nI (c0)))]) hC.1 hC.2.1 dX8_write_4 rfl hl (by decide) rfl (fun ls hl => ?_)
    refine lv_iload_n hC.1 hC.2.1 dX8_write_5 rfl (lv_at hl 0 rfl) ?_
    refine lv_bipush (v := (-5)) hC.1 hC.2.1 dX8_write_6 (by decide +kernel) ?_
    refine lv_icmp_ne hC.1 hC.2.1 (x := nI (cod c0)) (y := (-5)) (tgt := 14) dX8_write_8 (by decide) (fun c8 => ?_) (fun c8 => absurd c8 (nI_ne_neg (by omega) (by decide)))
    refine lv_aload_n hC.1 hC.2.1 dX8_write_14 rfl (lv_at hl 1 rfl) ?_
    refine g_m_all hC fi_X8_write_X8 hK hX (wd9 hC 1 rfl) dX8_write_15 ?_
    refine lv_iconst (v := nI (0)) hC.1 hC.2.1 dX8_write_18 rfl ?_
    refine l_m_all hC hK hX (i := 0) (by decide) dX8_write_19 (v := aLen (m_all S)) rfl ?_
    refine lv_bipush (v := nI (120)) hC.1 hC.2.1 dX8_write_20 (by decide +kernel) ?_
    refine n_icmp_ne hC (a := aLen (m_all S)) (b := 120) (tgt := 28) dX8_write_22 (by decide) (by omega) (by decide) (fun c22 => ?_) (fun c22 => ?_)
    · skip
      refine lv_aload_n hC.1 hC.2.1 dX8_write_28 rfl (lv_at hl 1 rfl) ?_
      refine cv_V (As := []) (rest := []) hC hK hA hX (c_X8_remember l G am (S) ) (cwV 0 hC.2.2.2.2 gX8_write_X8_remember rfl rfl rfl hd_X8_remember ⟨Nat.le_of_ble_eq_true rfl, Nat.le_of_ble_eq_true rfl⟩) (ci := 8) (q := (RX8, TX8, 21)) rfl (q0 := 0) rfl dX8_write_29 rfl hl.1 rfl (Nat.le_of_ble_eq_true rfl) ⟨(Nat.zero_le _), (Nat.zero_le _)⟩ (fun S9 H locs hp9 hX => ?_)
      obtain ⟨kp29, hS9, hkp29⟩ := hp9
      rw [hS9] at hX
      replace hX : HH G A s.heap (wM G am (w_kept (S) (kp29))) H locs := hX
      refine lv_aload_n hC.1 hC.2.1 dX8_write_32 rfl (lv_at hl 1 rfl) ?_
      refine lv_iload_n hC.1 hC.2.1 dX8_write_33 rfl (lv_at hl 0 rfl) ?_
      refine cv_V (As := [.int (nI (cod c0))]) (rest := []) hC hK hA hX (c_X8_writes l G am (w_kept (S) (kp29)) (cod c0) (show aLen (m_all S) < 120 from by omega)) (cwV 1 hC.2.2.2.2 gX8_write_X8_writes rfl rfl rfl hd_X8_writes ⟨Nat.le_of_ble_eq_true rfl, Nat.le_of_ble_eq_true rfl⟩) (ci := 8) (q := (RX8, TX8, 21)) rfl (q0 := 0) rfl dX8_write_34 rfl hl.1 rfl (Nat.le_of_ble_eq_true rfl) ⟨(Nat.zero_le _), (Nat.zero_le _)⟩ (fun S9 H locs hp9 hX => ?_)
      rw [hp9] at hX
      replace hX : HH G A s.heap (wM G am (w_kept (w_all (S) (wA (m_all S) (cod c0))) (kp29))) H locs := hX
      refine lv_aload_n hC.1 hC.2.1 dX8_write_37 rfl (lv_at hl 1 rfl) ?_
      refine lv_aload_n hC.1 hC.2.1 dX8_write_38 rfl (lv_at hl 1 rfl) ?_
      refine g_m_all hC fi_X8_write_X8 hK hX (wd9 hC 1 rfl) dX8_write_39 ?_
      refine lv_iconst (v := nI (0)) hC.1 hC.2.1 dX8_write_42 rfl ?_
      refine l_m_all hC hK hX (i := 0) (by decide) dX8_write_43 (v := aLen (m_all S) + 1) (wA_len (m_all S) (cod c0)) ?_
      refine cv_I (As := [.int (nI (aLen (m_all S) + 1))]) (rest := []) hC hK hA hX (c_X8_acted l G am (w_kept (w_all (S) (wA (m_all S) (cod c0))) (kp29)) hhl (nI (aLen (m_all S) + 1))) (cwV 1 hC.2.2.2.2 gX8_write_X8_acted rfl rfl rfl hd_X8_acted ⟨Nat.le_of_ble_eq_true rfl, Nat.le_of_ble_eq_true rfl⟩) (ci := 8) (q := (RX8, TX8, 21)) rfl (q0 := 0) rfl dX8_write_44 rfl hl.1 rfl (Nat.le_of_ble_eq_true rfl) ⟨(Nat.zero_le _), (Nat.zero_le _)⟩ (fun r9 S9 H locs hp9 hX => ?_)
      obtain ⟨h9, hh44, hS9, hrec44⟩ := hp9
      rw [hS9] at hX
      obtain rfl : r9 = _ := h9
      replace hX : HH G A s.heap (wM G am (w_hlong (w_hist (w_kept (w_all (S) (wA (m_all S) (cod c0))) (kp29)) (hh44)) (mHl (w_kept (w_all (S) (wA (m_all S) (cod c0))) (kp29)) + 1))) H locs := hX
      refine r_ireturn hC hr hlk hX dX8_write_47 ?_
      exact Or.inr ⟨hcs, hcl, Or.inr ⟨by omega, rfl, rfl, act_of hrec44 rfl rfl hkp29 rfl rfl rfl rfl⟩⟩
    · skip
      refine lv_bipush (v := (-3)) hC.1 hC.2.1 dX8_write_25 (by decide +kernel) ?_
      refine r_ireturn hC hr hlk hX dX8_write_27 ?_
      exact Or.inr ⟨hcs, hcl, Or.inl ⟨by omega, rfl, rfl⟩⟩
theorem fi_X8_cut_X8 : ∀ w ∈ wsX80, w ∈ wsX8_cut := by decide +kernel
set_option maxHeartbeats 4000000 in
set_option maxRecDepth 100000 in
theorem c_X8_cut (l : Launch) (G : GX) (am : Nat → Nat) (S : MS) (hok : okM S) (k0 : Int32) : CtI l yX8_cut wsX8_cut { frames := 1, cells := 0, slots := 0, locals := 25 } G (wM G am) (S) [.ref (am 0), .int (k0)] (fun r S' => ((k0.toInt < 1 ∨ 120 < k0.toInt) ∧ r = -2 ∧ S' = S) ∨ ∃ k, k0 = nI k ∧ 1 ≤ k ∧ k ≤ 120 ∧ ((aLen (m_all S) < k ∧ r = -4 ∧ S' = S) ∨ (k ≤ aLen (m_all S) ∧ r = nI (aLen (m_all S) - k) ∧ m_all S' = va_up (m_all S) 0 (aLen (m_all S) - k) ∧ actM S S'))) 0 0 := by
  refine CtI.of (cc := cX8_cut) (maxL := 2) (ret := some .int) (by decide +kernel) rfl (Nat.le_of_ble_eq_true rfl) ?_
  intro p e s m args below meth c ls A hC hr hlk hin hK hA hX hl
  have hl : lv_has ls 2 [(0, .ref (am 0)), (1, .int (k0))] := hl
  have hokM := hok
  obtain ⟨hokk, hhl, hhs, hsn, hit, hpl0, hpd0⟩ := hok
  obtain ⟨hLn, hPc, hMs, hTx, hPt⟩ := id hokk
  refine lv_iload_n hC.1 hC.2.1 dX8_cut_0 rfl (lv_at hl 1 rfl) ?_
  refine lv_i2l hC.1 hC.2.1 dX8_cut_1 rfl ?_
  refine lv_lconst (v := lN 1) hC.1 hC.2.1 dX8_cut_2 rfl ?_
  refine lv_ldc2 (v := (120 : Int64)) hC.1 hC.2.1 hC.2.2.2.1 (wd9 hC 1 rfl) dX8_cut_3 ?_
  refine ps_I (As := [.long (k0.toInt64), .long (lN 1), .long ((120 : Int64))]) (rest := []) hC hK hA hX (c_X8_in l G (k0.toInt64) (lN 1) ((120 : Int64))) (va_cwS 3 hC.2.2.2.2 gX8_cut_X8_in rfl rfl rfl hd_X8_in_s ⟨Nat.le_of_ble_eq_true rfl, Nat.le_of_ble_eq_true rfl⟩) dX8_cut_6 rfl hl.1 rfl (Nat.le_of_ble_eq_true rfl) ⟨(Nat.zero_le _), (Nat.zero_le _)⟩ (fun r9 S9 H locs hp9 hX => ?_)
  obtain rfl : r9 = bI (inC k0 1 120) := by rw [hp9, (show inL k0.toInt64 (lN 1) ((120 : Int64)) = inC k0 1 120 from inL_c (by first | decide | omega) (by first | decide | omega))]
  replace hX : HH G A s.heap (wM G am (S)) H locs := hX
  refine b_if_ne hC (b := inC k0 1 120) (tgt := 15) dX8_cut_9 (by decide) (fun c9 => ?_) (fun c9 => ?_)
  · skip
    obtain ⟨kk, hkk, hkk2, rfl⟩ := inC_t c9 (by omega)
    refine lv_iload_n hC.1 hC.2.1 dX8_cut_15 rfl (lv_at hl 1 rfl) ?_
    refine lv_aload_n hC.1 hC.2.1 dX8_cut_16 rfl (lv_at hl 0 rfl) ?_
    refine g_m_all hC fi_X8_cut_X8 hK hX (wd9 hC 2 rfl) dX8_cut_17 ?_
    refine lv_iconst (v := nI (0)) hC.1 hC.2.1 dX8_cut_20 rfl ?_
    refine l_m_all hC hK hX (i := 0) (by decide) dX8_cut_21 (v := aLen (m_all S)) rfl ?_
    refine n_icmp_le hC (a := kk) (b := aLen (m_all S)) (tgt := 28) dX8_cut_22 (by decide) (by omega) (by omega) (fun c22 => ?_) (fun c22 => ?_)
    · skip
      refine lv_aload_n hC.1 hC.2.1 dX8_cut_28 rfl (lv_at hl 0 rfl) ?_
      refine cv_V (As := []) (rest := []) hC hK hA hX (c_X8_remember l G am (S) ) (cwV 0 hC.2.2.2.2 gX8_cut_X8_remember rfl rfl rfl hd_X8_remember ⟨Nat.le_of_ble_eq_true rfl, Nat.le_of_ble_eq_true rfl⟩) (ci := 8) (q := (RX8, TX8, 21)) rfl (q0 := 0) rfl dX8_cut_29 rfl hl.1 rfl (Nat.le_of_ble_eq_true rfl) ⟨(Nat.zero_le _), (Nat.zero_le _)⟩ (fun S9 H locs hp9 hX => ?_)
      obtain ⟨kp29, hS9, hkp29⟩ := hp9
      rw [hS9] at hX
      replace hX : HH G A s.heap (wM G am (w_kept (S) (kp29))) H locs := hX
      refine lv_aload_n hC.1 hC.2.1 dX8_cut_32 rfl (lv_at hl 0 rfl) ?_
      refine g_m_all hC fi_X8_cut_X8 hK hX (wd9 hC 2 rfl) dX8_cut_33 ?_
      refine lv_iconst (v := nI (0)) hC.1 hC.2.1 dX8_cut_36 rfl ?_
      refine lv_dup2_11 hC.1 hC.2.1 dX8_cut_37 rfl rfl ?_
      refine l_m_all hC hK hX (i := 0) (by decide) dX8_cut_38 (v := aLen (m_all S)) rfl ?_
      refine lv_iload_n hC.1 hC.2.1 dX8_cut_39 rfl (lv_at hl 1 rfl) ?_
      refine n_sub hC (a := aLen (m_all S)) (b := kk) dX8_cut_40 (by omega) ?_
      refine s_m_all hC hK hX (i := 0) (v := (aLen (m_all S)) - (kk)) (by decide) dX8_cut_41 (fun H locs hX => ?_)
      replace hX : HH G A s.heap (wM G am (w_kept (w_all (S) (va_up (m_all S) (0) ((aLen (m_all S)) - (kk)))) (kp29))) H locs := hX
      refine lv_aload_n hC.1 hC.2.1 dX8_cut_42 rfl (lv_at hl 0 rfl) ?_
      refine lv_aload_n hC.1 hC.2.1 dX8_cut_43 rfl (lv_at hl 0 rfl) ?_
      refine g_m_all hC fi_X8_cut_X8 hK hX (wd9 hC 2 rfl) dX8_cut_44 ?_
      refine lv_iconst (v := nI (0)) hC.1 hC.2.1 dX8_cut_47 rfl ?_
      refine l_m_all hC hK hX (i := 0) (by decide) dX8_cut_48 (v := aLen (m_all S) - kk) (show va_up (m_all S) 0 (aLen (m_all S) - kk) 0 = _ from va_up_self _ _ _) ?_
      refine cv_I (As := [.int (nI (aLen (m_all S) - kk))]) (rest := []) hC hK hA hX (c_X8_acted l G am (w_kept (w_all (S) (va_up (m_all S) (0) ((aLen (m_all S)) - (kk)))) (kp29)) hhl (nI (aLen (m_all S) - kk))) (cwV 1 hC.2.2.2.2 gX8_cut_X8_acted rfl rfl rfl hd_X8_acted ⟨Nat.le_of_ble_eq_true rfl, Nat.le_of_ble_eq_true rfl⟩) (ci := 8) (q := (RX8, TX8, 21)) rfl (q0 := 0) rfl dX8_cut_49 rfl hl.1 rfl (Nat.le_of_ble_eq_true rfl) ⟨(Nat.zero_le _), (Nat.zero_le _)⟩ (fun r9 S9 H locs hp9 hX => ?_)
      obtain ⟨h9, hh49, hS9, hrec49⟩ := hp9
      rw [hS9] at hX
      obtain rfl : r9 = _ := h9
      replace hX : HH G A s.heap (wM G am (w_hlong (w_hist (w_kept (w_all (S) (va_up (m_all S) (0) ((aLen (m_all S)) - (kk)))) (kp29)) (hh49)) (mHl (w_kept (w_all (S) (va_up (m_all S) (0) ((aLen (m_all S)) - (kk)))) (kp29)) + 1))) H locs := hX
      refine r_ireturn hC hr hlk hX dX8_cut_52 ?_
      exact Or.inr ⟨kk, rfl, hkk, hkk2, Or.inr ⟨by omega, rfl, rfl, act_of hrec49 rfl rfl hkp29 rfl rfl rfl rfl⟩⟩
    · skip
      refine lv_bipush (v := (-4)) hC.1 hC.2.1 dX8_cut_25 (by decide +kernel) ?_
      refine r_ireturn hC hr hlk hX dX8_cut_27 ?_
      exact Or.inr ⟨kk, rfl, hkk, hkk2, Or.inl ⟨by omega, rfl, rfl⟩⟩
  · skip
    refine lv_bipush (v := (-2)) hC.1 hC.2.1 dX8_cut_12 (by decide +kernel) ?_
    refine r_ireturn hC hr hlk hX dX8_cut_14 ?_
    exact Or.inl ⟨inC_f c9, rfl, rfl⟩
theorem fi_X8_setSlips_X8 : ∀ w ∈ wsX80, w ∈ wsX8_setSlips := by decide +kernel
set_option maxHeartbeats 4000000 in
set_option maxRecDepth 100000 in
theorem c_X8_setSlips (l : Launch) (G : GX) (am : Nat → Nat) (S : MS) (hok : okM S) (k0 : Int32) : CtI l yX8_setSlips wsX8_setSlips { frames := 1, cells := 0, slots := 0, locals := 25 } G (wM G am) (S) [.ref (am 0), .int (k0)] (fun r S' => ((k0.toInt < 0 ∨ 4 < k0.toInt) ∧ r = -2 ∧ S' = S) ∨ ∃ k, k0 = nI k ∧ k ≤ 4 ∧ ((aMost (m_all S) = k ∧ r = -5 ∧ S' = S) ∨ (aMost (m_all S) ≠ k ∧ r = nI (aMost (m_all S)) ∧ m_all S' = va_up (m_all S) 2 k ∧ actM S S'))) 0 0 := by
  refine CtI.of (cc := cX8_setSlips) (maxL := 3) (ret := some .int) (by decide +kernel) rfl (Nat.le_of_ble_eq_true rfl) ?_
  intro p e s m args below meth c ls A hC hr hlk hin hK hA hX hl
  have hl : lv_has ls 3 [(0, .ref (am 0)), (1, .int (k0))] := hl
  have hokM := hok
  obtain ⟨hokk, hhl, hhs, hsn, hit, hpl0, hpd0⟩ := hok
  obtain ⟨hLn, hPc, hMs, hTx, hPt⟩ := id hokk
  refine lv_iload_n hC.1 hC.2.1 dX8_setSlips_0 rfl (lv_at hl 1 rfl) ?_
  refine lv_i2l hC.1 hC.2.1 dX8_setSlips_1 rfl ?_
  refine lv_lconst (v := lN 0) hC.1 hC.2.1 dX8_setSlips_2 rfl ?_
  refine lv_ldc2 (v := (4 : Int64)) hC.1 hC.2.1 hC.2.2.2.1 (wd9 hC 1 rfl) dX8_setSlips_3 ?_
  refine ps_I (As := [.long (k0.toInt64), .long (lN 0), .long ((4 : Int64))]) (rest := []) hC hK hA hX (c_X8_in l G (k0.toInt64) (lN 0) ((4 : Int64))) (va_cwS 3 hC.2.2.2.2 gX8_setSlips_X8_in rfl rfl rfl hd_X8_in_s ⟨Nat.le_of_ble_eq_true rfl, Nat.le_of_ble_eq_true rfl⟩) dX8_setSlips_6 rfl hl.1 rfl (Nat.le_of_ble_eq_true rfl) ⟨(Nat.zero_le _), (Nat.zero_le _)⟩ (fun r9 S9 H locs hp9 hX => ?_)
  obtain rfl : r9 = bI (inC k0 0 4) := by rw [hp9, (show inL k0.toInt64 (lN 0) ((4 : Int64)) = inC k0 0 4 from inL_c (by first | decide | omega) (by first | decide | omega))]
  replace hX : HH G A s.heap (wM G am (S)) H locs := hX
  refine b_if_ne hC (b := inC k0 0 4) (tgt := 15) dX8_setSlips_9 (by decide) (fun c9 => ?_) (fun c9 => ?_)
  · skip
    obtain ⟨kk, hkk, hkk2, rfl⟩ := inC_t c9 (by omega)
    refine lv_aload_n hC.1 hC.2.1 dX8_setSlips_15 rfl (lv_at hl 0 rfl) ?_
    refine g_m_all hC fi_X8_setSlips_X8 hK hX (wd9 hC 2 rfl) dX8_setSlips_16 ?_
    refine lv_iconst (v := nI (2)) hC.1 hC.2.1 dX8_setSlips_19 rfl ?_
    refine l_m_all hC hK hX (i := 2) (by decide) dX8_setSlips_20 (v := aMost (m_all S)) rfl ?_
    refine lv_istore_n (lv' := [(2, .int (nI (aMost (m_all S)))), (0, .ref (am 0)), (1, .int (nI (kk)))]) hC.1 hC.2.1 dX8_setSlips_21 rfl hl (by decide) rfl (fun ls hl => ?_)
    refine lv_iload_n hC.1 hC.2.1 dX8_setSlips_22 rfl (lv_at hl 0 rfl) ?_
    refine lv_iload_n hC.1 hC.2.1 dX8_setSlips_23 rfl (lv_at hl 2 rfl) ?_
    refine n_icmp_ne hC (a := aMost (m_all S)) (b := kk) (tgt := 30) dX8_setSlips_24 (by decide) (by omega) (by omega) (fun c24 => ?_) (fun c24 => ?_)
    · skip
      refine lv_aload_n hC.1 hC.2.1 dX8_setSlips_30 rfl (lv_at hl 1 rfl) ?_
      refine cv_V (As := []) (rest := []) hC hK hA hX (c_X8_remember l G am (S) ) (cwV 0 hC.2.2.2.2 gX8_setSlips_X8_remember rfl rfl rfl hd_X8_remember ⟨Nat.le_of_ble_eq_true rfl, Nat.le_of_ble_eq_true rfl⟩) (ci := 8) (q := (RX8, TX8, 21)) rfl (q0 := 0) rfl dX8_setSlips_31 rfl hl.1 rfl (Nat.le_of_ble_eq_true rfl) ⟨(Nat.zero_le _), (Nat.zero_le _)⟩ (fun S9 H locs hp9 hX => ?_)
      obtain ⟨kp31, hS9, hkp31⟩ := hp9
      rw [hS9] at hX
      replace hX : HH G A s.heap (wM G am (w_kept (S) (kp31))) H locs := hX
      refine lv_aload_n hC.1 hC.2.1 dX8_setSlips_34 rfl (lv_at hl 1 rfl) ?_
      refine g_m_all hC fi_X8_setSlips_X8 hK hX (wd9 hC 2 rfl) dX8_setSlips_35 ?_
      refine lv_iconst (v := nI (2)) hC.1 hC.2.1 dX8_setSlips_38 rfl ?_
      refine lv_iload_n hC.1 hC.2.1 dX8_setSlips_39 rfl (lv_at hl 2 rfl) ?_
      refine s_m_all hC hK hX (i := 2) (v := kk) (by decide) dX8_setSlips_40 (fun H locs hX => ?_)
      replace hX : HH G A s.heap (wM G am (w_kept (w_all (S) (va_up (m_all S) (2) (kk))) (kp31))) H locs := hX
      refine lv_aload_n hC.1 hC.2.1 dX8_setSlips_41 rfl (lv_at hl 1 rfl) ?_
      refine lv_iload_n hC.1 hC.2.1 dX8_setSlips_42 rfl (lv_at hl 0 rfl) ?_
      refine cv_I (As := [.int (nI (aMost (m_all S)))]) (rest := []) hC hK hA hX (c_X8_acted l G am (w_kept (w_all (S) (va_up (m_all S) (2) (kk))) (kp31)) hhl (nI (aMost (m_all S)))) (cwV 1 hC.2.2.2.2 gX8_setSlips_X8_acted rfl rfl rfl hd_X8_acted ⟨Nat.le_of_ble_eq_true rfl, Nat.le_of_ble_eq_true rfl⟩) (ci := 8) (q := (RX8, TX8, 21)) rfl (q0 := 0) rfl dX8_setSlips_43 rfl hl.1 rfl (Nat.le_of_ble_eq_true rfl) ⟨(Nat.zero_le _), (Nat.zero_le _)⟩ (fun r9 S9 H locs hp9 hX => ?_)
      obtain ⟨h9, hh43, hS9, hrec43⟩ := hp9
      rw [hS9] at hX
      obtain rfl : r9 = _ := h9
      replace hX : HH G A s.heap (wM G am (w_hlong (w_hist (w_kept (w_all (S) (va_up (m_all S) (2) (kk))) (kp31)) (hh43)) (mHl (w_kept (w_all (S) (va_up (m_all S) (2) (kk))) (kp31)) + 1))) H locs := hX
      refine r_ireturn hC hr hlk hX dX8_setSlips_46 ?_
      exact Or.inr ⟨kk, rfl, hkk2, Or.inr ⟨by omega, rfl, rfl, act_of hrec43 rfl rfl hkp31 rfl rfl rfl rfl⟩⟩
    · skip
      refine lv_bipush (v := (-5)) hC.1 hC.2.1 dX8_setSlips_27 (by decide +kernel) ?_
      refine r_ireturn hC hr hlk hX dX8_setSlips_29 ?_
      exact Or.inr ⟨kk, rfl, hkk2, Or.inl ⟨by omega, rfl, rfl⟩⟩
  · skip
    refine lv_bipush (v := (-2)) hC.1 hC.2.1 dX8_setSlips_12 (by decide +kernel) ?_
    refine r_ireturn hC hr hlk hX dX8_setSlips_14 ?_
    exact Or.inl ⟨inC_f c9, rfl, rfl⟩
theorem fi_X8_type_X8 : ∀ w ∈ wsX80, w ∈ wsX8_type := by decide +kernel
set_option maxHeartbeats 4000000 in
set_option maxRecDepth 100000 in
theorem c_X8_type (l : Launch) (G : GX) (am : Nat → Nat) (S : MS) (hok : okM S) (c0 : Nat) (hc0 : c0 < 65536) : CtI l yX8_type wsX8_type { frames := 0, cells := 0, slots := 0, locals := 0 } G (wM G am) (S) [.ref (am 0), .int (nI (c0))] (fun r S' => (¬ m_padLong S < 60 ∧ r = -3 ∧ S' = S) ∨ (m_padLong S < 60 ∧ r = nI (m_padLong S + 1) ∧ S' = w_padLong (w_pad S (va_up (m_pad S) (m_padLong S) c0)) (m_padLong S + 1))) 0 0 := by
  refine CtI.of (cc := cX8_type) (maxL := 2) (ret := some .int) (by decide +kernel) rfl (Nat.le_of_ble_eq_true rfl) ?_
  intro p e s m args below meth c ls A hC hr hlk hin hK hA hX hl
  have hl : lv_has ls 2 [(0, .ref (am 0)), (1, .int (nI (c0)))] := hl
  have hokM := hok
  obtain ⟨hokk, hhl, hhs, hsn, hit, hpl0, hpd0⟩ := hok
  obtain ⟨hLn, hPc, hMs, hTx, hPt⟩ := id hokk
  refine lv_aload_n hC.1 hC.2.1 dX8_type_0 rfl (lv_at hl 0 rfl) ?_
  refine g_m_padLong hC fi_X8_type_X8 hK hX (wd9 hC 1 rfl) dX8_type_1 (v := m_padLong S) rfl ?_
  refine lv_bipush (v := nI (60)) hC.1 hC.2.1 dX8_type_4 (by decide +kernel) ?_
  refine n_icmp_ne hC (a := m_padLong S) (b := 60) (tgt := 12) dX8_type_6 (by decide) (by omega) (by decide) (fun c6 => ?_) (fun c6 => ?_)
  · skip
    refine lv_aload_n hC.1 hC.2.1 dX8_type_12 rfl (lv_at hl 0 rfl) ?_
    refine g_m_pad hC fi_X8_type_X8 hK hX (wd9 hC 2 rfl) dX8_type_13 ?_
    refine lv_aload_n hC.1 hC.2.1 dX8_type_16 rfl (lv_at hl 0 rfl) ?_
    refine g_m_padLong hC fi_X8_type_X8 hK hX (wd9 hC 1 rfl) dX8_type_17 (v := m_padLong S) rfl ?_
    refine lv_iload_n hC.1 hC.2.1 dX8_type_20 rfl (lv_at hl 1 rfl) ?_
    refine s_m_pad hC hK hX (i := m_padLong S) (v := c0) (by omega) dX8_type_21 (fun H locs hX => ?_)
    replace hX : HH G A s.heap (wM G am (w_pad (S) (va_up (m_pad S) (m_padLong S) (c0)))) H locs := hX
    refine lv_aload_n hC.1 hC.2.1 dX8_type_22 rfl (lv_at hl 0 rfl) ?_
    refine lv_dup hC.1 hC.2.1 dX8_type_23 rfl ?_
    refine g_m_padLong hC fi_X8_type_X8 hK hX (wd9 hC 1 rfl) dX8_type_24 (v := m_padLong S) rfl ?_
    refine lv_iconst (v := nI (1)) hC.1 hC.2.1 dX8_type_27 rfl ?_
    refine n_add hC (a := m_padLong S) (b := 1) dX8_type_28 ?_
    refine p_m_padLong hC fi_X8_type_X8 hK hX (v := (m_padLong S) + (1)) (wd9 hC 1 rfl) dX8_type_29 (fun H locs hX => ?_)
    replace hX : HH G A s.heap (wM G am (w_padLong (w_pad (S) (va_up (m_pad S) (m_padLong S) (c0))) ((m_padLong S) + (1)))) H locs := hX
    refine lv_aload_n hC.1 hC.2.1 dX8_type_32 rfl (lv_at hl 0 rfl) ?_
    refine g_m_padLong hC fi_X8_type_X8 hK hX (wd9 hC 1 rfl) dX8_type_33 (v := (m_padLong S) + (1)) rfl ?_
    refine r_ireturn hC hr hlk hX dX8_type_36 ?_
    exact Or.inr ⟨by omega, rfl, rfl⟩
  · skip
    refine lv_bipush (v := (-3)) hC.1 hC.2.1 dX8_type_9 (by decide +kernel) ?_
    refine r_ireturn hC hr hlk hX dX8_type_11 ?_
    exact Or.inl ⟨by omega, rfl, rfl⟩
theorem fi_X8_clearPad_X8 : ∀ w ∈ wsX80, w ∈ wsX8_clearPad := by decide +kernel
set_option maxHeartbeats 4000000 in
set_option maxRecDepth 100000 in
theorem c_X8_clearPad (l : Launch) (G : GX) (am : Nat → Nat) (S : MS)  : CtI l yX8_clearPad wsX8_clearPad { frames := 0, cells := 0, slots := 0, locals := 0 } G (wM G am) (S) [.ref (am 0)] (fun r S' => r = nI (m_padLong S) ∧ S' = w_padLong S 0) 0 0 := by
  refine CtI.of (cc := cX8_clearPad) (maxL := 2) (ret := some .int) (by decide +kernel) rfl (Nat.le_of_ble_eq_true rfl) ?_
  intro p e s m args below meth c ls A hC hr hlk hin hK hA hX hl
  have hl : lv_has ls 2 [(0, .ref (am 0))] := hl
  refine lv_aload_n hC.1 hC.2.1 dX8_clearPad_0 rfl (lv_at hl 0 rfl) ?_
  refine g_m_padLong hC fi_X8_clearPad_X8 hK hX (wd9 hC 1 rfl) dX8_clearPad_1 (v := m_padLong S) rfl ?_
  refine lv_istore_n (lv' := [(1, .int (nI (m_padLong S))), (0, .ref (am 0))]) hC.1 hC.2.1 dX8_clearPad_4 rfl hl (by decide) rfl (fun ls hl => ?_)
  refine lv_aload_n hC.1 hC.2.1 dX8_clearPad_5 rfl (lv_at hl 1 rfl) ?_
  refine lv_iconst (v := nI (0)) hC.1 hC.2.1 dX8_clearPad_6 rfl ?_
  refine p_m_padLong hC fi_X8_clearPad_X8 hK hX (v := 0) (wd9 hC 1 rfl) dX8_clearPad_7 (fun H locs hX => ?_)
  replace hX : HH G A s.heap (wM G am (w_padLong (S) (0))) H locs := hX
  refine lv_iload_n hC.1 hC.2.1 dX8_clearPad_10 rfl (lv_at hl 0 rfl) ?_
  refine r_ireturn hC hr hlk hX dX8_clearPad_11 ?_
  exact ⟨rfl, rfl⟩
theorem fi_X8_keep_X8 : ∀ w ∈ wsX80, w ∈ wsX8_keep := by decide +kernel
set_option maxHeartbeats 4000000 in
set_option maxRecDepth 100000 in
theorem c_X8_keep (l : Launch) (G : GX) (am : Nat → Nat) (S : MS) (hok : okM S)  : CtI l yX8_keep wsX8_keep { frames := 0, cells := 0, slots := 0, locals := 0 } G (wM G am) (S) [.ref (am 0)] (fun r S' => r = nI (aLen (m_all S)) ∧ ∃ f, S' = w_isTaken (w_snap S f) 1 ∧ ∀ i, i < 496 → f i = m_all S i) 0 0 := by
  refine CtI.of (cc := cX8_keep) (maxL := 2) (ret := some .int) (by decide +kernel) rfl (Nat.le_of_ble_eq_true rfl) ?_
  intro p e s m args below meth c ls A hC hr hlk hin hK hA hX hl
  have hl : lv_has ls 2 [(0, .ref (am 0))] := hl
  have hokM := hok
  obtain ⟨hokk, hhl, hhs, hsn, hit, hpl0, hpd0⟩ := hok
  obtain ⟨hLn, hPc, hMs, hTx, hPt⟩ := id hokk
  refine lv_iconst (v := nI (0)) hC.1 hC.2.1 dX8_keep_0 rfl ?_
  refine lv_istore_n (lv' := [(1, .int (nI (0))), (0, .ref (am 0))]) hC.1 hC.2.1 dX8_keep_1 rfl hl (by decide) rfl (fun ls hl => ?_)
  have loop2 : ∀ (n9 : Nat) (i : Nat) (f : Nat → Nat), (i ≤ 496) → (∀ j, j < i → f j = m_all S j) → 496 - i < n9 → ∀ (H : Heap) (locs : List Loc) (ls : Array Slot), HH G A s.heap (wM G am (w_snap (S) (f))) H locs → lv_has ls 2 [(1, .int (nI (i))), (0, .ref (am 0))] → W p l e { frames := 0, cells := 0, slots := 0, locals := 0 } s m args below meth c H locs 0 0 (EndI G (wM G am) A (fun r S' => r = nI (aLen (m_all S)) ∧ ∃ f, S' = w_isTaken (w_snap S f) 1 ∧ ∀ i, i < 496 → f i = m_all S i) below args s 0 0) (F0 m 2 ls []) := by
    intro n9
    induction n9 with
    | zero => intro i f hi hf hn9; exact absurd hn9 (Nat.not_lt_zero _)
    | succ n9 ih2 =>
      intro i f hi hf hn9 H locs ls hX hl
      refine lv_iload_n hC.1 hC.2.1 dX8_keep_2 rfl (lv_at hl 0 rfl) ?_
      refine lv_sipush (v := nI (496)) hC.1 hC.2.1 dX8_keep_3 (by decide +kernel) ?_
      refine n_icmp_ge hC (a := i) (b := 496) (tgt := 27) dX8_keep_6 (by decide) (by omega) (by decide) (fun c6 => ?_) (fun c6 => ?_)
      · skip
        refine lv_aload_n hC.1 hC.2.1 dX8_keep_27 rfl (lv_at hl 1 rfl) ?_
        refine lv_iconst (v := nI (1)) hC.1 hC.2.1 dX8_keep_28 rfl ?_
        refine p_m_isTaken hC fi_X8_keep_X8 hK hX (v := 1) (wd9 hC 3 rfl) dX8_keep_29 (fun H locs hX => ?_)
        replace hX : HH G A s.heap (wM G am (w_isTaken (w_snap (S) (f)) (1))) H locs := hX
        refine lv_aload_n hC.1 hC.2.1 dX8_keep_32 rfl (lv_at hl 1 rfl) ?_
        refine g_m_all hC fi_X8_keep_X8 hK hX (wd9 hC 2 rfl) dX8_keep_33 ?_
        refine lv_iconst (v := nI (0)) hC.1 hC.2.1 dX8_keep_36 rfl ?_
        refine l_m_all hC hK hX (i := 0) (by decide) dX8_keep_37 (v := aLen (m_all S)) rfl ?_
        refine r_ireturn hC hr hlk hX dX8_keep_38 ?_
        exact ⟨rfl, f, rfl, fun j hj => hf j (by omega)⟩
      · skip
        refine lv_aload_n hC.1 hC.2.1 dX8_keep_9 rfl (lv_at hl 1 rfl) ?_
        refine g_m_snap hC fi_X8_keep_X8 hK hX (wd9 hC 1 rfl) dX8_keep_10 ?_
        refine lv_iload_n hC.1 hC.2.1 dX8_keep_13 rfl (lv_at hl 0 rfl) ?_
        refine lv_aload_n hC.1 hC.2.1 dX8_keep_14 rfl (lv_at hl 1 rfl) ?_
        refine g_m_all hC fi_X8_keep_X8 hK hX (wd9 hC 2 rfl) dX8_keep_15 ?_
        refine lv_iload_n hC.1 hC.2.1 dX8_keep_18 rfl (lv_at hl 0 rfl) ?_
        refine l_m_all hC hK hX (i := i) (by omega) dX8_keep_19 (v := (m_all S) i) rfl ?_
        refine s_m_snap hC hK hX (i := i) (v := (m_all S) i) (by omega) dX8_keep_20 (fun H locs hX => ?_)
        replace hX : HH G A s.heap (wM G am (w_snap (S) (va_up (f) (i) ((m_all S) i)))) H locs := hX
        refine lv_iinc (v := nI (i + 1)) (lv' := [(1, .int (nI (i + 1))), (0, .ref (am 0))]) hC.1 hC.2.1 dX8_keep_21 hl (k := 0) rfl (n_inc1 _) (by decide) rfl (fun ls hl => ?_)
        refine lv_goto (tgt := 2) hC.1 hC.2.1 dX8_keep_24 (by decide) ?_
        refine ih2 (i + 1) (va_up (f) (i) ((m_all S) i)) ?_ ?_ ?_ _ _ ls hX (lv_sub hl [0, 1] rfl)
        · omega
        · exact fun j hj => by
            by_cases h : j = i
            · subst h; exact va_up_self _ _ _
            · rw [va_up_ne _ _ h]; exact hf j (by omega)
        · omega
  refine loop2 _ (0) (m_snap S) ?_ ?_ (Nat.lt_succ_self _) _ _ ls hX (lv_sub hl [0, 1] rfl)
  · omega
  · exact fun j h => absurd h (Nat.not_lt_zero _)
theorem fi_X8_restore_X8 : ∀ w ∈ wsX80, w ∈ wsX8_restore := by decide +kernel
set_option maxHeartbeats 4000000 in
set_option maxRecDepth 100000 in
theorem c_X8_restore (l : Launch) (G : GX) (am : Nat → Nat) (S : MS) (hok : okM S)  : CtI l yX8_restore wsX8_restore { frames := 1, cells := 0, slots := 0, locals := 22 } G (wM G am) (S) [.ref (am 0)] (fun r S' => (m_isTaken S = 0 ∧ r = -5 ∧ S' = S) ∨ (m_isTaken S ≠ 0 ∧ r = nI (aLen (m_snap S)) ∧ (∀ i, i < 496 → m_all S' i = m_snap S i) ∧ actM S S')) 0 0 := by
  refine CtI.of (cc := cX8_restore) (maxL := 2) (ret := some .int) (by decide +kernel) rfl (Nat.le_of_ble_eq_true rfl) ?_
  intro p e s m args below meth c ls A hC hr hlk hin hK hA hX hl
  have hl : lv_has ls 2 [(0, .ref (am 0))] := hl
  have hokM := hok
  obtain ⟨hokk, hhl, hhs, hsn, hit, hpl0, hpd0⟩ := hok
  obtain ⟨hLn, hPc, hMs, hTx, hPt⟩ := id hokk
  refine lv_aload_n hC.1 hC.2.1 dX8_restore_0 rfl (lv_at hl 0 rfl) ?_
  refine g_m_isTaken hC fi_X8_restore_X8 hK hX (wd9 hC 1 rfl) dX8_restore_1 (v := m_isTaken S) rfl ?_
  refine n_if_ne hC (a := m_isTaken S) (tgt := 10) dX8_restore_4 (by decide) (by omega) (fun c4 => ?_) (fun c4 => ?_)
  · skip
    refine lv_aload_n hC.1 hC.2.1 dX8_restore_10 rfl (lv_at hl 0 rfl) ?_
    refine cv_V (As := []) (rest := []) hC hK hA hX (c_X8_remember l G am (S) ) (cwV 0 hC.2.2.2.2 gX8_restore_X8_remember rfl rfl rfl hd_X8_remember ⟨Nat.le_of_ble_eq_true rfl, Nat.le_of_ble_eq_true rfl⟩) (ci := 8) (q := (RX8, TX8, 21)) rfl (q0 := 0) rfl dX8_restore_11 rfl hl.1 rfl (Nat.le_of_ble_eq_true rfl) ⟨(Nat.zero_le _), (Nat.zero_le _)⟩ (fun S9 H locs hp9 hX => ?_)
    obtain ⟨kp11, hS9, hkp11⟩ := hp9
    rw [hS9] at hX
    replace hX : HH G A s.heap (wM G am (w_kept (S) (kp11))) H locs := hX
    refine lv_iconst (v := nI (0)) hC.1 hC.2.1 dX8_restore_14 rfl ?_
    refine lv_istore_n (lv' := [(1, .int (nI (0))), (0, .ref (am 0))]) hC.1 hC.2.1 dX8_restore_15 rfl hl (by decide) rfl (fun ls hl => ?_)
    have loop16 : ∀ (n9 : Nat) (i : Nat) (f : Nat → Nat), (i ≤ 496) → (∀ j, j < i → f j = m_snap S j) → 496 - i < n9 → ∀ (H : Heap) (locs : List Loc) (ls : Array Slot), HH G A s.heap (wM G am (w_kept (w_all (S) (f)) (kp11))) H locs → lv_has ls 2 [(1, .int (nI (i))), (0, .ref (am 0))] → W p l e { frames := 1, cells := 0, slots := 0, locals := 22 } s m args below meth c H locs 0 0 (EndI G (wM G am) A (fun r S' => (m_isTaken S = 0 ∧ r = -5 ∧ S' = S) ∨ (m_isTaken S ≠ 0 ∧ r = nI (aLen (m_snap S)) ∧ (∀ i, i < 496 → m_all S' i = m_snap S i) ∧ actM S S')) below args s 0 0) (F0 m 16 ls []) := by
      intro n9
      induction n9 with
      | zero => intro i f hi hf hn9; exact absurd hn9 (Nat.not_lt_zero _)
      | succ n9 ih16 =>
        intro i f hi hf hn9 H locs ls hX hl
        refine lv_iload_n hC.1 hC.2.1 dX8_restore_16 rfl (lv_at hl 0 rfl) ?_
        refine lv_sipush (v := nI (496)) hC.1 hC.2.1 dX8_restore_17 (by decide +kernel) ?_
        refine n_icmp_ge hC (a := i) (b := 496) (tgt := 41) dX8_restore_20 (by decide) (by omega) (by decide) (fun c20 => ?_) (fun c20 => ?_)
        · skip
          refine lv_aload_n hC.1 hC.2.1 dX8_restore_41 rfl (lv_at hl 1 rfl) ?_
          refine lv_aload_n hC.1 hC.2.1 dX8_restore_42 rfl (lv_at hl 1 rfl) ?_
          refine g_m_all hC fi_X8_restore_X8 hK hX (wd9 hC 2 rfl) dX8_restore_43 ?_
          refine lv_iconst (v := nI (0)) hC.1 hC.2.1 dX8_restore_46 rfl ?_
          refine l_m_all hC hK hX (i := 0) (by decide) dX8_restore_47 (v := aLen (m_snap S)) (hf 0 (by omega)) ?_
          refine cv_I (As := [.int (nI (aLen (m_snap S)))]) (rest := []) hC hK hA hX (c_X8_acted l G am (w_kept (w_all (S) (f)) (kp11)) hhl (nI (aLen (m_snap S)))) (cwV 1 hC.2.2.2.2 gX8_restore_X8_acted rfl rfl rfl hd_X8_acted ⟨Nat.le_of_ble_eq_true rfl, Nat.le_of_ble_eq_true rfl⟩) (ci := 8) (q := (RX8, TX8, 21)) rfl (q0 := 0) rfl dX8_restore_48 rfl hl.1 rfl (Nat.le_of_ble_eq_true rfl) ⟨(Nat.zero_le _), (Nat.zero_le _)⟩ (fun r9 S9 H locs hp9 hX => ?_)
          obtain ⟨h9, hh48, hS9, hrec48⟩ := hp9
          rw [hS9] at hX
          obtain rfl : r9 = _ := h9
          replace hX : HH G A s.heap (wM G am (w_hlong (w_hist (w_kept (w_all (S) (f)) (kp11)) (hh48)) (mHl (w_kept (w_all (S) (f)) (kp11)) + 1))) H locs := hX
          refine r_ireturn hC hr hlk hX dX8_restore_51 ?_
          exact Or.inr ⟨by omega, rfl, fun j hj => hf j (by omega), act_of hrec48 rfl rfl hkp11 rfl rfl rfl rfl⟩
        · skip
          refine lv_aload_n hC.1 hC.2.1 dX8_restore_23 rfl (lv_at hl 1 rfl) ?_
          refine g_m_all hC fi_X8_restore_X8 hK hX (wd9 hC 2 rfl) dX8_restore_24 ?_
          refine lv_iload_n hC.1 hC.2.1 dX8_restore_27 rfl (lv_at hl 0 rfl) ?_
          refine lv_aload_n hC.1 hC.2.1 dX8_restore_28 rfl (lv_at hl 1 rfl) ?_
          refine g_m_snap hC fi_X8_restore_X8 hK hX (wd9 hC 3 rfl) dX8_restore_29 ?_
          refine lv_iload_n hC.1 hC.2.1 dX8_restore_32 rfl (lv_at hl 0 rfl) ?_
          refine l_m_snap hC hK hX (i := i) (by omega) dX8_restore_33 (v := (m_snap S) i) rfl ?_
          refine s_m_all hC hK hX (i := i) (v := (m_snap S) i) (by omega) dX8_restore_34 (fun H locs hX => ?_)
          replace hX : HH G A s.heap (wM G am (w_kept (w_all (S) (va_up (f) (i) ((m_snap S) i))) (kp11))) H locs := hX
          refine lv_iinc (v := nI (i + 1)) (lv' := [(1, .int (nI (i + 1))), (0, .ref (am 0))]) hC.1 hC.2.1 dX8_restore_35 hl (k := 0) rfl (n_inc1 _) (by decide) rfl (fun ls hl => ?_)
          refine lv_goto (tgt := 16) hC.1 hC.2.1 dX8_restore_38 (by decide) ?_
          refine ih16 (i + 1) (va_up (f) (i) ((m_snap S) i)) ?_ ?_ ?_ _ _ ls hX (lv_sub hl [0, 1] rfl)
          · omega
          · exact fun j hj => by
              by_cases h : j = i
              · subst h; exact va_up_self _ _ _
              · rw [va_up_ne _ _ h]; exact hf j (by omega)
          · omega
    refine loop16 _ (0) (m_all S) ?_ ?_ (Nat.lt_succ_self _) _ _ ls hX (lv_sub hl [0, 1] rfl)
    · omega
    · exact fun j h => absurd h (Nat.not_lt_zero _)
  · skip
    refine lv_bipush (v := (-5)) hC.1 hC.2.1 dX8_restore_7 (by decide +kernel) ?_
    refine r_ireturn hC hr hlk hX dX8_restore_9 ?_
    exact Or.inl ⟨by omega, rfl, rfl⟩
theorem fi_X8_undo_X8 : ∀ w ∈ wsX80, w ∈ wsX8_undo := by decide +kernel
set_option maxHeartbeats 4000000 in
set_option maxRecDepth 100000 in
theorem c_X8_undo (l : Launch) (G : GX) (am : Nat → Nat) (S : MS) (hok : okM S)  : CtI l yX8_undo wsX8_undo { frames := 0, cells := 0, slots := 0, locals := 0 } G (wM G am) (S) [.ref (am 0)] (fun r S' => (m_hlong S = 0 ∧ r = -5 ∧ S' = S) ∨ (0 < m_hlong S ∧ r = nI (m_hlong S - 1) ∧ ∃ f, S' = w_all (w_hlong S (m_hlong S - 1)) f ∧ ∀ i, i < 496 → f i = m_hist S (496 * (m_hlong S - 1) + i))) 0 0 := by
  refine CtI.of (cc := cX8_undo) (maxL := 2) (ret := some .int) (by decide +kernel) rfl (Nat.le_of_ble_eq_true rfl) ?_
  intro p e s m args below meth c ls A hC hr hlk hin hK hA hX hl
  have hl : lv_has ls 2 [(0, .ref (am 0))] := hl
  have hokM := hok
  obtain ⟨hokk, hhl, hhs, hsn, hit, hpl0, hpd0⟩ := hok
  obtain ⟨hLn, hPc, hMs, hTx, hPt⟩ := id hokk
  refine lv_aload_n hC.1 hC.2.1 dX8_undo_0 rfl (lv_at hl 0 rfl) ?_
  refine g_m_hlong hC fi_X8_undo_X8 hK hX (wd9 hC 1 rfl) dX8_undo_1 (v := m_hlong S) rfl ?_
  refine n_if_ne hC (a := m_hlong S) (tgt := 10) dX8_undo_4 (by decide) (by omega) (fun c4 => ?_) (fun c4 => ?_)
  · skip
    refine lv_aload_n hC.1 hC.2.1 dX8_undo_10 rfl (lv_at hl 0 rfl) ?_
    refine lv_dup hC.1 hC.2.1 dX8_undo_11 rfl ?_
    refine g_m_hlong hC fi_X8_undo_X8 hK hX (wd9 hC 1 rfl) dX8_undo_12 (v := m_hlong S) rfl ?_
    refine lv_iconst (v := nI (1)) hC.1 hC.2.1 dX8_undo_15 rfl ?_
    refine n_sub hC (a := m_hlong S) (b := 1) dX8_undo_16 (by omega) ?_
    refine p_m_hlong hC fi_X8_undo_X8 hK hX (v := (m_hlong S) - (1)) (wd9 hC 1 rfl) dX8_undo_17 (fun H locs hX => ?_)
    replace hX : HH G A s.heap (wM G am (w_hlong (S) ((m_hlong S) - (1)))) H locs := hX
    refine lv_iconst (v := nI (0)) hC.1 hC.2.1 dX8_undo_20 rfl ?_
    refine lv_istore_n (lv' := [(1, .int (nI (0))), (0, .ref (am 0))]) hC.1 hC.2.1 dX8_undo_21 rfl hl (by decide) rfl (fun ls hl => ?_)
    have loop22 : ∀ (n9 : Nat) (i : Nat) (f : Nat → Nat), (i ≤ 496) → (∀ j, j < i → f j = m_hist S (496 * (m_hlong S - 1) + j)) → 496 - i < n9 → ∀ (H : Heap) (locs : List Loc) (ls : Array Slot), HH G A s.heap (wM G am (w_hlong (w_all (S) (f)) ((m_hlong S) - (1)))) H locs → lv_has ls 2 [(1, .int (nI (i))), (0, .ref (am 0))] → W p l e { frames := 0, cells := 0, slots := 0, locals := 0 } s m args below meth c H locs 0 0 (EndI G (wM G am) A (fun r S' => (m_hlong S = 0 ∧ r = -5 ∧ S' = S) ∨ (0 < m_hlong S ∧ r = nI (m_hlong S - 1) ∧ ∃ f, S' = w_all (w_hlong S (m_hlong S - 1)) f ∧ ∀ i, i < 496 → f i = m_hist S (496 * (m_hlong S - 1) + i))) below args s 0 0) (F0 m 22 ls []) := by
      intro n9
      induction n9 with
      | zero => intro i f hi hf hn9; exact absurd hn9 (Nat.not_lt_zero _)
      | succ n9 ih22 =>
        intro i f hi hf hn9 H locs ls hX hl
        refine lv_iload_n hC.1 hC.2.1 dX8_undo_22 rfl (lv_at hl 0 rfl) ?_
        refine lv_sipush (v := nI (496)) hC.1 hC.2.1 dX8_undo_23 (by decide +kernel) ?_
        refine n_icmp_ge hC (a := i) (b := 496) (tgt := 56) dX8_undo_26 (by decide) (by omega) (by decide) (fun c26 => ?_) (fun c26 => ?_)
        · skip
          refine lv_aload_n hC.1 hC.2.1 dX8_undo_56 rfl (lv_at hl 1 rfl) ?_
          refine g_m_hlong hC fi_X8_undo_X8 hK hX (wd9 hC 1 rfl) dX8_undo_57 (v := (m_hlong S) - (1)) rfl ?_
          refine r_ireturn hC hr hlk hX dX8_undo_60 ?_
          exact Or.inr ⟨by omega, rfl, f, rfl, fun j hj => hf j (by omega)⟩
        · skip
          refine lv_aload_n hC.1 hC.2.1 dX8_undo_29 rfl (lv_at hl 1 rfl) ?_
          refine g_m_all hC fi_X8_undo_X8 hK hX (wd9 hC 2 rfl) dX8_undo_30 ?_
          refine lv_iload_n hC.1 hC.2.1 dX8_undo_33 rfl (lv_at hl 0 rfl) ?_
          refine lv_aload_n hC.1 hC.2.1 dX8_undo_34 rfl (lv_at hl 1 rfl) ?_
          refine g_m_hist hC fi_X8_undo_X8 hK hX (wd9 hC 3 rfl) dX8_undo_35 ?_
          refine lv_sipush (v := nI (496)) hC.1 hC.2.1 dX8_undo_38 (by decide +kernel) ?_
          refine lv_aload_n hC.1 hC.2.1 dX8_undo_41 rfl (lv_at hl 1 rfl) ?_
          refine g_m_hlong hC fi_X8_undo_X8 hK hX (wd9 hC 1 rfl) dX8_undo_42 (v := (m_hlong S) - (1)) rfl ?_
          refine n_mul hC (a := 496) (b := (m_hlong S) - (1)) dX8_undo_45 ?_
          refine lv_iload_n hC.1 hC.2.1 dX8_undo_46 rfl (lv_at hl 0 rfl) ?_
          refine n_add hC (a := (496) * ((m_hlong S) - (1))) (b := i) dX8_undo_47 ?_
          refine l_m_hist hC hK hX (i := ((496) * ((m_hlong S) - (1))) + (i)) (by omega) dX8_undo_48 (v := (m_hist S) (((496) * ((m_hlong S) - (1))) + (i))) rfl ?_
          refine s_m_all hC hK hX (i := i) (v := (m_hist S) (((496) * ((m_hlong S) - (1))) + (i))) (by omega) dX8_undo_49 (fun H locs hX => ?_)
          replace hX : HH G A s.heap (wM G am (w_hlong (w_all (S) (va_up (f) (i) ((m_hist S) (((496) * ((m_hlong S) - (1))) + (i))))) ((m_hlong S) - (1)))) H locs := hX
          refine lv_iinc (v := nI (i + 1)) (lv' := [(1, .int (nI (i + 1))), (0, .ref (am 0))]) hC.1 hC.2.1 dX8_undo_50 hl (k := 0) rfl (n_inc1 _) (by decide) rfl (fun ls hl => ?_)
          refine lv_goto (tgt := 22) hC.1 hC.2.1 dX8_undo_53 (by decide) ?_
          refine ih22 (i + 1) (va_up (f) (i) ((m_hist S) (((496) * ((m_hlong S) - (1))) + (i)))) ?_ ?_ ?_ _ _ ls hX (lv_sub hl [0, 1] rfl)
          · omega
          · exact fun j hj => by
              by_cases h : j = i
              · subst h; exact va_up_self _ _ _
              · rw [va_up_ne _ _ h]; exact hf j (by omega)
          · omega
    refine loop22 _ (0) (m_all S) ?_ ?_ (Nat.lt_succ_self _) _ _ ls hX (lv_sub hl [0, 1] rfl)
    · omega
    · exact fun j h => absurd h (Nat.not_lt_zero _)
  · skip
    refine lv_bipush (v := (-5)) hC.1 hC.2.1 dX8_undo_7 (by decide +kernel) ?_
    refine r_ireturn hC hr hlk hX dX8_undo_9 ?_
    exact Or.inl ⟨by omega, rfl, rfl⟩
theorem fi_X8_at_X8 : ∀ w ∈ wsX80, w ∈ wsX8_at := by decide +kernel
set_option maxHeartbeats 4000000 in
set_option maxRecDepth 100000 in
theorem c_X8_at (l : Launch) (G : GX) (am : Nat → Nat) (S : MS) (hok : okM S) (k0 : Int32) : CtI l yX8_at wsX8_at { frames := 1, cells := 0, slots := 0, locals := 25 } G (wM G am) (S) [.ref (am 0), .int (k0)] (fun r S' => S' = S ∧ (((k0.toInt < 0 ∨ aLen (m_all S) ≤ k0.toInt) ∧ r = -1) ∨ ∃ k, k0 = nI k ∧ k < aLen (m_all S) ∧ r = nI (decod (aTx (m_all S) k)))) 0 0 := by
  refine CtI.of (cc := cX8_at) (maxL := 3) (ret := some .int) (by decide +kernel) rfl (Nat.le_of_ble_eq_true rfl) ?_
  intro p e s m args below meth c ls A hC hr hlk hin hK hA hX hl
  have hl : lv_has ls 3 [(0, .ref (am 0)), (1, .int (k0))] := hl
  have hokM := hok
  obtain ⟨hokk, hhl, hhs, hsn, hit, hpl0, hpd0⟩ := hok
  obtain ⟨hLn, hPc, hMs, hTx, hPt⟩ := id hokk
  refine lv_iload_n hC.1 hC.2.1 dX8_at_0 rfl (lv_at hl 1 rfl) ?_
  refine lv_i2l hC.1 hC.2.1 dX8_at_1 rfl ?_
  refine lv_lconst (v := lN 0) hC.1 hC.2.1 dX8_at_2 rfl ?_
  refine lv_aload_n hC.1 hC.2.1 dX8_at_3 rfl (lv_at hl 0 rfl) ?_
  refine g_m_all hC fi_X8_at_X8 hK hX (wd9 hC 1 rfl) dX8_at_4 ?_
  refine lv_iconst (v := nI (0)) hC.1 hC.2.1 dX8_at_7 rfl ?_
  refine l_m_all hC hK hX (i := 0) (by decide) dX8_at_8 (v := aLen (m_all S)) rfl ?_
  refine lv_i2l (v := lN (aLen (m_all S))) hC.1 hC.2.1 dX8_at_9 (nI_l (by omega)) ?_
  refine lv_lconst (v := lN 1) hC.1 hC.2.1 dX8_at_10 rfl ?_
  refine lv_lsub hC.1 hC.2.1 dX8_at_11 ?_
  refine ps_I (As := [.long (k0.toInt64), .long (lN 0), .long ((lN (aLen (m_all S))) - (lN 1))]) (rest := []) hC hK hA hX (c_X8_in l G (k0.toInt64) (lN 0) ((lN (aLen (m_all S))) - (lN 1))) (va_cwS 3 hC.2.2.2.2 gX8_at_X8_in rfl rfl rfl hd_X8_in_s ⟨Nat.le_of_ble_eq_true rfl, Nat.le_of_ble_eq_true rfl⟩) dX8_at_12 rfl hl.1 rfl (Nat.le_of_ble_eq_true rfl) ⟨(Nat.zero_le _), (Nat.zero_le _)⟩ (fun r9 S9 H locs hp9 hX => ?_)
  obtain rfl : r9 = bI (inR k0 (aLen (m_all S))) := by rw [hp9, (inL_r (n := aLen (m_all S)) (by omega))]
  replace hX : HH G A s.heap (wM G am (S)) H locs := hX
  refine b_if_ne hC (b := inR k0 (aLen (m_all S))) (tgt := 20) dX8_at_15 (by decide) (fun c15 => ?_) (fun c15 => ?_)
  · skip
    obtain ⟨kk, hkk, rfl⟩ := inR_t c15 (by omega)
    refine lv_aload_n hC.1 hC.2.1 dX8_at_20 rfl (lv_at hl 0 rfl) ?_
    refine g_m_all hC fi_X8_at_X8 hK hX (wd9 hC 1 rfl) dX8_at_21 ?_
    refine lv_iconst (v := nI (3)) hC.1 hC.2.1 dX8_at_24 rfl ?_
    refine lv_iload_n hC.1 hC.2.1 dX8_at_25 rfl (lv_at hl 1 rfl) ?_
    refine n_add hC (a := 3) (b := kk) dX8_at_26 ?_
    refine l_m_all hC hK hX (i := 3 + kk) (by omega) dX8_at_27 (v := aTx (m_all S) kk) rfl ?_
    refine lv_istore_n (lv' := [(2, .int (nI (aTx (m_all S) kk))), (0, .ref (am 0)), (1, .int (nI (kk)))]) hC.1 hC.2.1 dX8_at_28 rfl hl (by decide) rfl (fun ls hl => ?_)
    refine lv_iload_n hC.1 hC.2.1 dX8_at_29 rfl (lv_at hl 0 rfl) ?_
    refine lv_bipush (v := nI (26)) hC.1 hC.2.1 dX8_at_30 (by decide +kernel) ?_
    refine n_icmp_ne hC (a := aTx (m_all S) kk) (b := 26) (tgt := 40) dX8_at_32 (by decide) (by have := hTx kk (by omega); omega) (by decide) (fun c32 => ?_) (fun c32 => ?_)
    · skip
      refine lv_bipush (v := nI (97)) hC.1 hC.2.1 dX8_at_40 (by decide +kernel) ?_
      refine lv_iload_n hC.1 hC.2.1 dX8_at_42 rfl (lv_at hl 0 rfl) ?_
      refine n_add hC (a := 97) (b := aTx (m_all S) kk) dX8_at_43 ?_
      refine r_ireturn hC hr hlk hX dX8_at_44 ?_
      exact ⟨rfl, Or.inr ⟨kk, rfl, hkk, by unfold decod; first | rw [if_pos c32] | rw [if_neg c32]⟩⟩
    · skip
      refine lv_bipush (v := nI (32)) hC.1 hC.2.1 dX8_at_35 (by decide +kernel) ?_
      refine lv_goto (tgt := 44) hC.1 hC.2.1 dX8_at_37 (by decide) ?_
      refine r_ireturn hC hr hlk hX dX8_at_44 ?_
      exact ⟨rfl, Or.inr ⟨kk, rfl, hkk, by unfold decod; first | rw [if_pos c32] | rw [if_neg c32]⟩⟩
  · skip
    refine lv_iconst (v := (-1)) hC.1 hC.2.1 dX8_at_18 rfl ?_
    refine r_ireturn hC hr hlk hX dX8_at_19 ?_
    exact ⟨rfl, Or.inl ⟨inR_f c15, rfl⟩⟩
theorem hd_X8_isPattern : yX8_isPattern.cls = RX8 ∧ yX8_isPattern.cls ≠ "java/lang/invoke/MethodHandle" ∧ yX8_isPattern.cls ≠ "java/lang/invoke/VarHandle" ∧ (parseMethodDescriptor yX8_isPattern.desc).map (fun d => d.parameters.length) = some 1 := by decide +kernel
set_option maxHeartbeats 4000000 in
set_option maxRecDepth 100000 in
theorem c_X8_takes (l : Launch) (G : GX) (am : Nat → Nat) (S : MS) (hok : okM S) (p0 k0 : Int32) : CtI l yX8_takes wsX8_takes { frames := 2, cells := 0, slots := 0, locals := 46 } G (wM G am) (S) [.ref (am 0), .int (p0), .int (k0)] (fun r S' => S' = S ∧ (((isPm (m_all S) p0 = false ∨ ∃ j, p0 = nI j ∧ j < aPc (m_all S) ∧ (k0.toInt < 0 ∨ aPl (m_all S) j ≤ k0.toInt)) ∧ r = -1) ∨ ∃ j k, p0 = nI j ∧ j < aPc (m_all S) ∧ k0 = nI k ∧ k < aPl (m_all S) j ∧ r = nI (aTk (m_all S) j k))) 0 0 := by
  refine CtI.of (cc := cX8_takes) (maxL := 3) (ret := some .int) (by decide +kernel) rfl (Nat.le_of_ble_eq_true rfl) ?_
  intro p e s m args below meth c ls A hC hr hlk hin hK hA hX hl
  have hl : lv_has ls 3 [(0, .ref (am 0)), (1, .int (p0)), (2, .int (k0))] := hl
  have hokM := hok
  obtain ⟨hokk, hhl, hhs, hsn, hit, hpl0, hpd0⟩ := hok
  obtain ⟨hLn, hPc, hMs, hTx, hPt⟩ := id hokk
  refine lv_aload_n hC.1 hC.2.1 dX8_takes_0 rfl (lv_at hl 0 rfl) ?_
  refine lv_iload_n hC.1 hC.2.1 dX8_takes_1 rfl (lv_at hl 1 rfl) ?_
  refine cv_I (As := [.int (p0)]) (rest := []) hC hK hA hX (c_X8_isPattern l G am (S) hokk (p0)) (cwV 1 hC.2.2.2.2 gX8_takes_X8_isPattern rfl rfl rfl hd_X8_isPattern ⟨Nat.le_of_ble_eq_true rfl, Nat.le_of_ble_eq_true rfl⟩) (ci := 8) (q := (RX8, TX8, 21)) rfl (q0 := 0) rfl dX8_takes_2 rfl hl.1 rfl (Nat.le_of_ble_eq_true rfl) ⟨(Nat.zero_le _), (Nat.zero_le _)⟩ (fun r9 S9 H locs hp9 hX => ?_)
  obtain ⟨rfl, hS9⟩ := hp9
  rw [hS9] at hX
  replace hX : HH G A s.heap (wM G am (S)) H locs := hX
  refine b_if_eq hC (b := isPm (m_all S) (p0)) (tgt := 34) dX8_takes_5 (by decide) (fun c5 => ?_) (fun c5 => ?_)
  · skip
    refine lv_iconst (v := (-1)) hC.1 hC.2.1 dX8_takes_34 rfl ?_
    refine r_ireturn hC hr hlk hX dX8_takes_35 ?_
    first | exact ⟨rfl, Or.inl ⟨Or.inl c5, rfl⟩⟩ | exact ⟨rfl, Or.inl ⟨Or.inr ⟨pj, rfl, hpj, inR_f c22⟩, rfl⟩⟩ | exact ⟨rfl, Or.inr ⟨pj, kk, rfl, hpj, rfl, hkk, rfl⟩⟩
  · skip
    obtain ⟨pj, hpj, rfl⟩ := isPm_t c5
    have hp0 : pj < 6 := by omega
    obtain ⟨hpl, hbd, htk⟩ := hPt pj hp0
    refine lv_iload_n hC.1 hC.2.1 dX8_takes_8 rfl (lv_at hl 2 rfl) ?_
    refine lv_i2l hC.1 hC.2.1 dX8_takes_9 rfl ?_
    refine lv_lconst (v := lN 0) hC.1 hC.2.1 dX8_takes_10 rfl ?_
    refine lv_aload_n hC.1 hC.2.1 dX8_takes_11 rfl (lv_at hl 0 rfl) ?_
    refine lv_iload_n hC.1 hC.2.1 dX8_takes_12 rfl (lv_at hl 1 rfl) ?_
    refine cv_I (As := [.int (nI (pj))]) (rest := [.long (lN 0), .long (k0.toInt64)]) hC hK hA hX (c_X8_places l G am (S) (pj) hp0) (cwV 1 hC.2.2.2.2 gX8_takes_X8_places rfl rfl rfl hd_X8_places ⟨Nat.le_of_ble_eq_true rfl, Nat.le_of_ble_eq_true rfl⟩) (ci := 8) (q := (RX8, TX8, 21)) rfl (q0 := 0) rfl dX8_takes_13 rfl hl.1 rfl (Nat.le_of_ble_eq_true rfl) ⟨(Nat.zero_le _), (Nat.zero_le _)⟩ (fun r9 S9 H locs hp9 hX => ?_)
    obtain ⟨rfl, hS9⟩ := hp9
    rw [hS9] at hX
    replace hX : HH G A s.heap (wM G am (S)) H locs := hX
    refine lv_i2l (v := lN (aPl (m_all S) (pj))) hC.1 hC.2.1 dX8_takes_16 (nI_l (by omega)) ?_
    refine lv_lconst (v := lN 1) hC.1 hC.2.1 dX8_takes_17 rfl ?_
    refine lv_lsub hC.1 hC.2.1 dX8_takes_18 ?_
    refine ps_I (As := [.long (k0.toInt64), .long (lN 0), .long ((lN (aPl (m_all S) (pj))) - (lN 1))]) (rest := []) hC hK hA hX (c_X8_in l G (k0.toInt64) (lN 0) ((lN (aPl (m_all S) (pj))) - (lN 1))) (va_cwS 3 hC.2.2.2.2 gX8_takes_X8_in rfl rfl rfl hd_X8_in_s ⟨Nat.le_of_ble_eq_true rfl, Nat.le_of_ble_eq_true rfl⟩) dX8_takes_19 rfl hl.1 rfl (Nat.le_of_ble_eq_true rfl) ⟨(Nat.zero_le _), (Nat.zero_le _)⟩ (fun r9 S9 H locs hp9 hX => ?_)
    obtain rfl : r9 = bI (inR k0 (aPl (m_all S) pj)) := by rw [hp9, (inL_r (n := aPl (m_all S) pj) (by omega))]
    replace hX : HH G A s.heap (wM G am (S)) H locs := hX
    refine b_if_eq hC (b := inR k0 (aPl (m_all S) pj)) (tgt := 34) dX8_takes_22 (by decide) (fun c22 => ?_) (fun c22 => ?_)
    · skip
      refine lv_iconst (v := (-1)) hC.1 hC.2.1 dX8_takes_34 rfl ?_
      refine r_ireturn hC hr hlk hX dX8_takes_35 ?_
      first | exact ⟨rfl, Or.inl ⟨Or.inl c5, rfl⟩⟩ | exact ⟨rfl, Or.inl ⟨Or.inr ⟨pj, rfl, hpj, inR_f c22⟩, rfl⟩⟩ | exact ⟨rfl, Or.inr ⟨pj, kk, rfl, hpj, rfl, hkk, rfl⟩⟩
    · skip
      obtain ⟨kk, hkk, rfl⟩ := inR_t c22 (by omega)
      refine lv_aload_n hC.1 hC.2.1 dX8_takes_25 rfl (lv_at hl 0 rfl) ?_
      refine lv_iload_n hC.1 hC.2.1 dX8_takes_26 rfl (lv_at hl 1 rfl) ?_
      refine lv_iload_n hC.1 hC.2.1 dX8_takes_27 rfl (lv_at hl 2 rfl) ?_
      refine cv_I (As := [.int (nI (pj)), .int (nI (kk))]) (rest := []) hC hK hA hX (c_X8_taking l G am (S) (pj) (kk) hp0 (by omega)) (cwV 2 hC.2.2.2.2 gX8_takes_X8_taking rfl rfl rfl hd_X8_taking ⟨Nat.le_of_ble_eq_true rfl, Nat.le_of_ble_eq_true rfl⟩) (ci := 8) (q := (RX8, TX8, 21)) rfl (q0 := 0) rfl dX8_takes_28 rfl hl.1 rfl (Nat.le_of_ble_eq_true rfl) ⟨(Nat.zero_le _), (Nat.zero_le _)⟩ (fun r9 S9 H locs hp9 hX => ?_)
      obtain ⟨rfl, hS9⟩ := hp9
      rw [hS9] at hX
      replace hX : HH G A s.heap (wM G am (S)) H locs := hX
      refine lv_goto (tgt := 35) hC.1 hC.2.1 dX8_takes_31 (by decide) ?_
      refine r_ireturn hC hr hlk hX dX8_takes_35 ?_
      first | exact ⟨rfl, Or.inl ⟨Or.inl c5, rfl⟩⟩ | exact ⟨rfl, Or.inl ⟨Or.inr ⟨pj, rfl, hpj, inR_f c22⟩, rfl⟩⟩ | exact ⟨rfl, Or.inr ⟨pj, kk, rfl, hpj, rfl, hkk, rfl⟩⟩
theorem fi_X8_count_X8 : ∀ w ∈ wsX80, w ∈ wsX8_count := by decide +kernel
theorem hd_X8_allEnds : yX8_allEnds.cls = RX8 ∧ yX8_allEnds.cls ≠ "java/lang/invoke/MethodHandle" ∧ yX8_allEnds.cls ≠ "java/lang/invoke/VarHandle" ∧ (parseMethodDescriptor yX8_allEnds.desc).map (fun d => d.parameters.length) = some 0 := by decide +kernel
theorem hd_X8_placesOfEnds : yX8_placesOfEnds.cls = RX8 ∧ yX8_placesOfEnds.cls ≠ "java/lang/invoke/MethodHandle" ∧ yX8_placesOfEnds.cls ≠ "java/lang/invoke/VarHandle" ∧ (parseMethodDescriptor yX8_placesOfEnds.desc).map (fun d => d.parameters.length) = some 0 := by decide +kernel
theorem hd_X8_blanks : yX8_blanks.cls = RX8 ∧ yX8_blanks.cls ≠ "java/lang/invoke/MethodHandle" ∧ yX8_blanks.cls ≠ "java/lang/invoke/VarHandle" ∧ (parseMethodDescriptor yX8_blanks.desc).map (fun d => d.parameters.length) = some 0 := by decide +kernel
set_option maxHeartbeats 4000000 in
set_option maxRecDepth 100000 in
theorem c_X8_count (l : Launch) (G : GX) (am : Nat → Nat) (S : MS) (hok : okM S) (k0 : Int32) : CtI l yX8_count wsX8_count { frames := 6, cells := 0, slots := 0, locals := 138 } G (wM G am) (S) [.ref (am 0), .int (k0)] (fun r S' => samM S S' ∧ (((k0.toInt < 0 ∨ 7 < k0.toInt) ∧ r = -2) ∨ (k0 = nI 0 ∧ r = nI (aLen (m_all S))) ∨ (k0 = nI 1 ∧ r = nI (aPc (m_all S))) ∨ (k0 = nI 2 ∧ r = nI (aMost (m_all S))) ∨ (k0 = nI 3 ∧ r = nI (sumN (fun p => cS (selAM (m_all S) p false) (aLen (m_all S) + 1)) (aPc (m_all S)))) ∨ (k0 = nI 4 ∧ r = nI (cS (anyM (m_all S) (aPc (m_all S))) (aLen (m_all S) + 1))) ∨ (k0 = nI 5 ∧ r = nI (cntV (aTx (m_all S)) 26 (aLen (m_all S)))) ∨ (k0 = nI 6 ∧ r = nI (m_hlong S)) ∨ (k0 = nI 7 ∧ r = nI (m_padLong S)))) 0 0 := by
  refine CtI.of (cc := cX8_count) (maxL := 2) (ret := some .int) (by decide +kernel) rfl (Nat.le_of_ble_eq_true rfl) ?_
  intro p e s m args below meth c ls A hC hr hlk hin hK hA hX hl
  have hl : lv_has ls 2 [(0, .ref (am 0)), (1, .int (k0))] := hl
  have hokM := hok
  obtain ⟨hokk, hhl, hhs, hsn, hit, hpl0, hpd0⟩ := hok
  obtain ⟨hLn, hPc, hMs, hTx, hPt⟩ := id hokk
  refine lv_iload_n hC.1 hC.2.1 dX8_count_0 rfl (lv_at hl 1 rfl) ?_
  by_cases hsw : k0.toInt < 0 ∨ 7 < k0.toInt
  · refine lv_tableOut (tgt := 94) hC.1 hC.2.1 dX8_count_1 hsw (by decide) ?_
    refine lv_bipush (v := (-2)) hC.1 hC.2.1 dX8_count_94 (by decide +kernel) ?_
    refine r_ireturn hC hr hlk hX dX8_count_96 ?_
    exact ⟨⟨rfl, rfl, rfl, rfl, rfl, rfl, rfl⟩, Or.inl ⟨hsw, rfl⟩⟩
  · obtain ⟨j9, hj9, rfl⟩ := tsw_of 7 hsw ⟨rfl, by decide⟩
    obtain rfl | rfl | rfl | rfl | rfl | rfl | rfl | rfl : j9 = 0 ∨ j9 = 1 ∨ j9 = 2 ∨ j9 = 3 ∨ j9 = 4 ∨ j9 = 5 ∨ j9 = 6 ∨ j9 = 7 := by omega
    · refine lv_tableIn (tgt := 48) (off := 47) hC.1 hC.2.1 dX8_count_1 (by decide +kernel) (by decide +kernel) (by decide +kernel) (by decide) ?_
      refine lv_aload_n hC.1 hC.2.1 dX8_count_48 rfl (lv_at hl 0 rfl) ?_
      refine g_m_all hC fi_X8_count_X8 hK hX (wd9 hC 1 rfl) dX8_count_49 ?_
      refine lv_iconst (v := nI (0)) hC.1 hC.2.1 dX8_count_52 rfl ?_
      refine l_m_all hC hK hX (i := 0) (by decide) dX8_count_53 (v := aLen (m_all S)) rfl ?_
      refine r_ireturn hC hr hlk hX dX8_count_54 ?_
      exact ⟨⟨rfl, rfl, rfl, rfl, rfl, rfl, rfl⟩, Or.inr (Or.inl ⟨rfl, rfl⟩)⟩
    · refine lv_tableIn (tgt := 55) (off := 54) hC.1 hC.2.1 dX8_count_1 (by decide +kernel) (by decide +kernel) (by decide +kernel) (by decide) ?_
      refine lv_aload_n hC.1 hC.2.1 dX8_count_55 rfl (lv_at hl 0 rfl) ?_
      refine g_m_all hC fi_X8_count_X8 hK hX (wd9 hC 1 rfl) dX8_count_56 ?_
      refine lv_iconst (v := nI (1)) hC.1 hC.2.1 dX8_count_59 rfl ?_
      refine l_m_all hC hK hX (i := 1) (by decide) dX8_count_60 (v := aPc (m_all S)) rfl ?_
      refine r_ireturn hC hr hlk hX dX8_count_61 ?_
      exact ⟨⟨rfl, rfl, rfl, rfl, rfl, rfl, rfl⟩, Or.inr (Or.inr (Or.inl ⟨rfl, rfl⟩))⟩
    · refine lv_tableIn (tgt := 62) (off := 61) hC.1 hC.2.1 dX8_count_1 (by decide +kernel) (by decide +kernel) (by decide +kernel) (by decide) ?_
      refine lv_aload_n hC.1 hC.2.1 dX8_count_62 rfl (lv_at hl 0 rfl) ?_
      refine g_m_all hC fi_X8_count_X8 hK hX (wd9 hC 1 rfl) dX8_count_63 ?_
      refine lv_iconst (v := nI (2)) hC.1 hC.2.1 dX8_count_66 rfl ?_
      refine l_m_all hC hK hX (i := 2) (by decide) dX8_count_67 (v := aMost (m_all S)) rfl ?_
      refine r_ireturn hC hr hlk hX dX8_count_68 ?_
      exact ⟨⟨rfl, rfl, rfl, rfl, rfl, rfl, rfl⟩, Or.inr (Or.inr (Or.inr (Or.inl ⟨rfl, rfl⟩)))⟩
    · refine lv_tableIn (tgt := 69) (off := 68) hC.1 hC.2.1 dX8_count_1 (by decide +kernel) (by decide +kernel) (by decide +kernel) (by decide) ?_
      refine lv_aload_n hC.1 hC.2.1 dX8_count_69 rfl (lv_at hl 0 rfl) ?_
      refine cv_I (As := []) (rest := []) hC hK hA hX (c_X8_allEnds l G am (S) hokk) (cwV 0 hC.2.2.2.2 gX8_count_X8_allEnds rfl rfl rfl hd_X8_allEnds ⟨Nat.le_of_ble_eq_true rfl, Nat.le_of_ble_eq_true rfl⟩) (ci := 8) (q := (RX8, TX8, 21)) rfl (q0 := 0) rfl dX8_count_70 rfl hl.1 rfl (Nat.le_of_ble_eq_true rfl) ⟨(Nat.zero_le _), (Nat.zero_le _)⟩ (fun r9 S9 H locs hp9 hX => ?_)
      obtain ⟨⟨fw70, bg70, ef70, ne70, hS9⟩, h9⟩ := hp9
      rw [hS9] at hX
      obtain rfl : r9 = nI (sumN (fun p => cS (selAM (m_all S) p false) (aLen (m_all S) + 1)) (aPc (m_all S))) := h9
      replace hX : HH G A s.heap (wM G am (w_nends (w_endAt (w_begin (w_fewest (S) (fw70)) (bg70)) (ef70)) (ne70))) H locs := hX
      refine r_ireturn hC hr hlk hX dX8_count_73 ?_
      exact ⟨⟨rfl, rfl, rfl, rfl, rfl, rfl, rfl⟩, Or.inr (Or.inr (Or.inr (Or.inr (Or.inl ⟨rfl, rfl⟩))))⟩
    · refine lv_tableIn (tgt := 74) (off := 73) hC.1 hC.2.1 dX8_count_1 (by decide +kernel) (by decide +kernel) (by decide +kernel) (by decide) ?_
      refine lv_aload_n hC.1 hC.2.1 dX8_count_74 rfl (lv_at hl 0 rfl) ?_
      refine cv_I (As := []) (rest := []) hC hK hA hX (c_X8_placesOfEnds l G am (S) hokk) (cwV 0 hC.2.2.2.2 gX8_count_X8_placesOfEnds rfl rfl rfl hd_X8_placesOfEnds ⟨Nat.le_of_ble_eq_true rfl, Nat.le_of_ble_eq_true rfl⟩) (ci := 8) (q := (RX8, TX8, 21)) rfl (q0 := 0) rfl dX8_count_75 rfl hl.1 rfl (Nat.le_of_ble_eq_true rfl) ⟨(Nat.zero_le _), (Nat.zero_le _)⟩ (fun r9 S9 H locs hp9 hX => ?_)
      obtain ⟨⟨fw75, bg75, ef75, ne75, ie75, hS9⟩, h9⟩ := hp9
      rw [hS9] at hX
      obtain rfl : r9 = nI (cS (anyM (m_all S) (aPc (m_all S))) (aLen (m_all S) + 1)) := h9
      replace hX : HH G A s.heap (wM G am (w_isEnd (w_nends (w_endAt (w_begin (w_fewest (S) (fw75)) (bg75)) (ef75)) (ne75)) (ie75))) H locs := hX
      refine r_ireturn hC hr hlk hX dX8_count_78 ?_
      exact ⟨⟨rfl, rfl, rfl, rfl, rfl, rfl, rfl⟩, Or.inr (Or.inr (Or.inr (Or.inr (Or.inr (Or.inl ⟨rfl, rfl⟩)))))⟩
    · refine lv_tableIn (tgt := 79) (off := 78) hC.1 hC.2.1 dX8_count_1 (by decide +kernel) (by decide +kernel) (by decide +kernel) (by decide) ?_
      refine lv_aload_n hC.1 hC.2.1 dX8_count_79 rfl (lv_at hl 0 rfl) ?_
      refine cv_I (As := []) (rest := []) hC hK hA hX (c_X8_blanks l G am (S) hLn hTx) (cwV 0 hC.2.2.2.2 gX8_count_X8_blanks rfl rfl rfl hd_X8_blanks ⟨Nat.le_of_ble_eq_true rfl, Nat.le_of_ble_eq_true rfl⟩) (ci := 8) (q := (RX8, TX8, 21)) rfl (q0 := 0) rfl dX8_count_80 rfl hl.1 rfl (Nat.le_of_ble_eq_true rfl) ⟨(Nat.zero_le _), (Nat.zero_le _)⟩ (fun r9 S9 H locs hp9 hX => ?_)
      obtain ⟨rfl, hS9⟩ := hp9
      rw [hS9] at hX
      replace hX : HH G A s.heap (wM G am (S)) H locs := hX
      refine r_ireturn hC hr hlk hX dX8_count_83 ?_
      exact ⟨⟨rfl, rfl, rfl, rfl, rfl, rfl, rfl⟩, Or.inr (Or.inr (Or.inr (Or.inr (Or.inr (Or.inr (Or.inl ⟨rfl, rfl⟩))))))⟩
    · refine lv_tableIn (tgt := 84) (off := 83) hC.1 hC.2.1 dX8_count_1 (by decide +kernel) (by decide +kernel) (by decide +kernel) (by decide) ?_
      refine lv_aload_n hC.1 hC.2.1 dX8_count_84 rfl (lv_at hl 0 rfl) ?_
      refine g_m_hlong hC fi_X8_count_X8 hK hX (wd9 hC 2 rfl) dX8_count_85 (v := m_hlong S) rfl ?_
      refine r_ireturn hC hr hlk hX dX8_count_88 ?_
      exact ⟨⟨rfl, rfl, rfl, rfl, rfl, rfl, rfl⟩, Or.inr (Or.inr (Or.inr (Or.inr (Or.inr (Or.inr (Or.inr (Or.inl ⟨rfl, rfl⟩)))))))⟩
    · refine lv_tableIn (tgt := 89) (off := 88) hC.1 hC.2.1 dX8_count_1 (by decide +kernel) (by decide +kernel) (by decide +kernel) (by decide) ?_
      refine lv_aload_n hC.1 hC.2.1 dX8_count_89 rfl (lv_at hl 0 rfl) ?_
      refine g_m_padLong hC fi_X8_count_X8 hK hX (wd9 hC 3 rfl) dX8_count_90 (v := m_padLong S) rfl ?_
      refine r_ireturn hC hr hlk hX dX8_count_93 ?_
      exact ⟨⟨rfl, rfl, rfl, rfl, rfl, rfl, rfl⟩, Or.inr (Or.inr (Or.inr (Or.inr (Or.inr (Or.inr (Or.inr (Or.inr (⟨rfl, rfl⟩))))))))⟩
theorem fi_X8_pattern_X8 : ∀ w ∈ wsX80, w ∈ wsX8_pattern := by decide +kernel
theorem hd_X8_fewestSlips : yX8_fewestSlips.cls = RX8 ∧ yX8_fewestSlips.cls ≠ "java/lang/invoke/MethodHandle" ∧ yX8_fewestSlips.cls ≠ "java/lang/invoke/VarHandle" ∧ (parseMethodDescriptor yX8_fewestSlips.desc).map (fun d => d.parameters.length) = some 1 := by decide +kernel
theorem hd_X8_firstBest : yX8_firstBest.cls = RX8 ∧ yX8_firstBest.cls ≠ "java/lang/invoke/MethodHandle" ∧ yX8_firstBest.cls ≠ "java/lang/invoke/VarHandle" ∧ (parseMethodDescriptor yX8_firstBest.desc).map (fun d => d.parameters.length) = some 1 := by decide +kernel
theorem hd_X8_wildPlaces : yX8_wildPlaces.cls = RX8 ∧ yX8_wildPlaces.cls ≠ "java/lang/invoke/MethodHandle" ∧ yX8_wildPlaces.cls ≠ "java/lang/invoke/VarHandle" ∧ (parseMethodDescriptor yX8_wildPlaces.desc).map (fun d => d.parameters.length) = some 1 := by decide +kernel
theorem hd_X8_isPlain : yX8_isPlain.cls = RX8 ∧ yX8_isPlain.cls ≠ "java/lang/invoke/MethodHandle" ∧ yX8_isPlain.cls ≠ "java/lang/invoke/VarHandle" ∧ (parseMethodDescriptor yX8_isPlain.desc).map (fun d => d.parameters.length) = some 1 := by decide +kernel
set_option maxHeartbeats 4000000 in
set_option maxRecDepth 100000 in
theorem c_X8_pattern (l : Launch) (G : GX) (am : Nat → Nat) (S : MS) (hok : okM S) (p0 k0 : Int32) : CtI l yX8_pattern wsX8_pattern { frames := 6, cells := 0, slots := 0, locals := 139 } G (wM G am) (S) [.ref (am 0), .int (p0), .int (k0)] (fun r S' => (isPm (m_all S) p0 = false ∧ r = -1 ∧ S' = S) ∨ ∃ j, p0 = nI j ∧ j < aPc (m_all S) ∧ samM S S' ∧ (((k0.toInt < 0 ∨ 7 < k0.toInt) ∧ r = -2) ∨ (k0 = nI 0 ∧ r = nI (aPl (m_all S) j)) ∨ (k0 = nI 1 ∧ r = nI (aBd (m_all S) j)) ∨ (k0 = nI 2 ∧ r = nI (cS (selAM (m_all S) j false) (aLen (m_all S) + 1))) ∨ (k0 = nI 3 ∧ r = nI (cS (selAM (m_all S) j true) (aLen (m_all S) + 1))) ∨ (k0 = nI 4 ∧ ∃ ef, LR ef (selAM (m_all S) j false) (aLen (m_all S) + 1) ∧ r = if cS (selAM (m_all S) j false) (aLen (m_all S) + 1) = 0 then (-5) else nI (minG (gM (m_all S) j ef) (cS (selAM (m_all S) j false) (aLen (m_all S) + 1)))) ∨ (k0 = nI 5 ∧ ∃ ef, LR ef (selAM (m_all S) j false) (aLen (m_all S) + 1) ∧ r = if cS (selAM (m_all S) j false) (aLen (m_all S) + 1) = 0 then (-5) else nI (ef (argG (gM (m_all S) j ef) (cS (selAM (m_all S) j false) (aLen (m_all S) + 1))))) ∨ (k0 = nI 6 ∧ r = nI (cntV (aTk (m_all S) j) 134217727 (aPl (m_all S) j))) ∨ (k0 = nI 7 ∧ r = bI (plainQ (aTk (m_all S) j) (aPl (m_all S) j))))) 0 0 := by
  refine CtI.of (cc := cX8_pattern) (maxL := 3) (ret := some .int) (by decide +kernel) rfl (Nat.le_of_ble_eq_true rfl) ?_
  intro p e s m args below meth c ls A hC hr hlk hin hK hA hX hl
  have hl : lv_has ls 3 [(0, .ref (am 0)), (1, .int (p0)), (2, .int (k0))] := hl
  have hokM := hok
  obtain ⟨hokk, hhl, hhs, hsn, hit, hpl0, hpd0⟩ := hok
  obtain ⟨hLn, hPc, hMs, hTx, hPt⟩ := id hokk
  refine lv_aload_n hC.1 hC.2.1 dX8_pattern_0 rfl (lv_at hl 0 rfl) ?_
  refine lv_iload_n hC.1 hC.2.1 dX8_pattern_1 rfl (lv_at hl 1 rfl) ?_
  refine cv_I (As := [.int (p0)]) (rest := []) hC hK hA hX (c_X8_isPattern l G am (S) hokk (p0)) (cwV 1 hC.2.2.2.2 gX8_pattern_X8_isPattern rfl rfl rfl hd_X8_isPattern ⟨Nat.le_of_ble_eq_true rfl, Nat.le_of_ble_eq_true rfl⟩) (ci := 8) (q := (RX8, TX8, 21)) rfl (q0 := 0) rfl dX8_pattern_2 rfl hl.1 rfl (Nat.le_of_ble_eq_true rfl) ⟨(Nat.zero_le _), (Nat.zero_le _)⟩ (fun r9 S9 H locs hp9 hX => ?_)
  obtain ⟨rfl, hS9⟩ := hp9
  rw [hS9] at hX
  replace hX : HH G A s.heap (wM G am (S)) H locs := hX
  refine b_if_ne hC (b := isPm (m_all S) (p0)) (tgt := 10) dX8_pattern_5 (by decide) (fun c5 => ?_) (fun c5 => ?_)
  · skip
    obtain ⟨pj, hpj, rfl⟩ := isPm_t c5
    have hp0 : pj < 6 := by omega
    obtain ⟨hpl, hbd, htk⟩ := hPt pj hp0
    refine lv_iload_n hC.1 hC.2.1 dX8_pattern_10 rfl (lv_at hl 2 rfl) ?_
    by_cases hsw : k0.toInt < 0 ∨ 7 < k0.toInt
    · refine lv_tableOut (tgt := 117) hC.1 hC.2.1 dX8_pattern_11 hsw (by decide) ?_
      refine lv_bipush (v := (-2)) hC.1 hC.2.1 dX8_pattern_117 (by decide +kernel) ?_
      refine r_ireturn hC hr hlk hX dX8_pattern_119 ?_
      exact Or.inr ⟨pj, rfl, hpj, ⟨rfl, rfl, rfl, rfl, rfl, rfl, rfl⟩, Or.inl ⟨hsw, rfl⟩⟩
    · obtain ⟨j9, hj9, rfl⟩ := tsw_of 7 hsw ⟨rfl, by decide⟩
      obtain rfl | rfl | rfl | rfl | rfl | rfl | rfl | rfl : j9 = 0 ∨ j9 = 1 ∨ j9 = 2 ∨ j9 = 3 ∨ j9 = 4 ∨ j9 = 5 ∨ j9 = 6 ∨ j9 = 7 := by omega
      · refine lv_tableIn (tgt := 56) (off := 45) hC.1 hC.2.1 dX8_pattern_11 (by decide +kernel) (by decide +kernel) (by decide +kernel) (by decide) ?_
        refine lv_aload_n hC.1 hC.2.1 dX8_pattern_56 rfl (lv_at hl 0 rfl) ?_
        refine g_m_all hC fi_X8_pattern_X8 hK hX (wd9 hC 1 rfl) dX8_pattern_57 ?_
        refine lv_bipush (v := nI (123)) hC.1 hC.2.1 dX8_pattern_60 (by decide +kernel) ?_
        refine lv_bipush (v := nI (62)) hC.1 hC.2.1 dX8_pattern_62 (by decide +kernel) ?_
        refine lv_iload_n hC.1 hC.2.1 dX8_pattern_64 rfl (lv_at hl 1 rfl) ?_
        refine n_mul hC (a := 62) (b := pj) dX8_pattern_65 ?_
        refine n_add hC (a := 123) (b := 62 * pj) dX8_pattern_66 ?_
        refine lv_iload_n hC.1 hC.2.1 dX8_pattern_67 rfl (lv_at hl 2 rfl) ?_
        refine n_add hC (a := (123) + (62 * pj)) (b := 0) dX8_pattern_68 ?_
        refine l_m_all hC hK hX (i := ((123) + (62 * pj)) + (0)) (by omega) dX8_pattern_69 (v := aPl (m_all S) pj) (congrArg (m_all S) (by omega)) ?_
        refine r_ireturn hC hr hlk hX dX8_pattern_70 ?_
        exact Or.inr ⟨pj, rfl, hpj, ⟨rfl, rfl, rfl, rfl, rfl, rfl, rfl⟩, Or.inr (Or.inl ⟨rfl, rfl⟩)⟩
      · refine lv_tableIn (tgt := 56) (off := 45) hC.1 hC.2.1 dX8_pattern_11 (by decide +kernel) (by decide +kernel) (by decide +kernel) (by decide) ?_
        refine lv_aload_n hC.1 hC.2.1 dX8_pattern_56 rfl (lv_at hl 0 rfl) ?_
        refine g_m_all hC fi_X8_pattern_X8 hK hX (wd9 hC 1 rfl) dX8_pattern_57 ?_
        refine lv_bipush (v := nI (123)) hC.1 hC.2.1 dX8_pattern_60 (by decide +kernel) ?_
        refine lv_bipush (v := nI (62)) hC.1 hC.2.1 dX8_pattern_62 (by decide +kernel) ?_
        refine lv_iload_n hC.1 hC.2.1 dX8_pattern_64 rfl (lv_at hl 1 rfl) ?_
        refine n_mul hC (a := 62) (b := pj) dX8_pattern_65 ?_
        refine n_add hC (a := 123) (b := 62 * pj) dX8_pattern_66 ?_
        refine lv_iload_n hC.1 hC.2.1 dX8_pattern_67 rfl (lv_at hl 2 rfl) ?_
        refine n_add hC (a := (123) + (62 * pj)) (b := 1) dX8_pattern_68 ?_
        refine l_m_all hC hK hX (i := ((123) + (62 * pj)) + (1)) (by omega) dX8_pattern_69 (v := aBd (m_all S) pj) (congrArg (m_all S) (by omega)) ?_
        refine r_ireturn hC hr hlk hX dX8_pattern_70 ?_
        exact Or.inr ⟨pj, rfl, hpj, ⟨rfl, rfl, rfl, rfl, rfl, rfl, rfl⟩, Or.inr (Or.inr (Or.inl ⟨rfl, rfl⟩))⟩
      · refine lv_tableIn (tgt := 71) (off := 60) hC.1 hC.2.1 dX8_pattern_11 (by decide +kernel) (by decide +kernel) (by decide +kernel) (by decide) ?_
        refine lv_aload_n hC.1 hC.2.1 dX8_pattern_71 rfl (lv_at hl 0 rfl) ?_
        refine lv_iload_n hC.1 hC.2.1 dX8_pattern_72 rfl (lv_at hl 1 rfl) ?_
        refine lv_iconst (v := nI (0)) hC.1 hC.2.1 dX8_pattern_73 rfl ?_
        refine cv_I (As := [.int (nI (pj)), .int (nI (0))]) (rest := []) hC hK hA hX (c_X8_manyEnds l G am (S) hokk (pj) hp0 false) (cwV 2 hC.2.2.2.2 gX8_pattern_X8_manyEnds rfl rfl rfl hd_X8_manyEnds ⟨Nat.le_of_ble_eq_true rfl, Nat.le_of_ble_eq_true rfl⟩) (ci := 8) (q := (RX8, TX8, 21)) rfl (q0 := 0) rfl dX8_pattern_74 rfl hl.1 rfl (Nat.le_of_ble_eq_true rfl) ⟨(Nat.zero_le _), (Nat.zero_le _)⟩ (fun r9 S9 H locs hp9 hX => ?_)
        obtain ⟨⟨fw74, bg74, ef74, hS9⟩, h9⟩ := hp9
        rw [hS9] at hX
        obtain rfl : r9 = nI (cS (selAM (m_all S) (pj) false) (aLen (m_all S) + 1)) := h9
        replace hX : HH G A s.heap (wM G am (w_nends (w_endAt (w_begin (w_fewest (S) (fw74)) (bg74)) (ef74)) (cS (selAM (m_all S) (pj) false) (aLen (m_all S) + 1)))) H locs := hX
        refine r_ireturn hC hr hlk hX dX8_pattern_77 ?_
        exact Or.inr ⟨pj, rfl, hpj, ⟨rfl, rfl, rfl, rfl, rfl, rfl, rfl⟩, Or.inr (Or.inr (Or.inr (Or.inl ⟨rfl, rfl⟩)))⟩
      · refine lv_tableIn (tgt := 78) (off := 67) hC.1 hC.2.1 dX8_pattern_11 (by decide +kernel) (by decide +kernel) (by decide +kernel) (by decide) ?_
        refine lv_aload_n hC.1 hC.2.1 dX8_pattern_78 rfl (lv_at hl 0 rfl) ?_
        refine lv_iload_n hC.1 hC.2.1 dX8_pattern_79 rfl (lv_at hl 1 rfl) ?_
        refine lv_iconst (v := nI (1)) hC.1 hC.2.1 dX8_pattern_80 rfl ?_
        refine cv_I (As := [.int (nI (pj)), .int (nI (1))]) (rest := []) hC hK hA hX (c_X8_manyEnds l G am (S) hokk (pj) hp0 true) (cwV 2 hC.2.2.2.2 gX8_pattern_X8_manyEnds rfl rfl rfl hd_X8_manyEnds ⟨Nat.le_of_ble_eq_true rfl, Nat.le_of_ble_eq_true rfl⟩) (ci := 8) (q := (RX8, TX8, 21)) rfl (q0 := 0) rfl dX8_pattern_81 rfl hl.1 rfl (Nat.le_of_ble_eq_true rfl) ⟨(Nat.zero_le _), (Nat.zero_le _)⟩ (fun r9 S9 H locs hp9 hX => ?_)
        obtain ⟨⟨fw81, bg81, ef81, hS9⟩, h9⟩ := hp9
        rw [hS9] at hX
        obtain rfl : r9 = nI (cS (selAM (m_all S) (pj) true) (aLen (m_all S) + 1)) := h9
        replace hX : HH G A s.heap (wM G am (w_nends (w_endAt (w_begin (w_fewest (S) (fw81)) (bg81)) (ef81)) (cS (selAM (m_all S) (pj) true) (aLen (m_all S) + 1)))) H locs := hX
        refine r_ireturn hC hr hlk hX dX8_pattern_84 ?_
        exact Or.inr ⟨pj, rfl, hpj, ⟨rfl, rfl, rfl, rfl, rfl, rfl, rfl⟩, Or.inr (Or.inr (Or.inr (Or.inr (Or.inl ⟨rfl, rfl⟩))))⟩
      · refine lv_tableIn (tgt := 85) (off := 74) hC.1 hC.2.1 dX8_pattern_11 (by decide +kernel) (by decide +kernel) (by decide +kernel) (by decide) ?_
        refine lv_aload_n hC.1 hC.2.1 dX8_pattern_85 rfl (lv_at hl 0 rfl) ?_
        refine lv_iload_n hC.1 hC.2.1 dX8_pattern_86 rfl (lv_at hl 1 rfl) ?_
        refine cv_I (As := [.int (nI (pj))]) (rest := []) hC hK hA hX (c_X8_fewestSlips l G am (S) hokk (pj) hp0) (cwV 1 hC.2.2.2.2 gX8_pattern_X8_fewestSlips rfl rfl rfl hd_X8_fewestSlips ⟨Nat.le_of_ble_eq_true rfl, Nat.le_of_ble_eq_true rfl⟩) (ci := 8) (q := (RX8, TX8, 21)) rfl (q0 := 0) rfl dX8_pattern_87 rfl hl.1 rfl (Nat.le_of_ble_eq_true rfl) ⟨(Nat.zero_le _), (Nat.zero_le _)⟩ (fun r9 S9 H locs hp9 hX => ?_)
        obtain ⟨fw87, bg87, ef87, ne87, hS9, hLR87, hr87⟩ := hp9
        rw [hS9] at hX
        replace hX : HH G A s.heap (wM G am (w_nends (w_endAt (w_begin (w_fewest (S) (fw87)) (bg87)) (ef87)) (ne87))) H locs := hX
        refine r_ireturn hC hr hlk hX dX8_pattern_90 ?_
        exact Or.inr ⟨pj, rfl, hpj, ⟨rfl, rfl, rfl, rfl, rfl, rfl, rfl⟩, Or.inr (Or.inr (Or.inr (Or.inr (Or.inr (Or.inl ⟨rfl, ef87, hLR87, hr87⟩)))))⟩
      · refine lv_tableIn (tgt := 91) (off := 80) hC.1 hC.2.1 dX8_pattern_11 (by decide +kernel) (by decide +kernel) (by decide +kernel) (by decide) ?_
        refine lv_aload_n hC.1 hC.2.1 dX8_pattern_91 rfl (lv_at hl 0 rfl) ?_
        refine lv_iload_n hC.1 hC.2.1 dX8_pattern_92 rfl (lv_at hl 1 rfl) ?_
        refine cv_I (As := [.int (nI (pj))]) (rest := []) hC hK hA hX (c_X8_firstBest l G am (S) hokk (pj) hp0) (cwV 1 hC.2.2.2.2 gX8_pattern_X8_firstBest rfl rfl rfl hd_X8_firstBest ⟨Nat.le_of_ble_eq_true rfl, Nat.le_of_ble_eq_true rfl⟩) (ci := 8) (q := (RX8, TX8, 21)) rfl (q0 := 0) rfl dX8_pattern_93 rfl hl.1 rfl (Nat.le_of_ble_eq_true rfl) ⟨(Nat.zero_le _), (Nat.zero_le _)⟩ (fun r9 S9 H locs hp9 hX => ?_)
        obtain ⟨fw93, bg93, ef93, ne93, hS9, hLR93, hr93⟩ := hp9
        rw [hS9] at hX
        replace hX : HH G A s.heap (wM G am (w_nends (w_endAt (w_begin (w_fewest (S) (fw93)) (bg93)) (ef93)) (ne93))) H locs := hX
        refine r_ireturn hC hr hlk hX dX8_pattern_96 ?_
        exact Or.inr ⟨pj, rfl, hpj, ⟨rfl, rfl, rfl, rfl, rfl, rfl, rfl⟩, Or.inr (Or.inr (Or.inr (Or.inr (Or.inr (Or.inr (Or.inl ⟨rfl, ef93, hLR93, hr93⟩))))))⟩
      · refine lv_tableIn (tgt := 97) (off := 86) hC.1 hC.2.1 dX8_pattern_11 (by decide +kernel) (by decide +kernel) (by decide +kernel) (by decide) ?_
        refine lv_aload_n hC.1 hC.2.1 dX8_pattern_97 rfl (lv_at hl 0 rfl) ?_
        refine lv_iload_n hC.1 hC.2.1 dX8_pattern_98 rfl (lv_at hl 1 rfl) ?_
        refine cv_I (As := [.int (nI (pj))]) (rest := []) hC hK hA hX (c_X8_wildPlaces l G am (S) (pj) hp0 hpl (fun j hj => Nat.lt_trans (htk j hj) (by decide))) (cwV 1 hC.2.2.2.2 gX8_pattern_X8_wildPlaces rfl rfl rfl hd_X8_wildPlaces ⟨Nat.le_of_ble_eq_true rfl, Nat.le_of_ble_eq_true rfl⟩) (ci := 8) (q := (RX8, TX8, 21)) rfl (q0 := 0) rfl dX8_pattern_99 rfl hl.1 rfl (Nat.le_of_ble_eq_true rfl) ⟨(Nat.zero_le _), (Nat.zero_le _)⟩ (fun r9 S9 H locs hp9 hX => ?_)
        obtain ⟨rfl, hS9⟩ := hp9
        rw [hS9] at hX
        replace hX : HH G A s.heap (wM G am (S)) H locs := hX
        refine r_ireturn hC hr hlk hX dX8_pattern_102 ?_
        exact Or.inr ⟨pj, rfl, hpj, ⟨rfl, rfl, rfl, rfl, rfl, rfl, rfl⟩, Or.inr (Or.inr (Or.inr (Or.inr (Or.inr (Or.inr (Or.inr (Or.inl ⟨rfl, rfl⟩)))))))⟩
      · refine lv_tableIn (tgt := 103) (off := 92) hC.1 hC.2.1 dX8_pattern_11 (by decide +kernel) (by decide +kernel) (by decide +kernel) (by decide) ?_
        refine lv_aload_n hC.1 hC.2.1 dX8_pattern_103 rfl (lv_at hl 0 rfl) ?_
        refine lv_iload_n hC.1 hC.2.1 dX8_pattern_104 rfl (lv_at hl 1 rfl) ?_
        refine cv_I (As := [.int (nI (pj))]) (rest := []) hC hK hA hX (c_X8_isPlain l G am (S) (pj) hp0 hpl (fun j hj => Nat.lt_trans (htk j hj) (by decide))) (cwV 1 hC.2.2.2.2 gX8_pattern_X8_isPlain rfl rfl rfl hd_X8_isPlain ⟨Nat.le_of_ble_eq_true rfl, Nat.le_of_ble_eq_true rfl⟩) (ci := 8) (q := (RX8, TX8, 21)) rfl (q0 := 0) rfl dX8_pattern_105 rfl hl.1 rfl (Nat.le_of_ble_eq_true rfl) ⟨(Nat.zero_le _), (Nat.zero_le _)⟩ (fun r9 S9 H locs hp9 hX => ?_)
        obtain ⟨rfl, hS9⟩ := hp9
        rw [hS9] at hX
        replace hX : HH G A s.heap (wM G am (S)) H locs := hX
        refine b_if_eq hC (b := plainQ (aTk (m_all S) (pj)) (aPl (m_all S) (pj))) (tgt := 115) dX8_pattern_108 (by decide) (fun c108 => ?_) (fun c108 => ?_)
        · skip
          refine lv_iconst (v := nI (0)) hC.1 hC.2.1 dX8_pattern_115 rfl ?_
          refine r_ireturn hC hr hlk hX dX8_pattern_116 ?_
          exact Or.inr ⟨pj, rfl, hpj, ⟨rfl, rfl, rfl, rfl, rfl, rfl, rfl⟩, Or.inr (Or.inr (Or.inr (Or.inr (Or.inr (Or.inr (Or.inr (Or.inr (⟨rfl, by first | exact bI_1 c108 | exact bI_0 c108⟩))))))))⟩
        · skip
          refine lv_iconst (v := nI (1)) hC.1 hC.2.1 dX8_pattern_111 rfl ?_
          refine lv_goto (tgt := 116) hC.1 hC.2.1 dX8_pattern_112 (by decide) ?_
          refine r_ireturn hC hr hlk hX dX8_pattern_116 ?_
          exact Or.inr ⟨pj, rfl, hpj, ⟨rfl, rfl, rfl, rfl, rfl, rfl, rfl⟩, Or.inr (Or.inr (Or.inr (Or.inr (Or.inr (Or.inr (Or.inr (Or.inr (⟨rfl, by first | exact bI_1 c108 | exact bI_0 c108⟩))))))))⟩
  · skip
    refine lv_iconst (v := (-1)) hC.1 hC.2.1 dX8_pattern_8 rfl ?_
    refine r_ireturn hC hr hlk hX dX8_pattern_9 ?_
    exact Or.inl ⟨c5, rfl, rfl⟩
theorem hd_X8_densityOf : yX8_densityOf.cls = RX8 ∧ yX8_densityOf.cls ≠ "java/lang/invoke/MethodHandle" ∧ yX8_densityOf.cls ≠ "java/lang/invoke/VarHandle" ∧ (parseMethodDescriptor yX8_densityOf.desc).map (fun d => d.parameters.length) = some 1 := by decide +kernel
set_option maxHeartbeats 4000000 in
set_option maxRecDepth 100000 in
theorem c_X8_density (l : Launch) (G : GX) (am : Nat → Nat) (S : MS) (hok : okM S) (p0 : Int32) : CtD l yX8_density wsX8_density { frames := 5, cells := 0, slots := 0, locals := 118 } G (wM G am) (S) [.ref (am 0), .int (p0)] (fun r S' => (isPm (m_all S) p0 = false ∧ r = 13830554455654793216 ∧ S' = S) ∨ ∃ j, p0 = nI j ∧ j < aPc (m_all S) ∧ samM S S' ∧ ∃ ef, LR ef (selAM (m_all S) j false) (aLen (m_all S) + 1) ∧ r = FP.ddiv (shS (gM (m_all S) j ef) (cS (selAM (m_all S) j false) (aLen (m_all S) + 1))) (FP.i2d (nI (aLen (m_all S) + 1)))) 0 0 := by
  refine CtD.of (cc := cX8_density) (maxL := 2) (ret := some .double) (by decide +kernel) rfl (Nat.le_of_ble_eq_true rfl) ?_
  intro p e s m args below meth c ls A hC hr hlk hin hK hA hX hl
  have hl : lv_has ls 2 [(0, .ref (am 0)), (1, .int (p0))] := hl
  have hokM := hok
  obtain ⟨hokk, hhl, hhs, hsn, hit, hpl0, hpd0⟩ := hok
  obtain ⟨hLn, hPc, hMs, hTx, hPt⟩ := id hokk
  refine lv_aload_n hC.1 hC.2.1 dX8_density_0 rfl (lv_at hl 0 rfl) ?_
  refine lv_iload_n hC.1 hC.2.1 dX8_density_1 rfl (lv_at hl 1 rfl) ?_
  refine cv_I (As := [.int (p0)]) (rest := []) hC hK hA hX (c_X8_isPattern l G am (S) hokk (p0)) (cwV 1 hC.2.2.2.2 gX8_density_X8_isPattern rfl rfl rfl hd_X8_isPattern ⟨Nat.le_of_ble_eq_true rfl, Nat.le_of_ble_eq_true rfl⟩) (ci := 8) (q := (RX8, TX8, 21)) rfl (q0 := 0) rfl dX8_density_2 rfl hl.1 rfl (Nat.le_of_ble_eq_true rfl) ⟨(Nat.zero_le _), (Nat.zero_le _)⟩ (fun r9 S9 H locs hp9 hX => ?_)
  obtain ⟨rfl, hS9⟩ := hp9
  rw [hS9] at hX
  replace hX : HH G A s.heap (wM G am (S)) H locs := hX
  refine b_if_eq hC (b := isPm (m_all S) (p0)) (tgt := 16) dX8_density_5 (by decide) (fun c5 => ?_) (fun c5 => ?_)
  · skip
    refine lv_ldc2d (v := (13830554455654793216 : UInt64)) hC.1 hC.2.1 hC.2.2.2.1 (wd9 hC 1 rfl) dX8_density_16 ?_
    refine r_dreturn hC hr hlk hX dX8_density_19 ?_
    first | exact Or.inl ⟨c5, rfl, rfl⟩ | exact Or.inr ⟨pj, rfl, hpj, ⟨rfl, rfl, rfl, rfl, rfl, rfl, rfl⟩, ef10, hLR10, hr10⟩
  · skip
    obtain ⟨pj, hpj, rfl⟩ := isPm_t c5
    have hp0 : pj < 6 := by omega
    obtain ⟨hpl, hbd, htk⟩ := hPt pj hp0
    refine lv_aload_n hC.1 hC.2.1 dX8_density_8 rfl (lv_at hl 0 rfl) ?_
    refine lv_iload_n hC.1 hC.2.1 dX8_density_9 rfl (lv_at hl 1 rfl) ?_
    refine cv_D (As := [.int (nI (pj))]) (rest := []) hC hK hA hX (c_X8_densityOf l G am (S) hokk (pj) hp0) (cwV 1 hC.2.2.2.2 gX8_density_X8_densityOf rfl rfl rfl hd_X8_densityOf ⟨Nat.le_of_ble_eq_true rfl, Nat.le_of_ble_eq_true rfl⟩) (ci := 8) (q := (RX8, TX8, 21)) rfl (q0 := 0) rfl dX8_density_10 rfl hl.1 rfl (Nat.le_of_ble_eq_true rfl) ⟨(Nat.zero_le _), (Nat.zero_le _)⟩ (fun r9 S9 H locs hp9 hX => ?_)
    obtain ⟨fw10, bg10, ef10, ne10, hS9, hLR10, hr10⟩ := hp9
    rw [hS9] at hX
    replace hX : HH G A s.heap (wM G am (w_nends (w_endAt (w_begin (w_fewest (S) (fw10)) (bg10)) (ef10)) (ne10))) H locs := hX
    refine lv_goto (tgt := 19) hC.1 hC.2.1 dX8_density_13 (by decide) ?_
    refine r_dreturn hC hr hlk hX dX8_density_19 ?_
    first | exact Or.inl ⟨c5, rfl, rfl⟩ | exact Or.inr ⟨pj, rfl, hpj, ⟨rfl, rfl, rfl, rfl, rfl, rfl, rfl⟩, ef10, hLR10, hr10⟩
theorem fi_X8_end_X8 : ∀ w ∈ wsX80, w ∈ wsX8_end := by decide +kernel
theorem hd_X8_beginOf : yX8_beginOf.cls = RX8 ∧ yX8_beginOf.cls ≠ "java/lang/invoke/MethodHandle" ∧ yX8_beginOf.cls ≠ "java/lang/invoke/VarHandle" ∧ (parseMethodDescriptor yX8_beginOf.desc).map (fun d => d.parameters.length) = some 2 := by decide +kernel
set_option maxHeartbeats 4000000 in
set_option maxRecDepth 100000 in
theorem c_X8_end (l : Launch) (G : GX) (am : Nat → Nat) (S : MS) (hok : okM S) (p0 r0 : Int32) (a0 : Bool) (w0 : Int32) : CtI l yX8_end wsX8_end { frames := 4, cells := 0, slots := 0, locals := 94 } G (wM G am) (S) [.ref (am 0), .int (p0), .int (r0), .int (bI (a0)), .int (w0)] (fun r S' => (isPm (m_all S) p0 = false ∧ r = -1 ∧ S' = S) ∨ ∃ j, p0 = nI j ∧ j < aPc (m_all S) ∧ (((r0 < 0 ∨ w0.toInt < 0 ∨ 2 < w0.toInt) ∧ r = -2 ∧ S' = S) ∨ ∃ rk w, r0 = nI rk ∧ rk < 2 ^ 31 ∧ w0 = nI w ∧ w ≤ 2 ∧ samM S S' ∧ ((cS (selAM (m_all S) j a0) (aLen (m_all S) + 1) ≤ rk ∧ r = -5) ∨ (rk < cS (selAM (m_all S) j a0) (aLen (m_all S) + 1) ∧ ∃ ef, LR ef (selAM (m_all S) j a0) (aLen (m_all S) + 1) ∧ r = if w = 0 then nI (ef rk) else if w = 1 then nI (dM (m_all S) j (ef rk)) else nI (bM (m_all S) j (ef rk)))))) 0 0 := by
  refine CtI.of (cc := cX8_end) (maxL := 5) (ret := some .int) (by decide +kernel) rfl (Nat.le_of_ble_eq_true rfl) ?_
  intro p e s m args below meth c ls A hC hr hlk hin hK hA hX hl
  have hl : lv_has ls 5 [(0, .ref (am 0)), (1, .int (p0)), (2, .int (r0)), (3, .int (bI (a0))), (4, .int (w0))] := hl
  have hokM := hok
  obtain ⟨hokk, hhl, hhs, hsn, hit, hpl0, hpd0⟩ := hok
  obtain ⟨hLn, hPc, hMs, hTx, hPt⟩ := id hokk
  refine lv_aload_n hC.1 hC.2.1 dX8_end_0 rfl (lv_at hl 0 rfl) ?_
  refine lv_iload_n hC.1 hC.2.1 dX8_end_1 rfl (lv_at hl 1 rfl) ?_
  refine cv_I (As := [.int (p0)]) (rest := []) hC hK hA hX (c_X8_isPattern l G am (S) hokk (p0)) (cwV 1 hC.2.2.2.2 gX8_end_X8_isPattern rfl rfl rfl hd_X8_isPattern ⟨Nat.le_of_ble_eq_true rfl, Nat.le_of_ble_eq_true rfl⟩) (ci := 8) (q := (RX8, TX8, 21)) rfl (q0 := 0) rfl dX8_end_2 rfl hl.1 rfl (Nat.le_of_ble_eq_true rfl) ⟨(Nat.zero_le _), (Nat.zero_le _)⟩ (fun r9 S9 H locs hp9 hX => ?_)
  obtain ⟨rfl, hS9⟩ := hp9
  rw [hS9] at hX
  replace hX : HH G A s.heap (wM G am (S)) H locs := hX
  refine b_if_ne hC (b := isPm (m_all S) (p0)) (tgt := 10) dX8_end_5 (by decide) (fun c5 => ?_) (fun c5 => ?_)
  · skip
    obtain ⟨pj, hpj, rfl⟩ := isPm_t c5
    have hp0 : pj < 6 := by omega
    obtain ⟨hpl, hbd, htk⟩ := hPt pj hp0
    refine lv_iload_n hC.1 hC.2.1 dX8_end_10 rfl (lv_at hl 2 rfl) ?_
    refine lv_if_lt hC.1 hC.2.1 (x := r0) (tgt := 27) dX8_end_11 (by decide) (fun c11 => ?_) (fun c11 => ?_)
    · skip
      refine lv_bipush (v := (-2)) hC.1 hC.2.1 dX8_end_27 (by decide +kernel) ?_
      refine r_ireturn hC hr hlk hX dX8_end_29 ?_
      first | exact Or.inr ⟨pj, rfl, hpj, Or.inl ⟨Or.inl c11, rfl, rfl⟩⟩ | exact Or.inr ⟨pj, rfl, hpj, Or.inl ⟨Or.inr (inC_f c24), rfl, rfl⟩⟩
    · skip
      obtain ⟨r0_n, h_r0, rfl⟩ := nI_of c11
      refine lv_iload hC.1 hC.2.1 dX8_end_14 (lv_at hl 4 rfl) ?_
      refine lv_i2l hC.1 hC.2.1 dX8_end_16 rfl ?_
      refine lv_lconst (v := lN 0) hC.1 hC.2.1 dX8_end_17 rfl ?_
      refine lv_ldc2 (v := (2 : Int64)) hC.1 hC.2.1 hC.2.2.2.1 (wd9 hC 1 rfl) dX8_end_18 ?_
      refine ps_I (As := [.long (w0.toInt64), .long (lN 0), .long ((2 : Int64))]) (rest := []) hC hK hA hX (c_X8_in l G (w0.toInt64) (lN 0) ((2 : Int64))) (va_cwS 3 hC.2.2.2.2 gX8_end_X8_in rfl rfl rfl hd_X8_in_s ⟨Nat.le_of_ble_eq_true rfl, Nat.le_of_ble_eq_true rfl⟩) dX8_end_21 rfl hl.1 rfl (Nat.le_of_ble_eq_true rfl) ⟨(Nat.zero_le _), (Nat.zero_le _)⟩ (fun r9 S9 H locs hp9 hX => ?_)
      obtain rfl : r9 = bI (inC w0 0 2) := by rw [hp9, (show inL w0.toInt64 (lN 0) ((2 : Int64)) = inC w0 0 2 from inL_c (by first | decide | omega) (by first | decide | omega))]
      replace hX : HH G A s.heap (wM G am (S)) H locs := hX
      refine b_if_ne hC (b := inC w0 0 2) (tgt := 30) dX8_end_24 (by decide) (fun c24 => ?_) (fun c24 => ?_)
      · skip
        obtain ⟨ww, hww, hww2, rfl⟩ := inC_t c24 (by omega)
        refine lv_aload_n hC.1 hC.2.1 dX8_end_30 rfl (lv_at hl 0 rfl) ?_
        refine lv_iload_n hC.1 hC.2.1 dX8_end_31 rfl (lv_at hl 1 rfl) ?_
        refine lv_iload_n hC.1 hC.2.1 dX8_end_32 rfl (lv_at hl 3 rfl) ?_
        refine cv_V (As := [.int (nI (pj)), .int (bI (a0))]) (rest := []) hC hK hA hX (c_X8_findsEnds l G am (S) hokk (pj) hp0 a0) (cwV 2 hC.2.2.2.2 gX8_end_X8_findsEnds rfl rfl rfl hd_X8_findsEnds ⟨Nat.le_of_ble_eq_true rfl, Nat.le_of_ble_eq_true rfl⟩) (ci := 8) (q := (RX8, TX8, 21)) rfl (q0 := 0) rfl dX8_end_33 rfl hl.1 rfl (Nat.le_of_ble_eq_true rfl) ⟨(Nat.zero_le _), (Nat.zero_le _)⟩ (fun S9 H locs hp9 hX => ?_)
        obtain ⟨fw33, bg33, ef33, hS9, hLR33, hck33⟩ := hp9
        rw [hS9] at hX
        replace hX : HH G A s.heap (wM G am (w_nends (w_endAt (w_begin (w_fewest (S) (fw33)) (bg33)) (ef33)) (cS (selAM (m_all S) (pj) a0) (aLen (m_all S) + 1)))) H locs := hX
        replace hLR33 : LR ef33 (selAM (m_all S) (pj) a0) (aLen (m_all S) + 1) := hLR33
        replace hck33 : ∀ ee, ee ≤ aLen (m_all S) → cellK fw33 bg33 (121 * aPl (m_all S) (pj) + ee) (kM (m_all S) (pj) ee) := hck33
        have hcl33 := cS_le (selAM (m_all S) (pj) a0) (aLen (m_all S) + 1)
        have hes33 : ∀ r, r < cS (selAM (m_all S) (pj) a0) (aLen (m_all S) + 1) → ef33 r < aLen (m_all S) + 1 ∧ dM (m_all S) (pj) (ef33 r) = gM (m_all S) (pj) ef33 r := fun r hr => gM_eq hMs hLR33 hr
        refine lv_iload_n hC.1 hC.2.1 dX8_end_36 rfl (lv_at hl 2 rfl) ?_
        refine lv_aload_n hC.1 hC.2.1 dX8_end_37 rfl (lv_at hl 0 rfl) ?_
        refine g_m_nends hC fi_X8_end_X8 hK hX (wd9 hC 2 rfl) dX8_end_38 (v := cS (selAM (m_all S) (pj) a0) (aLen (m_all S) + 1)) rfl ?_
        refine n_icmp_lt hC (a := r0_n) (b := cS (selAM (m_all S) (pj) a0) (aLen (m_all S) + 1)) (tgt := 47) dX8_end_41 (by decide) (by omega) (by omega) (fun c41 => ?_) (fun c41 => ?_)
        · skip
          have hef := hes33 r0_n (by omega)
          refine lv_iload hC.1 hC.2.1 dX8_end_47 (lv_at hl 4 rfl) ?_
          refine n_if_ne hC (a := ww) (tgt := 61) dX8_end_49 (by decide) (by omega) (fun c49 => ?_) (fun c49 => ?_)
          · skip
            refine lv_iload hC.1 hC.2.1 dX8_end_61 (lv_at hl 4 rfl) ?_
            refine lv_iconst (v := nI (1)) hC.1 hC.2.1 dX8_end_63 rfl ?_
            refine n_icmp_ne hC (a := ww) (b := 1) (tgt := 76) dX8_end_64 (by decide) (by omega) (by decide) (fun c64 => ?_) (fun c64 => ?_)
            · skip
              refine lv_aload_n hC.1 hC.2.1 dX8_end_76 rfl (lv_at hl 0 rfl) ?_
              refine lv_iload_n hC.1 hC.2.1 dX8_end_77 rfl (lv_at hl 1 rfl) ?_
              refine lv_iload_n hC.1 hC.2.1 dX8_end_78 rfl (lv_at hl 2 rfl) ?_
              refine cv_I (As := [.int (nI (pj)), .int (nI (r0_n))]) (rest := []) hC hK hA hX (c_X8_beginOf l G am (w_nends (w_endAt (w_begin (w_fewest (S) (fw33)) (bg33)) (ef33)) (cS (selAM (m_all S) (pj) a0) (aLen (m_all S) + 1))) (pj) (r0_n) (kM (m_all S) (pj) ((ef33) (r0_n))) hp0 hpl (by omega) (show ef33 r0_n ≤ 120 from by omega) (hck33 (ef33 r0_n) (by omega))) (cwV 2 hC.2.2.2.2 gX8_end_X8_beginOf rfl rfl rfl hd_X8_beginOf ⟨Nat.le_of_ble_eq_true rfl, Nat.le_of_ble_eq_true rfl⟩) (ci := 8) (q := (RX8, TX8, 21)) rfl (q0 := 0) rfl dX8_end_79 rfl hl.1 rfl (Nat.le_of_ble_eq_true rfl) ⟨(Nat.zero_le _), (Nat.zero_le _)⟩ (fun r9 S9 H locs hp9 hX => ?_)
              obtain ⟨h9, hS9⟩ := hp9
              rw [hS9] at hX
              obtain rfl : r9 = nI (bM (m_all S) (pj) ((ef33) (r0_n))) := h9
              replace hX : HH G A s.heap (wM G am (w_nends (w_endAt (w_begin (w_fewest (S) (fw33)) (bg33)) (ef33)) (cS (selAM (m_all S) (pj) a0) (aLen (m_all S) + 1)))) H locs := hX
              refine r_ireturn hC hr hlk hX dX8_end_82 ?_
              exact Or.inr ⟨pj, rfl, hpj, Or.inr ⟨r0_n, ww, rfl, by omega, rfl, hww2, ⟨rfl, rfl, rfl, rfl, rfl, rfl, rfl⟩, Or.inr ⟨by omega, ef33, hLR33, by first | rw [if_pos c49] | rw [if_neg c49, if_pos c64] | rw [if_neg c49, if_neg c64]⟩⟩⟩
            · skip
              refine lv_aload_n hC.1 hC.2.1 dX8_end_67 rfl (lv_at hl 0 rfl) ?_
              refine lv_iload_n hC.1 hC.2.1 dX8_end_68 rfl (lv_at hl 1 rfl) ?_
              refine lv_iload_n hC.1 hC.2.1 dX8_end_69 rfl (lv_at hl 2 rfl) ?_
              refine cv_I (As := [.int (nI (pj)), .int (nI (r0_n))]) (rest := []) hC hK hA hX (c_X8_slipsOf l G am (w_nends (w_endAt (w_begin (w_fewest (S) (fw33)) (bg33)) (ef33)) (cS (selAM (m_all S) (pj) a0) (aLen (m_all S) + 1))) (pj) (r0_n) (kM (m_all S) (pj) ((ef33) (r0_n))) hp0 hpl (by omega) (show ef33 r0_n ≤ 120 from by omega) (hck33 (ef33 r0_n) (by omega))) (cwV 2 hC.2.2.2.2 gX8_end_X8_slipsOf rfl rfl rfl hd_X8_slipsOf ⟨Nat.le_of_ble_eq_true rfl, Nat.le_of_ble_eq_true rfl⟩) (ci := 8) (q := (RX8, TX8, 21)) rfl (q0 := 0) rfl dX8_end_70 rfl hl.1 rfl (Nat.le_of_ble_eq_true rfl) ⟨(Nat.zero_le _), (Nat.zero_le _)⟩ (fun r9 S9 H locs hp9 hX => ?_)
              obtain ⟨h9, hS9⟩ := hp9
              rw [hS9] at hX
              obtain rfl : r9 = nI (dM (m_all S) (pj) ((ef33) (r0_n))) := h9
              replace hX : HH G A s.heap (wM G am (w_nends (w_endAt (w_begin (w_fewest (S) (fw33)) (bg33)) (ef33)) (cS (selAM (m_all S) (pj) a0) (aLen (m_all S) + 1)))) H locs := hX
              refine lv_goto (tgt := 82) hC.1 hC.2.1 dX8_end_73 (by decide) ?_
              refine r_ireturn hC hr hlk hX dX8_end_82 ?_
              exact Or.inr ⟨pj, rfl, hpj, Or.inr ⟨r0_n, ww, rfl, by omega, rfl, hww2, ⟨rfl, rfl, rfl, rfl, rfl, rfl, rfl⟩, Or.inr ⟨by omega, ef33, hLR33, by first | rw [if_pos c49] | rw [if_neg c49, if_pos c64] | rw [if_neg c49, if_neg c64]⟩⟩⟩
          · skip
            refine lv_aload_n hC.1 hC.2.1 dX8_end_52 rfl (lv_at hl 0 rfl) ?_
            refine g_m_endAt hC fi_X8_end_X8 hK hX (wd9 hC 3 rfl) dX8_end_53 ?_
            refine lv_iload_n hC.1 hC.2.1 dX8_end_56 rfl (lv_at hl 2 rfl) ?_
            refine l_m_endAt hC hK hX (i := r0_n) (by omega) dX8_end_57 (v := ef33 r0_n) rfl ?_
            refine lv_goto (tgt := 82) hC.1 hC.2.1 dX8_end_58 (by decide) ?_
            refine r_ireturn hC hr hlk hX dX8_end_82 ?_
            exact Or.inr ⟨pj, rfl, hpj, Or.inr ⟨r0_n, ww, rfl, by omega, rfl, hww2, ⟨rfl, rfl, rfl, rfl, rfl, rfl, rfl⟩, Or.inr ⟨by omega, ef33, hLR33, by first | rw [if_pos c49] | rw [if_neg c49, if_pos c64] | rw [if_neg c49, if_neg c64]⟩⟩⟩
        · skip
          refine lv_bipush (v := (-5)) hC.1 hC.2.1 dX8_end_44 (by decide +kernel) ?_
          refine r_ireturn hC hr hlk hX dX8_end_46 ?_
          exact Or.inr ⟨pj, rfl, hpj, Or.inr ⟨r0_n, ww, rfl, by omega, rfl, hww2, ⟨rfl, rfl, rfl, rfl, rfl, rfl, rfl⟩, Or.inl ⟨by omega, rfl⟩⟩⟩
      · skip
        refine lv_bipush (v := (-2)) hC.1 hC.2.1 dX8_end_27 (by decide +kernel) ?_
        refine r_ireturn hC hr hlk hX dX8_end_29 ?_
        first | exact Or.inr ⟨pj, rfl, hpj, Or.inl ⟨Or.inl c11, rfl, rfl⟩⟩ | exact Or.inr ⟨pj, rfl, hpj, Or.inl ⟨Or.inr (inC_f c24), rfl, rfl⟩⟩
  · skip
    refine lv_iconst (v := (-1)) hC.1 hC.2.1 dX8_end_8 rfl ?_
    refine r_ireturn hC hr hlk hX dX8_end_9 ?_
    exact Or.inl ⟨c5, rfl, rfl⟩
theorem fi_X8_column_X8 : ∀ w ∈ wsX80, w ∈ wsX8_column := by decide +kernel
set_option maxHeartbeats 4000000 in
set_option maxRecDepth 100000 in
theorem c_X8_column (l : Launch) (G : GX) (am : Nat → Nat) (S : MS) (hok : okM S) (p0 s0 k0 : Int32) : CtL l yX8_column wsX8_column { frames := 3, cells := 0, slots := 0, locals := 69 } G (wM G am) (S) [.ref (am 0), .int (p0), .int (s0), .int (k0)] (fun r S' => (isPm (m_all S) p0 = false ∧ r = -1 ∧ S' = S) ∨ ∃ j, p0 = nI j ∧ j < aPc (m_all S) ∧ (((s0.toInt < 0 ∨ aMost (m_all S) < s0.toInt ∨ k0.toInt < 0 ∨ aLen (m_all S) < k0.toInt) ∧ r = -2 ∧ S' = S) ∨ ∃ sl k, s0 = nI sl ∧ sl ≤ aMost (m_all S) ∧ k0 = nI k ∧ k ≤ aLen (m_all S) ∧ samM S S' ∧ r = cM (m_all S) j sl k (aPl (m_all S) j))) 0 0 := by
  refine CtL.of (cc := cX8_column) (maxL := 7) (ret := some .long) (by decide +kernel) rfl (Nat.le_of_ble_eq_true rfl) ?_
  intro p e s m args below meth c ls A hC hr hlk hin hK hA hX hl
  have hl : lv_has ls 7 [(0, .ref (am 0)), (1, .int (p0)), (2, .int (s0)), (3, .int (k0))] := hl
  have hokM := hok
  obtain ⟨hokk, hhl, hhs, hsn, hit, hpl0, hpd0⟩ := hok
  obtain ⟨hLn, hPc, hMs, hTx, hPt⟩ := id hokk
  refine lv_aload_n hC.1 hC.2.1 dX8_column_0 rfl (lv_at hl 0 rfl) ?_
  refine lv_iload_n hC.1 hC.2.1 dX8_column_1 rfl (lv_at hl 1 rfl) ?_
  refine cv_I (As := [.int (p0)]) (rest := []) hC hK hA hX (c_X8_isPattern l G am (S) hokk (p0)) (cwV 1 hC.2.2.2.2 gX8_column_X8_isPattern rfl rfl rfl hd_X8_isPattern ⟨Nat.le_of_ble_eq_true rfl, Nat.le_of_ble_eq_true rfl⟩) (ci := 8) (q := (RX8, TX8, 21)) rfl (q0 := 0) rfl dX8_column_2 rfl hl.1 rfl (Nat.le_of_ble_eq_true rfl) ⟨(Nat.zero_le _), (Nat.zero_le _)⟩ (fun r9 S9 H locs hp9 hX => ?_)
  obtain ⟨rfl, hS9⟩ := hp9
  rw [hS9] at hX
  replace hX : HH G A s.heap (wM G am (S)) H locs := hX
  refine b_if_ne hC (b := isPm (m_all S) (p0)) (tgt := 12) dX8_column_5 (by decide) (fun c5 => ?_) (fun c5 => ?_)
  · skip
    obtain ⟨pj, hpj, rfl⟩ := isPm_t c5
    have hp0 : pj < 6 := by omega
    obtain ⟨hpl, hbd, htk⟩ := hPt pj hp0
    refine lv_iload_n hC.1 hC.2.1 dX8_column_12 rfl (lv_at hl 2 rfl) ?_
    refine lv_i2l hC.1 hC.2.1 dX8_column_13 rfl ?_
    refine lv_lconst (v := lN 0) hC.1 hC.2.1 dX8_column_14 rfl ?_
    refine lv_aload_n hC.1 hC.2.1 dX8_column_15 rfl (lv_at hl 0 rfl) ?_
    refine g_m_all hC fi_X8_column_X8 hK hX (wd9 hC 2 rfl) dX8_column_16 ?_
    refine lv_iconst (v := nI (2)) hC.1 hC.2.1 dX8_column_19 rfl ?_
    refine l_m_all hC hK hX (i := 2) (by decide) dX8_column_20 (v := aMost (m_all S)) rfl ?_
    refine lv_i2l (v := lN (aMost (m_all S))) hC.1 hC.2.1 dX8_column_21 (nI_l (by omega)) ?_
    refine ps_I (As := [.long (s0.toInt64), .long (lN 0), .long (lN (aMost (m_all S)))]) (rest := []) hC hK hA hX (c_X8_in l G (s0.toInt64) (lN 0) (lN (aMost (m_all S)))) (va_cwS 3 hC.2.2.2.2 gX8_column_X8_in rfl rfl rfl hd_X8_in_s ⟨Nat.le_of_ble_eq_true rfl, Nat.le_of_ble_eq_true rfl⟩) dX8_column_22 rfl hl.1 rfl (Nat.le_of_ble_eq_true rfl) ⟨(Nat.zero_le _), (Nat.zero_le _)⟩ (fun r9 S9 H locs hp9 hX => ?_)
    obtain rfl : r9 = bI (inC s0 0 (aMost (m_all S))) := by rw [hp9, (show inL s0.toInt64 (lN 0) (lN (aMost (m_all S))) = inC s0 0 (aMost (m_all S)) from inL_c (by first | decide | omega) (by first | decide | omega))]
    replace hX : HH G A s.heap (wM G am (S)) H locs := hX
    refine b_if_eq hC (b := inC s0 0 (aMost (m_all S))) (tgt := 44) dX8_column_25 (by decide) (fun c25 => ?_) (fun c25 => ?_)
    · skip
      refine lv_ldc2 (v := (-2 : Int64)) hC.1 hC.2.1 hC.2.2.2.1 (wd9 hC 3 rfl) dX8_column_44 ?_
      refine r_lreturn hC hr hlk hX dX8_column_47 ?_
      first | exact Or.inr ⟨pj, rfl, hpj, Or.inl ⟨by have := inC_f c25; omega, rfl, rfl⟩⟩ | exact Or.inr ⟨pj, rfl, hpj, Or.inl ⟨by have := inC_f c41; omega, rfl, rfl⟩⟩
    · skip
      obtain ⟨slj, hslj, hslj2, rfl⟩ := inC_t c25 (by omega)
      refine lv_iload_n hC.1 hC.2.1 dX8_column_28 rfl (lv_at hl 3 rfl) ?_
      refine lv_i2l hC.1 hC.2.1 dX8_column_29 rfl ?_
      refine lv_lconst (v := lN 0) hC.1 hC.2.1 dX8_column_30 rfl ?_
      refine lv_aload_n hC.1 hC.2.1 dX8_column_31 rfl (lv_at hl 0 rfl) ?_
      refine g_m_all hC fi_X8_column_X8 hK hX (wd9 hC 2 rfl) dX8_column_32 ?_
      refine lv_iconst (v := nI (0)) hC.1 hC.2.1 dX8_column_35 rfl ?_
      refine l_m_all hC hK hX (i := 0) (by decide) dX8_column_36 (v := aLen (m_all S)) rfl ?_
      refine lv_i2l (v := lN (aLen (m_all S))) hC.1 hC.2.1 dX8_column_37 (nI_l (by omega)) ?_
      refine ps_I (As := [.long (k0.toInt64), .long (lN 0), .long (lN (aLen (m_all S)))]) (rest := []) hC hK hA hX (c_X8_in l G (k0.toInt64) (lN 0) (lN (aLen (m_all S)))) (va_cwS 3 hC.2.2.2.2 gX8_column_X8_in rfl rfl rfl hd_X8_in_s ⟨Nat.le_of_ble_eq_true rfl, Nat.le_of_ble_eq_true rfl⟩) dX8_column_38 rfl hl.1 rfl (Nat.le_of_ble_eq_true rfl) ⟨(Nat.zero_le _), (Nat.zero_le _)⟩ (fun r9 S9 H locs hp9 hX => ?_)
      obtain rfl : r9 = bI (inC k0 0 (aLen (m_all S))) := by rw [hp9, (show inL k0.toInt64 (lN 0) (lN (aLen (m_all S))) = inC k0 0 (aLen (m_all S)) from inL_c (by first | decide | omega) (by first | decide | omega))]
      replace hX : HH G A s.heap (wM G am (S)) H locs := hX
      refine b_if_ne hC (b := inC k0 0 (aLen (m_all S))) (tgt := 48) dX8_column_41 (by decide) (fun c41 => ?_) (fun c41 => ?_)
      · skip
        obtain ⟨kk, hkk, hkk2, rfl⟩ := inC_t c41 (by omega)
        refine lv_aload_n hC.1 hC.2.1 dX8_column_48 rfl (lv_at hl 0 rfl) ?_
        refine lv_iload_n hC.1 hC.2.1 dX8_column_49 rfl (lv_at hl 1 rfl) ?_
        refine cv_V (As := [.int (nI (pj))]) (rest := []) hC hK hA hX (c_X8_finds l G am (S) (pj) hp0 hpl hLn hTx (by omega) (fun j hj => Nat.lt_trans (htk j hj) (by decide))) (cwV 1 hC.2.2.2.2 gX8_column_X8_finds rfl rfl rfl hd_X8_finds ⟨Nat.le_of_ble_eq_true rfl, Nat.le_of_ble_eq_true rfl⟩) (ci := 8) (q := (RX8, TX8, 21)) rfl (q0 := 0) rfl dX8_column_50 rfl hl.1 rfl (Nat.le_of_ble_eq_true rfl) ⟨(Nat.zero_le _), (Nat.zero_le _)⟩ (fun S9 H locs hp9 hX => ?_)
        obtain ⟨f50, g50, hS9, hfin50⟩ := hp9
        rw [hS9] at hX
        replace hX : HH G A s.heap (wM G am (w_begin (w_fewest (S) (f50)) (g50))) H locs := hX
        have hfin : ∀ i9 e9, i9 ≤ aPl (m_all S) pj → e9 ≤ aLen (m_all S) → f50 (121 * i9 + e9) = dcol (aTt (m_all S) pj) (aMb (m_all S) pj) e9 i9 := fun i9 e9 h1 h2 => (hfin50 i9 e9 h1 h2).1
        refine lv_lconst (v := lN 0) hC.1 hC.2.1 dX8_column_53 rfl ?_
        refine lv_lstore (lv' := [(4, .long (lN 0)), (0, .ref (am 0)), (1, .int (nI (pj))), (2, .int (nI (slj))), (3, .int (nI (kk)))]) hC.1 hC.2.1 dX8_column_54 hl (by decide) rfl (fun ls hl => ?_)
        refine lv_iconst (v := nI (0)) hC.1 hC.2.1 dX8_column_56 rfl ?_
        refine lv_istore (lv' := [(6, .int (nI (0))), (4, .long (lN 0)), (0, .ref (am 0)), (1, .int (nI (pj))), (2, .int (nI (slj))), (3, .int (nI (kk)))]) hC.1 hC.2.1 dX8_column_57 hl (by decide) rfl (fun ls hl => ?_)
        have loop59 : ∀ (n9 : Nat) (i : Nat), (i ≤ aPl (m_all S) pj) → aPl (m_all S) pj - i < n9 → ∀ (H : Heap) (locs : List Loc) (ls : Array Slot), HH G A s.heap (wM G am (w_begin (w_fewest (S) (f50)) (g50))) H locs → lv_has ls 7 [(6, .int (nI (i))), (4, .long (cM (m_all S) pj slj kk i)), (0, .ref (am 0)), (1, .int (nI (pj))), (2, .int (nI (slj))), (3, .int (nI (kk)))] → W p l e { frames := 3, cells := 0, slots := 0, locals := 69 } s m args below meth c H locs 0 0 (EndL G (wM G am) A (fun r S' => (isPm (m_all S) (nI (pj)) = false ∧ r = -1 ∧ S' = S) ∨ ∃ j, (nI (pj)) = nI j ∧ j < aPc (m_all S) ∧ ((((nI (slj)).toInt < 0 ∨ aMost (m_all S) < (nI (slj)).toInt ∨ (nI (kk)).toInt < 0 ∨ aLen (m_all S) < (nI (kk)).toInt) ∧ r = -2 ∧ S' = S) ∨ ∃ sl k, (nI (slj)) = nI sl ∧ sl ≤ aMost (m_all S) ∧ (nI (kk)) = nI k ∧ k ≤ aLen (m_all S) ∧ samM S S' ∧ r = cM (m_all S) j sl k (aPl (m_all S) j))) below args s 0 0) (F0 m 59 ls []) := by
          intro n9
          induction n9 with
          | zero => intro i hi hn9; exact absurd hn9 (Nat.not_lt_zero _)
          | succ n9 ih59 =>
            intro i hi hn9 H locs ls hX hl
            refine lv_iload hC.1 hC.2.1 dX8_column_59 (lv_at hl 0 rfl) ?_
            refine lv_aload_n hC.1 hC.2.1 dX8_column_61 rfl (lv_at hl 2 rfl) ?_
            refine lv_iload_n hC.1 hC.2.1 dX8_column_62 rfl (lv_at hl 3 rfl) ?_
            refine cv_I (As := [.int (nI (pj))]) (rest := [.int (nI (i))]) hC hK hA hX (c_X8_places l G am (w_begin (w_fewest (S) (f50)) (g50)) (pj) (by omega)) (cwV 1 hC.2.2.2.2 gX8_column_X8_places rfl rfl rfl hd_X8_places ⟨Nat.le_of_ble_eq_true rfl, Nat.le_of_ble_eq_true rfl⟩) (ci := 8) (q := (RX8, TX8, 21)) rfl (q0 := 0) rfl dX8_column_63 rfl hl.1 rfl (Nat.le_of_ble_eq_true rfl) ⟨(Nat.zero_le _), (Nat.zero_le _)⟩ (fun r9 S9 H locs hp9 hX => ?_)
            obtain ⟨rfl, hS9⟩ := hp9
            rw [hS9] at hX
            replace hX : HH G A s.heap (wM G am (w_begin (w_fewest (S) (f50)) (g50))) H locs := hX
            refine n_icmp_ge hC (a := i) (b := aPl (m_all S) (pj)) (tgt := 106) dX8_column_66 (by decide) (by omega) (by omega) (fun c66 => ?_) (fun c66 => ?_)
            · skip
              refine lv_lload hC.1 hC.2.1 dX8_column_106 (lv_at hl 1 rfl) ?_
              refine r_lreturn hC hr hlk hX dX8_column_108 ?_
              obtain rfl : i = aPl (m_all S) pj := by omega
              exact Or.inr ⟨pj, rfl, hpj, Or.inr ⟨slj, kk, rfl, hslj2, rfl, hkk2, ⟨rfl, rfl, rfl, rfl, rfl, rfl, rfl⟩, rfl⟩⟩
            · skip
              have join97 : ∀ (H : Heap) (locs : List Loc) (ls : Array Slot), HH G A s.heap (wM G am (w_begin (w_fewest (S) (f50)) (g50))) H locs → lv_has ls 7 [(6, .int (nI (i))), (4, .long (cM (m_all S) pj slj kk i)), (0, .ref (am 0)), (1, .int (nI (pj))), (2, .int (nI (slj))), (3, .int (nI (kk)))] → W p l e { frames := 3, cells := 0, slots := 0, locals := 69 } s m args below meth c H locs 0 0 (EndL G (wM G am) A (fun r S' => (isPm (m_all S) (nI (pj)) = false ∧ r = -1 ∧ S' = S) ∨ ∃ j, (nI (pj)) = nI j ∧ j < aPc (m_all S) ∧ ((((nI (slj)).toInt < 0 ∨ aMost (m_all S) < (nI (slj)).toInt ∨ (nI (kk)).toInt < 0 ∨ aLen (m_all S) < (nI (kk)).toInt) ∧ r = -2 ∧ S' = S) ∨ ∃ sl k, (nI (slj)) = nI sl ∧ sl ≤ aMost (m_all S) ∧ (nI (kk)) = nI k ∧ k ≤ aLen (m_all S) ∧ samM S S' ∧ r = cM (m_all S) j sl k (aPl (m_all S) j))) below args s 0 0) (F0 m 97 ls [.long (if dcol (aTt (m_all S) pj) (aMb (m_all S) pj) kk (i + 1) ≤ slj then lN 1 <<< ((nI i).toInt64 &&& 63) else lN 0), .long (cM (m_all S) pj slj kk i)]) := by
                intro  H locs ls  hX hl
                refine lv_lor hC.1 hC.2.1 dX8_column_97 ?_
                refine n_topl (y := cM (m_all S) pj slj kk (i + 1)) rfl ?_
                refine lv_lstore (lv' := [(4, .long (cM (m_all S) pj slj kk (i + 1))), (6, .int (nI (i))), (0, .ref (am 0)), (1, .int (nI (pj))), (2, .int (nI (slj))), (3, .int (nI (kk)))]) hC.1 hC.2.1 dX8_column_98 hl (by decide) rfl (fun ls hl => ?_)
                refine lv_iinc (v := nI (i + 1)) (lv' := [(6, .int (nI (i + 1))), (4, .long (cM (m_all S) pj slj kk (i + 1))), (0, .ref (am 0)), (1, .int (nI (pj))), (2, .int (nI (slj))), (3, .int (nI (kk)))]) hC.1 hC.2.1 dX8_column_100 hl (k := 1) rfl (n_inc1 _) (by decide) rfl (fun ls hl => ?_)
                refine lv_goto (tgt := 59) hC.1 hC.2.1 dX8_column_103 (by decide) ?_
                refine ih59 (i + 1) ?_ ?_ _ _ ls hX (lv_sub hl [0, 1, 2, 3, 4, 5] rfl)
                · omega
                · omega
              refine lv_lload hC.1 hC.2.1 dX8_column_69 (lv_at hl 1 rfl) ?_
              refine lv_aload_n hC.1 hC.2.1 dX8_column_71 rfl (lv_at hl 2 rfl) ?_
              refine g_m_fewest hC fi_X8_column_X8 hK hX (wd9 hC 4 rfl) dX8_column_72 ?_
              refine lv_bipush (v := nI (121)) hC.1 hC.2.1 dX8_column_75 (by decide +kernel) ?_
              refine lv_iload hC.1 hC.2.1 dX8_column_77 (lv_at hl 0 rfl) ?_
              refine lv_iconst (v := nI (1)) hC.1 hC.2.1 dX8_column_79 rfl ?_
              refine n_add hC (a := i) (b := 1) dX8_column_80 ?_
              refine n_mul hC (a := 121) (b := i + 1) dX8_column_81 ?_
              refine lv_iload_n hC.1 hC.2.1 dX8_column_82 rfl (lv_at hl 5 rfl) ?_
              refine n_add hC (a := (121) * (i + 1)) (b := kk) dX8_column_83 ?_
              refine l_m_fewest hC hK hX (i := ((121) * (i + 1)) + (kk)) (by omega) dX8_column_84 (v := dcol (aTt (m_all S) pj) (aMb (m_all S) pj) kk (i + 1)) (hfin (i + 1) kk (by omega) (by omega)) ?_
              refine lv_iload_n hC.1 hC.2.1 dX8_column_85 rfl (lv_at hl 4 rfl) ?_
              refine n_icmp_gt hC (a := dcol (aTt (m_all S) pj) (aMb (m_all S) pj) kk (i + 1)) (b := slj) (tgt := 96) dX8_column_86 (by decide) (by have := dcol_le (aTt (m_all S) pj) (aMb (m_all S) pj) kk (i + 1); omega) (by omega) (fun c86 => ?_) (fun c86 => ?_)
              · skip
                refine lv_lconst (v := lN 0) hC.1 hC.2.1 dX8_column_96 rfl ?_
                refine n_topl (y := if dcol (aTt (m_all S) pj) (aMb (m_all S) pj) kk (i + 1) ≤ slj then lN 1 <<< ((nI i).toInt64 &&& 63) else lN 0) (by first | rw [if_pos (by omega)] | rw [if_neg (by omega)]) ?_
                refine join97  _ _ ls  hX (lv_sub hl [0, 1, 2, 3, 4, 5] rfl)
              · skip
                refine lv_lconst (v := lN 1) hC.1 hC.2.1 dX8_column_89 rfl ?_
                refine lv_iload hC.1 hC.2.1 dX8_column_90 (lv_at hl 0 rfl) ?_
                refine lv_lshl hC.1 hC.2.1 dX8_column_92 rfl ?_
                refine lv_goto (tgt := 97) hC.1 hC.2.1 dX8_column_93 (by decide) ?_
                refine n_topl (y := if dcol (aTt (m_all S) pj) (aMb (m_all S) pj) kk (i + 1) ≤ slj then lN 1 <<< ((nI i).toInt64 &&& 63) else lN 0) (by first | rw [if_pos (by omega)] | rw [if_neg (by omega)]) ?_
                refine join97  _ _ ls  hX (lv_sub hl [0, 1, 2, 3, 4, 5] rfl)
        refine loop59 _ (0) ?_ (Nat.lt_succ_self _) _ _ ls hX (lv_sub hl [0, 1, 2, 3, 4, 5] rfl)
        · omega
      · skip
        refine lv_ldc2 (v := (-2 : Int64)) hC.1 hC.2.1 hC.2.2.2.1 (wd9 hC 3 rfl) dX8_column_44 ?_
        refine r_lreturn hC hr hlk hX dX8_column_47 ?_
        first | exact Or.inr ⟨pj, rfl, hpj, Or.inl ⟨by have := inC_f c25; omega, rfl, rfl⟩⟩ | exact Or.inr ⟨pj, rfl, hpj, Or.inl ⟨by have := inC_f c41; omega, rfl, rfl⟩⟩
  · skip
    refine lv_ldc2 (v := (-1 : Int64)) hC.1 hC.2.1 hC.2.2.2.1 (wd9 hC 1 rfl) dX8_column_8 ?_
    refine r_lreturn hC hr hlk hX dX8_column_11 ?_
    exact Or.inl ⟨c5, rfl, rfl⟩
theorem fi_X8_slips_X8 : ∀ w ∈ wsX80, w ∈ wsX8_slips := by decide +kernel
theorem hd_X8_fits : yX8_fits.cls = RX8 ∧ yX8_fits.cls ≠ "java/lang/invoke/MethodHandle" ∧ yX8_fits.cls ≠ "java/lang/invoke/VarHandle" ∧ (parseMethodDescriptor yX8_fits.desc).map (fun d => d.parameters.length) = some 3 := by decide +kernel
theorem hd_X8_goesBack : yX8_goesBack.cls = RX8 ∧ yX8_goesBack.cls ≠ "java/lang/invoke/MethodHandle" ∧ yX8_goesBack.cls ≠ "java/lang/invoke/VarHandle" ∧ (parseMethodDescriptor yX8_goesBack.desc).map (fun d => d.parameters.length) = some 3 := by decide +kernel
set_option maxHeartbeats 4000000 in
set_option maxRecDepth 100000 in
theorem c_X8_slips (l : Launch) (G : GX) (am : Nat → Nat) (S : MS) (hok : okM S) (p0 f0 t0 w0 : Int32) : CtI l yX8_slips wsX8_slips { frames := 3, cells := 0, slots := 0, locals := 73 } G (wM G am) (S) [.ref (am 0), .int (p0), .int (f0), .int (t0), .int (w0)] (fun r S' => (isPm (m_all S) p0 = false ∧ r = -1 ∧ S' = S) ∨ ∃ j, p0 = nI j ∧ j < aPc (m_all S) ∧ (((f0.toInt < 0 ∨ t0.toInt < f0.toInt ∨ aLen (m_all S) < f0.toInt ∨ aLen (m_all S) < t0.toInt ∨ w0.toInt < 0 ∨ 3 < w0.toInt) ∧ r = -2 ∧ S' = S) ∨ ∃ f t w, f0 = nI f ∧ t0 = nI t ∧ f ≤ t ∧ t ≤ aLen (m_all S) ∧ w0 = nI w ∧ w ≤ 3 ∧ samM S S' ∧ ∃ a b c, wsum a b c = wcol (aTt (m_all S) j) f (t - f) (aPl (m_all S) j) ∧ r = if w = 0 then nI (a + b + c) else if w = 1 then nI a else if w = 2 then nI b else nI c)) 0 0 := by
  refine CtI.of (cc := cX8_slips) (maxL := 5) (ret := some .int) (by decide +kernel) rfl (Nat.le_of_ble_eq_true rfl) ?_
  intro p e s m args below meth c ls A hC hr hlk hin hK hA hX hl
  have hl : lv_has ls 5 [(0, .ref (am 0)), (1, .int (p0)), (2, .int (f0)), (3, .int (t0)), (4, .int (w0))] := hl
  have hokM := hok
  obtain ⟨hokk, hhl, hhs, hsn, hit, hpl0, hpd0⟩ := hok
  obtain ⟨hLn, hPc, hMs, hTx, hPt⟩ := id hokk
  refine lv_aload_n hC.1 hC.2.1 dX8_slips_0 rfl (lv_at hl 0 rfl) ?_
  refine lv_iload_n hC.1 hC.2.1 dX8_slips_1 rfl (lv_at hl 1 rfl) ?_
  refine cv_I (As := [.int (p0)]) (rest := []) hC hK hA hX (c_X8_isPattern l G am (S) hokk (p0)) (cwV 1 hC.2.2.2.2 gX8_slips_X8_isPattern rfl rfl rfl hd_X8_isPattern ⟨Nat.le_of_ble_eq_true rfl, Nat.le_of_ble_eq_true rfl⟩) (ci := 8) (q := (RX8, TX8, 21)) rfl (q0 := 0) rfl dX8_slips_2 rfl hl.1 rfl (Nat.le_of_ble_eq_true rfl) ⟨(Nat.zero_le _), (Nat.zero_le _)⟩ (fun r9 S9 H locs hp9 hX => ?_)
  obtain ⟨rfl, hS9⟩ := hp9
  rw [hS9] at hX
  replace hX : HH G A s.heap (wM G am (S)) H locs := hX
  refine b_if_ne hC (b := isPm (m_all S) (p0)) (tgt := 10) dX8_slips_5 (by decide) (fun c5 => ?_) (fun c5 => ?_)
  · skip
    obtain ⟨pj, hpj, rfl⟩ := isPm_t c5
    have hp0 : pj < 6 := by omega
    obtain ⟨hpl, hbd, htk⟩ := hPt pj hp0
    refine lv_iload_n hC.1 hC.2.1 dX8_slips_10 rfl (lv_at hl 2 rfl) ?_
    refine lv_i2l hC.1 hC.2.1 dX8_slips_11 rfl ?_
    refine lv_lconst (v := lN 0) hC.1 hC.2.1 dX8_slips_12 rfl ?_
    refine lv_aload_n hC.1 hC.2.1 dX8_slips_13 rfl (lv_at hl 0 rfl) ?_
    refine g_m_all hC fi_X8_slips_X8 hK hX (wd9 hC 1 rfl) dX8_slips_14 ?_
    refine lv_iconst (v := nI (0)) hC.1 hC.2.1 dX8_slips_17 rfl ?_
    refine l_m_all hC hK hX (i := 0) (by decide) dX8_slips_18 (v := aLen (m_all S)) rfl ?_
    refine lv_i2l (v := lN (aLen (m_all S))) hC.1 hC.2.1 dX8_slips_19 (nI_l (by omega)) ?_
    refine ps_I (As := [.long (f0.toInt64), .long (lN 0), .long (lN (aLen (m_all S)))]) (rest := []) hC hK hA hX (c_X8_in l G (f0.toInt64) (lN 0) (lN (aLen (m_all S)))) (va_cwS 3 hC.2.2.2.2 gX8_slips_X8_in rfl rfl rfl hd_X8_in_s ⟨Nat.le_of_ble_eq_true rfl, Nat.le_of_ble_eq_true rfl⟩) dX8_slips_20 rfl hl.1 rfl (Nat.le_of_ble_eq_true rfl) ⟨(Nat.zero_le _), (Nat.zero_le _)⟩ (fun r9 S9 H locs hp9 hX => ?_)
    obtain rfl : r9 = bI (inC f0 0 (aLen (m_all S))) := by rw [hp9, (show inL f0.toInt64 (lN 0) (lN (aLen (m_all S))) = inC f0 0 (aLen (m_all S)) from inL_c (by first | decide | omega) (by first | decide | omega))]
    replace hX : HH G A s.heap (wM G am (S)) H locs := hX
    refine b_if_eq hC (b := inC f0 0 (aLen (m_all S))) (tgt := 56) dX8_slips_23 (by decide) (fun c23 => ?_) (fun c23 => ?_)
    · skip
      refine lv_bipush (v := (-2)) hC.1 hC.2.1 dX8_slips_56 (by decide +kernel) ?_
      refine r_ireturn hC hr hlk hX dX8_slips_58 ?_
      first | exact Or.inr ⟨pj, rfl, hpj, Or.inl ⟨by have := inC_f c23; omega, rfl, rfl⟩⟩ | exact Or.inr ⟨pj, rfl, hpj, Or.inl ⟨by have := inC_f c40; rw [nI_toInt (by omega)]; omega, rfl, rfl⟩⟩ | exact Or.inr ⟨pj, rfl, hpj, Or.inl ⟨by have := inC_f c53; omega, rfl, rfl⟩⟩
    · skip
      obtain ⟨ff, hff, hff2, rfl⟩ := inC_t c23 (by omega)
      refine lv_iload_n hC.1 hC.2.1 dX8_slips_26 rfl (lv_at hl 3 rfl) ?_
      refine lv_i2l hC.1 hC.2.1 dX8_slips_27 rfl ?_
      refine lv_iload_n hC.1 hC.2.1 dX8_slips_28 rfl (lv_at hl 2 rfl) ?_
      refine lv_i2l (v := lN (ff)) hC.1 hC.2.1 dX8_slips_29 (nI_l (by omega)) ?_
      refine lv_aload_n hC.1 hC.2.1 dX8_slips_30 rfl (lv_at hl 0 rfl) ?_
      refine g_m_all hC fi_X8_slips_X8 hK hX (wd9 hC 1 rfl) dX8_slips_31 ?_
      refine lv_iconst (v := nI (0)) hC.1 hC.2.1 dX8_slips_34 rfl ?_
      refine l_m_all hC hK hX (i := 0) (by decide) dX8_slips_35 (v := aLen (m_all S)) rfl ?_
      refine lv_i2l (v := lN (aLen (m_all S))) hC.1 hC.2.1 dX8_slips_36 (nI_l (by omega)) ?_
      refine ps_I (As := [.long (t0.toInt64), .long (lN (ff)), .long (lN (aLen (m_all S)))]) (rest := []) hC hK hA hX (c_X8_in l G (t0.toInt64) (lN (ff)) (lN (aLen (m_all S)))) (va_cwS 3 hC.2.2.2.2 gX8_slips_X8_in rfl rfl rfl hd_X8_in_s ⟨Nat.le_of_ble_eq_true rfl, Nat.le_of_ble_eq_true rfl⟩) dX8_slips_37 rfl hl.1 rfl (Nat.le_of_ble_eq_true rfl) ⟨(Nat.zero_le _), (Nat.zero_le _)⟩ (fun r9 S9 H locs hp9 hX => ?_)
      obtain rfl : r9 = bI (inC t0 ff (aLen (m_all S))) := by rw [hp9, (show inL t0.toInt64 (lN ff) (lN (aLen (m_all S))) = inC t0 ff (aLen (m_all S)) from inL_c (by first | decide | omega) (by first | decide | omega))]
      replace hX : HH G A s.heap (wM G am (S)) H locs := hX
      refine b_if_eq hC (b := inC t0 ff (aLen (m_all S))) (tgt := 56) dX8_slips_40 (by decide) (fun c40 => ?_) (fun c40 => ?_)
      · skip
        refine lv_bipush (v := (-2)) hC.1 hC.2.1 dX8_slips_56 (by decide +kernel) ?_
        refine r_ireturn hC hr hlk hX dX8_slips_58 ?_
        first | exact Or.inr ⟨pj, rfl, hpj, Or.inl ⟨by have := inC_f c23; omega, rfl, rfl⟩⟩ | exact Or.inr ⟨pj, rfl, hpj, Or.inl ⟨by have := inC_f c40; rw [nI_toInt (by omega)]; omega, rfl, rfl⟩⟩ | exact Or.inr ⟨pj, rfl, hpj, Or.inl ⟨by have := inC_f c53; omega, rfl, rfl⟩⟩
      · skip
        obtain ⟨tt, htt, htt2, rfl⟩ := inC_t c40 (by omega)
        refine lv_iload hC.1 hC.2.1 dX8_slips_43 (lv_at hl 4 rfl) ?_
        refine lv_i2l hC.1 hC.2.1 dX8_slips_45 rfl ?_
        refine lv_lconst (v := lN 0) hC.1 hC.2.1 dX8_slips_46 rfl ?_
        refine lv_ldc2 (v := (3 : Int64)) hC.1 hC.2.1 hC.2.2.2.1 (wd9 hC 2 rfl) dX8_slips_47 ?_
        refine ps_I (As := [.long (w0.toInt64), .long (lN 0), .long ((3 : Int64))]) (rest := []) hC hK hA hX (c_X8_in l G (w0.toInt64) (lN 0) ((3 : Int64))) (va_cwS 3 hC.2.2.2.2 gX8_slips_X8_in rfl rfl rfl hd_X8_in_s ⟨Nat.le_of_ble_eq_true rfl, Nat.le_of_ble_eq_true rfl⟩) dX8_slips_50 rfl hl.1 rfl (Nat.le_of_ble_eq_true rfl) ⟨(Nat.zero_le _), (Nat.zero_le _)⟩ (fun r9 S9 H locs hp9 hX => ?_)
        obtain rfl : r9 = bI (inC w0 0 3) := by rw [hp9, (show inL w0.toInt64 (lN 0) ((3 : Int64)) = inC w0 0 3 from inL_c (by first | decide | omega) (by first | decide | omega))]
        replace hX : HH G A s.heap (wM G am (S)) H locs := hX
        refine b_if_ne hC (b := inC w0 0 3) (tgt := 59) dX8_slips_53 (by decide) (fun c53 => ?_) (fun c53 => ?_)
        · skip
          obtain ⟨ww, hww, hww2, rfl⟩ := inC_t c53 (by omega)
          refine lv_aload_n hC.1 hC.2.1 dX8_slips_59 rfl (lv_at hl 0 rfl) ?_
          refine lv_iload_n hC.1 hC.2.1 dX8_slips_60 rfl (lv_at hl 1 rfl) ?_
          refine lv_iload_n hC.1 hC.2.1 dX8_slips_61 rfl (lv_at hl 2 rfl) ?_
          refine lv_iload_n hC.1 hC.2.1 dX8_slips_62 rfl (lv_at hl 3 rfl) ?_
          refine cv_V (As := [.int (nI (pj)), .int (nI (ff)), .int (nI (tt))]) (rest := []) hC hK hA hX (c_X8_fits l G am (S) hokk (pj) (ff) (tt) hp0 (by omega) (by omega)) (cwV 3 hC.2.2.2.2 gX8_slips_X8_fits rfl rfl rfl hd_X8_fits ⟨Nat.le_of_ble_eq_true rfl, Nat.le_of_ble_eq_true rfl⟩) (ci := 8) (q := (RX8, TX8, 21)) rfl (q0 := 0) rfl dX8_slips_63 rfl hl.1 rfl (Nat.le_of_ble_eq_true rfl) ⟨(Nat.zero_le _), (Nat.zero_le _)⟩ (fun S9 H locs hp9 hX => ?_)
          obtain ⟨pf63, hS9, hpf63⟩ := hp9
          rw [hS9] at hX
          replace hX : HH G A s.heap (wM G am (w_part (S) (pf63))) H locs := hX
          refine lv_aload_n hC.1 hC.2.1 dX8_slips_66 rfl (lv_at hl 0 rfl) ?_
          refine lv_iload_n hC.1 hC.2.1 dX8_slips_67 rfl (lv_at hl 1 rfl) ?_
          refine lv_iload_n hC.1 hC.2.1 dX8_slips_68 rfl (lv_at hl 2 rfl) ?_
          refine lv_iload_n hC.1 hC.2.1 dX8_slips_69 rfl (lv_at hl 3 rfl) ?_
          refine cv_V (As := [.int (nI (pj)), .int (nI (ff)), .int (nI (tt))]) (rest := []) hC hK hA hX (c_X8_goesBack l G am (w_part (S) (pf63)) hokk (pj) (ff) (tt) hp0 (by omega) (by omega) hpf63) (cwV 3 hC.2.2.2.2 gX8_slips_X8_goesBack rfl rfl rfl hd_X8_goesBack ⟨Nat.le_of_ble_eq_true rfl, Nat.le_of_ble_eq_true rfl⟩) (ci := 8) (q := (RX8, TX8, 21)) rfl (q0 := 0) rfl dX8_slips_70 rfl hl.1 rfl (Nat.le_of_ble_eq_true rfl) ⟨(Nat.zero_le _), (Nat.zero_le _)⟩ (fun S9 H locs hp9 hX => ?_)
          obtain ⟨qa70, qb70, qc70, hS9, hqs70⟩ := hp9
          rw [hS9] at hX
          replace hX : HH G A s.heap (wM G am (w_exchanged (w_leftOut (w_putIn (w_part (S) (pf63)) (qa70)) (qb70)) (qc70))) H locs := hX
          refine lv_iload hC.1 hC.2.1 dX8_slips_73 (lv_at hl 4 rfl) ?_
          refine n_if_ne hC (a := ww) (tgt := 95) dX8_slips_75 (by decide) (by omega) (fun c75 => ?_) (fun c75 => ?_)
          · skip
            refine lv_iload hC.1 hC.2.1 dX8_slips_95 (lv_at hl 4 rfl) ?_
            refine lv_iconst (v := nI (1)) hC.1 hC.2.1 dX8_slips_97 rfl ?_
            refine n_icmp_ne hC (a := ww) (b := 1) (tgt := 108) dX8_slips_98 (by decide) (by omega) (by decide) (fun c98 => ?_) (fun c98 => ?_)
            · skip
              refine lv_iload hC.1 hC.2.1 dX8_slips_108 (lv_at hl 4 rfl) ?_
              refine lv_iconst (v := nI (2)) hC.1 hC.2.1 dX8_slips_110 rfl ?_
              refine n_icmp_ne hC (a := ww) (b := 2) (tgt := 121) dX8_slips_111 (by decide) (by omega) (by decide) (fun c111 => ?_) (fun c111 => ?_)
              · skip
                refine lv_aload_n hC.1 hC.2.1 dX8_slips_121 rfl (lv_at hl 0 rfl) ?_
                refine g_m_exchanged hC fi_X8_slips_X8 hK hX (wd9 hC 5 rfl) dX8_slips_122 (v := qc70) rfl ?_
                refine r_ireturn hC hr hlk hX dX8_slips_125 ?_
                exact Or.inr ⟨pj, rfl, hpj, Or.inr ⟨ff, tt, ww, rfl, rfl, htt, htt2, rfl, hww2, ⟨rfl, rfl, rfl, rfl, rfl, rfl, rfl⟩, qa70, qb70, qc70, hqs70, by first | rw [if_pos c75] | rw [if_neg c75, if_pos c98] | rw [if_neg c75, if_neg c98, if_pos c111] | rw [if_neg c75, if_neg c98, if_neg c111]⟩⟩
              · skip
                refine lv_aload_n hC.1 hC.2.1 dX8_slips_114 rfl (lv_at hl 0 rfl) ?_
                refine g_m_leftOut hC fi_X8_slips_X8 hK hX (wd9 hC 4 rfl) dX8_slips_115 (v := qb70) rfl ?_
                refine lv_goto (tgt := 125) hC.1 hC.2.1 dX8_slips_118 (by decide) ?_
                refine r_ireturn hC hr hlk hX dX8_slips_125 ?_
                exact Or.inr ⟨pj, rfl, hpj, Or.inr ⟨ff, tt, ww, rfl, rfl, htt, htt2, rfl, hww2, ⟨rfl, rfl, rfl, rfl, rfl, rfl, rfl⟩, qa70, qb70, qc70, hqs70, by first | rw [if_pos c75] | rw [if_neg c75, if_pos c98] | rw [if_neg c75, if_neg c98, if_pos c111] | rw [if_neg c75, if_neg c98, if_neg c111]⟩⟩
            · skip
              refine lv_aload_n hC.1 hC.2.1 dX8_slips_101 rfl (lv_at hl 0 rfl) ?_
              refine g_m_putIn hC fi_X8_slips_X8 hK hX (wd9 hC 3 rfl) dX8_slips_102 (v := qa70) rfl ?_
              refine lv_goto (tgt := 125) hC.1 hC.2.1 dX8_slips_105 (by decide) ?_
              refine r_ireturn hC hr hlk hX dX8_slips_125 ?_
              exact Or.inr ⟨pj, rfl, hpj, Or.inr ⟨ff, tt, ww, rfl, rfl, htt, htt2, rfl, hww2, ⟨rfl, rfl, rfl, rfl, rfl, rfl, rfl⟩, qa70, qb70, qc70, hqs70, by first | rw [if_pos c75] | rw [if_neg c75, if_pos c98] | rw [if_neg c75, if_neg c98, if_pos c111] | rw [if_neg c75, if_neg c98, if_neg c111]⟩⟩
          · skip
            refine lv_aload_n hC.1 hC.2.1 dX8_slips_78 rfl (lv_at hl 0 rfl) ?_
            refine g_m_putIn hC fi_X8_slips_X8 hK hX (wd9 hC 3 rfl) dX8_slips_79 (v := qa70) rfl ?_
            refine lv_aload_n hC.1 hC.2.1 dX8_slips_82 rfl (lv_at hl 0 rfl) ?_
            refine g_m_leftOut hC fi_X8_slips_X8 hK hX (wd9 hC 4 rfl) dX8_slips_83 (v := qb70) rfl ?_
            refine n_add hC (a := qa70) (b := qb70) dX8_slips_86 ?_
            refine lv_aload_n hC.1 hC.2.1 dX8_slips_87 rfl (lv_at hl 0 rfl) ?_
            refine g_m_exchanged hC fi_X8_slips_X8 hK hX (wd9 hC 5 rfl) dX8_slips_88 (v := qc70) rfl ?_
            refine n_add hC (a := qa70 + qb70) (b := qc70) dX8_slips_91 ?_
            refine lv_goto (tgt := 125) hC.1 hC.2.1 dX8_slips_92 (by decide) ?_
            refine r_ireturn hC hr hlk hX dX8_slips_125 ?_
            exact Or.inr ⟨pj, rfl, hpj, Or.inr ⟨ff, tt, ww, rfl, rfl, htt, htt2, rfl, hww2, ⟨rfl, rfl, rfl, rfl, rfl, rfl, rfl⟩, qa70, qb70, qc70, hqs70, by first | rw [if_pos c75] | rw [if_neg c75, if_pos c98] | rw [if_neg c75, if_neg c98, if_pos c111] | rw [if_neg c75, if_neg c98, if_neg c111]⟩⟩
        · skip
          refine lv_bipush (v := (-2)) hC.1 hC.2.1 dX8_slips_56 (by decide +kernel) ?_
          refine r_ireturn hC hr hlk hX dX8_slips_58 ?_
          first | exact Or.inr ⟨pj, rfl, hpj, Or.inl ⟨by have := inC_f c23; omega, rfl, rfl⟩⟩ | exact Or.inr ⟨pj, rfl, hpj, Or.inl ⟨by have := inC_f c40; rw [nI_toInt (by omega)]; omega, rfl, rfl⟩⟩ | exact Or.inr ⟨pj, rfl, hpj, Or.inl ⟨by have := inC_f c53; omega, rfl, rfl⟩⟩
  · skip
    refine lv_iconst (v := (-1)) hC.1 hC.2.1 dX8_slips_8 rfl ?_
    refine r_ireturn hC hr hlk hX dX8_slips_9 ?_
    exact Or.inl ⟨c5, rfl, rfl⟩
